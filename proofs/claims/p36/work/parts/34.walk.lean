theorem d_L_law_0 : decode (pw_cc cx_L_law) 0 = .ok (.new 8, 3) := by decide +kernel
theorem d_L_law_3 : decode (pw_cc cx_L_law) 3 = .ok (.dup, 1) := by decide +kernel
theorem d_L_law_4 : decode (pw_cc cx_L_law) 4 = .ok (.invokespecial 100, 3) := by decide +kernel
theorem d_L_law_7 : decode (pw_cc cx_L_law) 7 = .ok (.astore_n 1, 1) := by decide +kernel
theorem d_L_law_8 : decode (pw_cc cx_L_law) 8 = .ok (.iconst 0, 1) := by decide +kernel
theorem d_L_law_9 : decode (pw_cc cx_L_law) 9 = .ok (.istore_n 2, 1) := by decide +kernel
theorem d_L_law_10 : decode (pw_cc cx_L_law) 10 = .ok (.iconst 0, 1) := by decide +kernel
theorem d_L_law_11 : decode (pw_cc cx_L_law) 11 = .ok (.istore_n 3, 1) := by decide +kernel
theorem d_L_law_12 : decode (pw_cc cx_L_law) 12 = .ok (.aload_n 1, 1) := by decide +kernel
theorem d_L_law_13 : decode (pw_cc cx_L_law) 13 = .ok (.invokestatic 101, 3) := by decide +kernel
theorem d_L_law_16 : decode (pw_cc cx_L_law) 16 = .ok (.istore 4, 2) := by decide +kernel
theorem d_L_law_18 : decode (pw_cc cx_L_law) 18 = .ok (.aload_n 0, 1) := by decide +kernel
theorem d_L_law_19 : decode (pw_cc cx_L_law) 19 = .ok (.arraylength, 1) := by decide +kernel
theorem d_L_law_20 : decode (pw_cc cx_L_law) 20 = .ok (.bipush 40, 2) := by decide +kernel
theorem d_L_law_22 : decode (pw_cc cx_L_law) 22 = .ok (.if_icmp .ge 9, 3) := by decide +kernel
theorem d_L_law_25 : decode (pw_cc cx_L_law) 25 = .ok (.sipush 130, 3) := by decide +kernel
theorem d_L_law_28 : decode (pw_cc cx_L_law) 28 = .ok (.goto 20, 3) := by decide +kernel
theorem d_L_law_31 : decode (pw_cc cx_L_law) 31 = .ok (.aload_n 0, 1) := by decide +kernel
theorem d_L_law_32 : decode (pw_cc cx_L_law) 32 = .ok (.arraylength, 1) := by decide +kernel
theorem d_L_law_33 : decode (pw_cc cx_L_law) 33 = .ok (.bipush 80, 2) := by decide +kernel
theorem d_L_law_35 : decode (pw_cc cx_L_law) 35 = .ok (.if_icmp .ge 10, 3) := by decide +kernel
theorem d_L_law_38 : decode (pw_cc cx_L_law) 38 = .ok (.iconst 2, 1) := by decide +kernel
theorem d_L_law_39 : decode (pw_cc cx_L_law) 39 = .ok (.aload_n 0, 1) := by decide +kernel
theorem d_L_law_40 : decode (pw_cc cx_L_law) 40 = .ok (.arraylength, 1) := by decide +kernel
theorem d_L_law_41 : decode (pw_cc cx_L_law) 41 = .ok (.imul, 1) := by decide +kernel
theorem d_L_law_42 : decode (pw_cc cx_L_law) 42 = .ok (.goto 6, 3) := by decide +kernel
theorem d_L_law_45 : decode (pw_cc cx_L_law) 45 = .ok (.sipush 210, 3) := by decide +kernel
theorem d_L_law_48 : decode (pw_cc cx_L_law) 48 = .ok (.istore 5, 2) := by decide +kernel
theorem d_L_law_50 : decode (pw_cc cx_L_law) 50 = .ok (.iconst 0, 1) := by decide +kernel
theorem d_L_law_51 : decode (pw_cc cx_L_law) 51 = .ok (.istore 6, 2) := by decide +kernel
theorem d_L_law_53 : decode (pw_cc cx_L_law) 53 = .ok (.iload 6, 2) := by decide +kernel
theorem d_L_law_55 : decode (pw_cc cx_L_law) 55 = .ok (.iload 5, 2) := by decide +kernel
theorem d_L_law_57 : decode (pw_cc cx_L_law) 57 = .ok (.if_icmp .ge 1826, 3) := by decide +kernel
theorem d_L_law_60 : decode (pw_cc cx_L_law) 60 = .ok (.iload 4, 2) := by decide +kernel
theorem d_L_law_62 : decode (pw_cc cx_L_law) 62 = .ok (.ifCond .eq 1821, 3) := by decide +kernel
theorem d_L_law_65 : decode (pw_cc cx_L_law) 65 = .ok (.iload 6, 2) := by decide +kernel
theorem d_L_law_67 : decode (pw_cc cx_L_law) 67 = .ok (.aload_n 0, 1) := by decide +kernel
theorem d_L_law_68 : decode (pw_cc cx_L_law) 68 = .ok (.arraylength, 1) := by decide +kernel
theorem d_L_law_69 : decode (pw_cc cx_L_law) 69 = .ok (.if_icmp .ge 10, 3) := by decide +kernel
theorem d_L_law_72 : decode (pw_cc cx_L_law) 72 = .ok (.aload_n 0, 1) := by decide +kernel
theorem d_L_law_73 : decode (pw_cc cx_L_law) 73 = .ok (.iload 6, 2) := by decide +kernel
theorem d_L_law_75 : decode (pw_cc cx_L_law) 75 = .ok (.iaload, 1) := by decide +kernel
theorem d_L_law_76 : decode (pw_cc cx_L_law) 76 = .ok (.goto 21, 3) := by decide +kernel
theorem d_L_law_79 : decode (pw_cc cx_L_law) 79 = .ok (.ldc 105, 2) := by decide +kernel
theorem d_L_law_81 : decode (pw_cc cx_L_law) 81 = .ok (.iload 6, 2) := by decide +kernel
theorem d_L_law_83 : decode (pw_cc cx_L_law) 83 = .ok (.imul, 1) := by decide +kernel
theorem d_L_law_84 : decode (pw_cc cx_L_law) 84 = .ok (.iload 6, 2) := by decide +kernel
theorem d_L_law_86 : decode (pw_cc cx_L_law) 86 = .ok (.imul, 1) := by decide +kernel
theorem d_L_law_87 : decode (pw_cc cx_L_law) 87 = .ok (.ldc 106, 2) := by decide +kernel
theorem d_L_law_89 : decode (pw_cc cx_L_law) 89 = .ok (.iload 6, 2) := by decide +kernel
theorem d_L_law_91 : decode (pw_cc cx_L_law) 91 = .ok (.imul, 1) := by decide +kernel
theorem d_L_law_92 : decode (pw_cc cx_L_law) 92 = .ok (.iadd, 1) := by decide +kernel
theorem d_L_law_93 : decode (pw_cc cx_L_law) 93 = .ok (.sipush 223, 3) := by decide +kernel
theorem d_L_law_96 : decode (pw_cc cx_L_law) 96 = .ok (.iadd, 1) := by decide +kernel
theorem d_L_law_97 : decode (pw_cc cx_L_law) 97 = .ok (.istore 7, 2) := by decide +kernel
theorem d_L_law_99 : decode (pw_cc cx_L_law) 99 = .ok (.iload 7, 2) := by decide +kernel
theorem d_L_law_101 : decode (pw_cc cx_L_law) 101 = .ok (.iconst 4, 1) := by decide +kernel
theorem d_L_law_102 : decode (pw_cc cx_L_law) 102 = .ok (.ishr, 1) := by decide +kernel
theorem d_L_law_103 : decode (pw_cc cx_L_law) 103 = .ok (.ldc 107, 2) := by decide +kernel
theorem d_L_law_105 : decode (pw_cc cx_L_law) 105 = .ok (.iand, 1) := by decide +kernel
theorem d_L_law_106 : decode (pw_cc cx_L_law) 106 = .ok (.istore 8, 2) := by decide +kernel
theorem d_L_law_108 : decode (pw_cc cx_L_law) 108 = .ok (.iload 6, 2) := by decide +kernel
theorem d_L_law_110 : decode (pw_cc cx_L_law) 110 = .ok (.iconst 2, 1) := by decide +kernel
theorem d_L_law_111 : decode (pw_cc cx_L_law) 111 = .ok (.if_icmp .ge 7, 3) := by decide +kernel
theorem d_L_law_114 : decode (pw_cc cx_L_law) 114 = .ok (.iconst 0, 1) := by decide +kernel
theorem d_L_law_115 : decode (pw_cc cx_L_law) 115 = .ok (.goto 8, 3) := by decide +kernel
theorem d_L_law_118 : decode (pw_cc cx_L_law) 118 = .ok (.iload 7, 2) := by decide +kernel
theorem d_L_law_120 : decode (pw_cc cx_L_law) 120 = .ok (.bipush 15, 2) := by decide +kernel
theorem d_L_law_122 : decode (pw_cc cx_L_law) 122 = .ok (.iand, 1) := by decide +kernel
theorem d_L_law_123 : decode (pw_cc cx_L_law) 123 = .ok (.istore 9, 2) := by decide +kernel
theorem d_L_law_125 : decode (pw_cc cx_L_law) 125 = .ok (.iload 8, 2) := by decide +kernel
theorem d_L_law_127 : decode (pw_cc cx_L_law) 127 = .ok (.iconst 1, 1) := by decide +kernel
theorem d_L_law_128 : decode (pw_cc cx_L_law) 128 = .ok (.ishr, 1) := by decide +kernel
theorem d_L_law_129 : decode (pw_cc cx_L_law) 129 = .ok (.bipush 12, 2) := by decide +kernel
theorem d_L_law_131 : decode (pw_cc cx_L_law) 131 = .ok (.irem, 1) := by decide +kernel
theorem d_L_law_132 : decode (pw_cc cx_L_law) 132 = .ok (.istore 10, 2) := by decide +kernel
theorem d_L_law_134 : decode (pw_cc cx_L_law) 134 = .ok (.aload_n 1, 1) := by decide +kernel
theorem d_L_law_135 : decode (pw_cc cx_L_law) 135 = .ok (.invokevirtual 78, 3) := by decide +kernel
theorem d_L_law_138 : decode (pw_cc cx_L_law) 138 = .ok (.istore 11, 2) := by decide +kernel
theorem d_L_law_140 : decode (pw_cc cx_L_law) 140 = .ok (.iload 8, 2) := by decide +kernel
theorem d_L_law_142 : decode (pw_cc cx_L_law) 142 = .ok (.iconst 5, 1) := by decide +kernel
theorem d_L_law_143 : decode (pw_cc cx_L_law) 143 = .ok (.ishr, 1) := by decide +kernel
theorem d_L_law_144 : decode (pw_cc cx_L_law) 144 = .ok (.iload 11, 2) := by decide +kernel
theorem d_L_law_146 : decode (pw_cc cx_L_law) 146 = .ok (.irem, 1) := by decide +kernel
theorem d_L_law_147 : decode (pw_cc cx_L_law) 147 = .ok (.istore 12, 2) := by decide +kernel
theorem d_L_law_149 : decode (pw_cc cx_L_law) 149 = .ok (.iload 8, 2) := by decide +kernel
theorem d_L_law_151 : decode (pw_cc cx_L_law) 151 = .ok (.bipush 8, 2) := by decide +kernel
theorem d_L_law_153 : decode (pw_cc cx_L_law) 153 = .ok (.ishr, 1) := by decide +kernel
theorem d_L_law_154 : decode (pw_cc cx_L_law) 154 = .ok (.bipush 10, 2) := by decide +kernel
theorem d_L_law_156 : decode (pw_cc cx_L_law) 156 = .ok (.irem, 1) := by decide +kernel
theorem d_L_law_157 : decode (pw_cc cx_L_law) 157 = .ok (.istore 13, 2) := by decide +kernel
theorem d_L_law_159 : decode (pw_cc cx_L_law) 159 = .ok (.iload 8, 2) := by decide +kernel
theorem d_L_law_161 : decode (pw_cc cx_L_law) 161 = .ok (.bipush 12, 2) := by decide +kernel
theorem d_L_law_163 : decode (pw_cc cx_L_law) 163 = .ok (.ishr, 1) := by decide +kernel
theorem d_L_law_164 : decode (pw_cc cx_L_law) 164 = .ok (.bipush 10, 2) := by decide +kernel
theorem d_L_law_166 : decode (pw_cc cx_L_law) 166 = .ok (.irem, 1) := by decide +kernel
theorem d_L_law_167 : decode (pw_cc cx_L_law) 167 = .ok (.istore 14, 2) := by decide +kernel
theorem d_L_law_169 : decode (pw_cc cx_L_law) 169 = .ok (.bipush 10, 2) := by decide +kernel
theorem d_L_law_171 : decode (pw_cc cx_L_law) 171 = .ok (.iload 14, 2) := by decide +kernel
theorem d_L_law_173 : decode (pw_cc cx_L_law) 173 = .ok (.imul, 1) := by decide +kernel
theorem d_L_law_174 : decode (pw_cc cx_L_law) 174 = .ok (.iload 13, 2) := by decide +kernel
theorem d_L_law_176 : decode (pw_cc cx_L_law) 176 = .ok (.iadd, 1) := by decide +kernel
theorem d_L_law_177 : decode (pw_cc cx_L_law) 177 = .ok (.istore 15, 2) := by decide +kernel
theorem d_L_law_179 : decode (pw_cc cx_L_law) 179 = .ok (.iload 15, 2) := by decide +kernel
theorem d_L_law_181 : decode (pw_cc cx_L_law) 181 = .ok (.bipush 10, 2) := by decide +kernel
theorem d_L_law_183 : decode (pw_cc cx_L_law) 183 = .ok (.iload 8, 2) := by decide +kernel
theorem d_L_law_185 : decode (pw_cc cx_L_law) 185 = .ok (.bipush 15, 2) := by decide +kernel
theorem d_L_law_187 : decode (pw_cc cx_L_law) 187 = .ok (.ishr, 1) := by decide +kernel
theorem d_L_law_188 : decode (pw_cc cx_L_law) 188 = .ok (.bipush 10, 2) := by decide +kernel
theorem d_L_law_190 : decode (pw_cc cx_L_law) 190 = .ok (.iload 14, 2) := by decide +kernel
theorem d_L_law_192 : decode (pw_cc cx_L_law) 192 = .ok (.isub, 1) := by decide +kernel
theorem d_L_law_193 : decode (pw_cc cx_L_law) 193 = .ok (.irem, 1) := by decide +kernel
theorem d_L_law_194 : decode (pw_cc cx_L_law) 194 = .ok (.imul, 1) := by decide +kernel
theorem d_L_law_195 : decode (pw_cc cx_L_law) 195 = .ok (.iadd, 1) := by decide +kernel
theorem d_L_law_196 : decode (pw_cc cx_L_law) 196 = .ok (.iload 8, 2) := by decide +kernel
theorem d_L_law_198 : decode (pw_cc cx_L_law) 198 = .ok (.bipush 18, 2) := by decide +kernel
theorem d_L_law_200 : decode (pw_cc cx_L_law) 200 = .ok (.ishr, 1) := by decide +kernel
theorem d_L_law_201 : decode (pw_cc cx_L_law) 201 = .ok (.bipush 10, 2) := by decide +kernel
theorem d_L_law_203 : decode (pw_cc cx_L_law) 203 = .ok (.iload 13, 2) := by decide +kernel
theorem d_L_law_205 : decode (pw_cc cx_L_law) 205 = .ok (.isub, 1) := by decide +kernel
theorem d_L_law_206 : decode (pw_cc cx_L_law) 206 = .ok (.irem, 1) := by decide +kernel
theorem d_L_law_207 : decode (pw_cc cx_L_law) 207 = .ok (.iadd, 1) := by decide +kernel
theorem d_L_law_208 : decode (pw_cc cx_L_law) 208 = .ok (.istore 16, 2) := by decide +kernel
theorem d_L_law_210 : decode (pw_cc cx_L_law) 210 = .ok (.iload 9, 2) := by decide +kernel
theorem d_L_law_212 : decode (pw_cc cx_L_law) 212 = .ok (.iconst 2, 1) := by decide +kernel
theorem d_L_law_213 : decode (pw_cc cx_L_law) 213 = .ok (.if_icmp .ge 107, 3) := by decide +kernel
theorem d_L_law_216 : decode (pw_cc cx_L_law) 216 = .ok (.aload_n 1, 1) := by decide +kernel
theorem d_L_law_217 : decode (pw_cc cx_L_law) 217 = .ok (.iload 12, 2) := by decide +kernel
theorem d_L_law_219 : decode (pw_cc cx_L_law) 219 = .ok (.invokevirtual 88, 3) := by decide +kernel
theorem d_L_law_222 : decode (pw_cc cx_L_law) 222 = .ok (.istore 18, 2) := by decide +kernel
theorem d_L_law_224 : decode (pw_cc cx_L_law) 224 = .ok (.aload_n 1, 1) := by decide +kernel
theorem d_L_law_225 : decode (pw_cc cx_L_law) 225 = .ok (.iconst 0, 1) := by decide +kernel
theorem d_L_law_226 : decode (pw_cc cx_L_law) 226 = .ok (.iload 12, 2) := by decide +kernel
theorem d_L_law_228 : decode (pw_cc cx_L_law) 228 = .ok (.iload 15, 2) := by decide +kernel
theorem d_L_law_230 : decode (pw_cc cx_L_law) 230 = .ok (.iload 16, 2) := by decide +kernel
theorem d_L_law_232 : decode (pw_cc cx_L_law) 232 = .ok (.iload 10, 2) := by decide +kernel
theorem d_L_law_234 : decode (pw_cc cx_L_law) 234 = .ok (.invokestatic 108, 3) := by decide +kernel
theorem d_L_law_237 : decode (pw_cc cx_L_law) 237 = .ok (.istore 17, 2) := by decide +kernel
theorem d_L_law_239 : decode (pw_cc cx_L_law) 239 = .ok (.iload 17, 2) := by decide +kernel
theorem d_L_law_241 : decode (pw_cc cx_L_law) 241 = .ok (.bipush (-13), 2) := by decide +kernel
theorem d_L_law_243 : decode (pw_cc cx_L_law) 243 = .ok (.if_icmp .ne 22, 3) := by decide +kernel
theorem d_L_law_246 : decode (pw_cc cx_L_law) 246 = .ok (.aload_n 1, 1) := by decide +kernel
theorem d_L_law_247 : decode (pw_cc cx_L_law) 247 = .ok (.iload 12, 2) := by decide +kernel
theorem d_L_law_249 : decode (pw_cc cx_L_law) 249 = .ok (.invokevirtual 88, 3) := by decide +kernel
theorem d_L_law_252 : decode (pw_cc cx_L_law) 252 = .ok (.iload 18, 2) := by decide +kernel
theorem d_L_law_254 : decode (pw_cc cx_L_law) 254 = .ok (.if_icmp .ne 7, 3) := by decide +kernel
theorem d_L_law_257 : decode (pw_cc cx_L_law) 257 = .ok (.iconst 1, 1) := by decide +kernel
theorem d_L_law_258 : decode (pw_cc cx_L_law) 258 = .ok (.goto 57, 3) := by decide +kernel
theorem d_L_law_261 : decode (pw_cc cx_L_law) 261 = .ok (.iconst 0, 1) := by decide +kernel
theorem d_L_law_262 : decode (pw_cc cx_L_law) 262 = .ok (.goto 53, 3) := by decide +kernel
theorem d_L_law_265 : decode (pw_cc cx_L_law) 265 = .ok (.iload 17, 2) := by decide +kernel
theorem d_L_law_267 : decode (pw_cc cx_L_law) 267 = .ok (.iload 11, 2) := by decide +kernel
theorem d_L_law_269 : decode (pw_cc cx_L_law) 269 = .ok (.if_icmp .ne 45, 3) := by decide +kernel
theorem d_L_law_272 : decode (pw_cc cx_L_law) 272 = .ok (.aload_n 1, 1) := by decide +kernel
theorem d_L_law_273 : decode (pw_cc cx_L_law) 273 = .ok (.iload 17, 2) := by decide +kernel
theorem d_L_law_275 : decode (pw_cc cx_L_law) 275 = .ok (.invokevirtual 111, 3) := by decide +kernel
theorem d_L_law_278 : decode (pw_cc cx_L_law) 278 = .ok (.iload 10, 2) := by decide +kernel
theorem d_L_law_280 : decode (pw_cc cx_L_law) 280 = .ok (.if_icmp .ne 34, 3) := by decide +kernel
theorem d_L_law_283 : decode (pw_cc cx_L_law) 283 = .ok (.aload_n 1, 1) := by decide +kernel
theorem d_L_law_284 : decode (pw_cc cx_L_law) 284 = .ok (.iload 17, 2) := by decide +kernel
theorem d_L_law_286 : decode (pw_cc cx_L_law) 286 = .ok (.invokevirtual 88, 3) := by decide +kernel
theorem d_L_law_289 : decode (pw_cc cx_L_law) 289 = .ok (.ifCond .le 25, 3) := by decide +kernel
theorem d_L_law_292 : decode (pw_cc cx_L_law) 292 = .ok (.aload_n 1, 1) := by decide +kernel
theorem d_L_law_293 : decode (pw_cc cx_L_law) 293 = .ok (.iload 17, 2) := by decide +kernel
theorem d_L_law_295 : decode (pw_cc cx_L_law) 295 = .ok (.invokevirtual 88, 3) := by decide +kernel
theorem d_L_law_298 : decode (pw_cc cx_L_law) 298 = .ok (.aload_n 1, 1) := by decide +kernel
theorem d_L_law_299 : decode (pw_cc cx_L_law) 299 = .ok (.iload 12, 2) := by decide +kernel
theorem d_L_law_301 : decode (pw_cc cx_L_law) 301 = .ok (.invokevirtual 88, 3) := by decide +kernel
theorem d_L_law_304 : decode (pw_cc cx_L_law) 304 = .ok (.iadd, 1) := by decide +kernel
theorem d_L_law_305 : decode (pw_cc cx_L_law) 305 = .ok (.iload 18, 2) := by decide +kernel
theorem d_L_law_307 : decode (pw_cc cx_L_law) 307 = .ok (.if_icmp .ne 7, 3) := by decide +kernel
theorem d_L_law_310 : decode (pw_cc cx_L_law) 310 = .ok (.iconst 1, 1) := by decide +kernel
theorem d_L_law_311 : decode (pw_cc cx_L_law) 311 = .ok (.goto 4, 3) := by decide +kernel
theorem d_L_law_314 : decode (pw_cc cx_L_law) 314 = .ok (.iconst 0, 1) := by decide +kernel
theorem d_L_law_315 : decode (pw_cc cx_L_law) 315 = .ok (.istore 4, 2) := by decide +kernel
theorem d_L_law_317 : decode (pw_cc cx_L_law) 317 = .ok (.goto 1464, 3) := by decide +kernel
theorem d_L_law_320 : decode (pw_cc cx_L_law) 320 = .ok (.iload 9, 2) := by decide +kernel
theorem d_L_law_322 : decode (pw_cc cx_L_law) 322 = .ok (.iconst 2, 1) := by decide +kernel
theorem d_L_law_323 : decode (pw_cc cx_L_law) 323 = .ok (.if_icmp .ne 102, 3) := by decide +kernel
theorem d_L_law_326 : decode (pw_cc cx_L_law) 326 = .ok (.iload 8, 2) := by decide +kernel
theorem d_L_law_328 : decode (pw_cc cx_L_law) 328 = .ok (.bipush 20, 2) := by decide +kernel
theorem d_L_law_330 : decode (pw_cc cx_L_law) 330 = .ok (.ishr, 1) := by decide +kernel
theorem d_L_law_331 : decode (pw_cc cx_L_law) 331 = .ok (.iload 11, 2) := by decide +kernel
theorem d_L_law_333 : decode (pw_cc cx_L_law) 333 = .ok (.irem, 1) := by decide +kernel
theorem d_L_law_334 : decode (pw_cc cx_L_law) 334 = .ok (.istore 18, 2) := by decide +kernel
theorem d_L_law_336 : decode (pw_cc cx_L_law) 336 = .ok (.aload_n 1, 1) := by decide +kernel
theorem d_L_law_337 : decode (pw_cc cx_L_law) 337 = .ok (.iload 12, 2) := by decide +kernel
theorem d_L_law_339 : decode (pw_cc cx_L_law) 339 = .ok (.invokevirtual 88, 3) := by decide +kernel
theorem d_L_law_342 : decode (pw_cc cx_L_law) 342 = .ok (.aload_n 1, 1) := by decide +kernel
theorem d_L_law_343 : decode (pw_cc cx_L_law) 343 = .ok (.iload 18, 2) := by decide +kernel
theorem d_L_law_345 : decode (pw_cc cx_L_law) 345 = .ok (.invokevirtual 88, 3) := by decide +kernel
theorem d_L_law_348 : decode (pw_cc cx_L_law) 348 = .ok (.iadd, 1) := by decide +kernel
theorem d_L_law_349 : decode (pw_cc cx_L_law) 349 = .ok (.istore 19, 2) := by decide +kernel
theorem d_L_law_351 : decode (pw_cc cx_L_law) 351 = .ok (.aload_n 1, 1) := by decide +kernel
theorem d_L_law_352 : decode (pw_cc cx_L_law) 352 = .ok (.iconst 1, 1) := by decide +kernel
theorem d_L_law_353 : decode (pw_cc cx_L_law) 353 = .ok (.iload 12, 2) := by decide +kernel
theorem d_L_law_355 : decode (pw_cc cx_L_law) 355 = .ok (.iload 18, 2) := by decide +kernel
theorem d_L_law_357 : decode (pw_cc cx_L_law) 357 = .ok (.iconst 0, 1) := by decide +kernel
theorem d_L_law_358 : decode (pw_cc cx_L_law) 358 = .ok (.iconst 0, 1) := by decide +kernel
theorem d_L_law_359 : decode (pw_cc cx_L_law) 359 = .ok (.invokestatic 108, 3) := by decide +kernel
theorem d_L_law_362 : decode (pw_cc cx_L_law) 362 = .ok (.istore 17, 2) := by decide +kernel
theorem d_L_law_364 : decode (pw_cc cx_L_law) 364 = .ok (.iload 17, 2) := by decide +kernel
theorem d_L_law_366 : decode (pw_cc cx_L_law) 366 = .ok (.bipush (-13), 2) := by decide +kernel
theorem d_L_law_368 : decode (pw_cc cx_L_law) 368 = .ok (.if_icmp .eq 47, 3) := by decide +kernel
theorem d_L_law_371 : decode (pw_cc cx_L_law) 371 = .ok (.iload 17, 2) := by decide +kernel
theorem d_L_law_373 : decode (pw_cc cx_L_law) 373 = .ok (.iload 19, 2) := by decide +kernel
theorem d_L_law_375 : decode (pw_cc cx_L_law) 375 = .ok (.if_icmp .ne 44, 3) := by decide +kernel
theorem d_L_law_378 : decode (pw_cc cx_L_law) 378 = .ok (.aload_n 1, 1) := by decide +kernel
theorem d_L_law_379 : decode (pw_cc cx_L_law) 379 = .ok (.iload 12, 2) := by decide +kernel
theorem d_L_law_381 : decode (pw_cc cx_L_law) 381 = .ok (.invokevirtual 88, 3) := by decide +kernel
theorem d_L_law_384 : decode (pw_cc cx_L_law) 384 = .ok (.iload 19, 2) := by decide +kernel
theorem d_L_law_386 : decode (pw_cc cx_L_law) 386 = .ok (.if_icmp .ne 33, 3) := by decide +kernel
theorem d_L_law_389 : decode (pw_cc cx_L_law) 389 = .ok (.aload_n 1, 1) := by decide +kernel
theorem d_L_law_390 : decode (pw_cc cx_L_law) 390 = .ok (.iload 18, 2) := by decide +kernel
theorem d_L_law_392 : decode (pw_cc cx_L_law) 392 = .ok (.invokevirtual 88, 3) := by decide +kernel
theorem d_L_law_395 : decode (pw_cc cx_L_law) 395 = .ok (.iload 19, 2) := by decide +kernel
theorem d_L_law_397 : decode (pw_cc cx_L_law) 397 = .ok (.if_icmp .ne 22, 3) := by decide +kernel
theorem d_L_law_400 : decode (pw_cc cx_L_law) 400 = .ok (.aload_n 1, 1) := by decide +kernel
theorem d_L_law_401 : decode (pw_cc cx_L_law) 401 = .ok (.iload 12, 2) := by decide +kernel
theorem d_L_law_403 : decode (pw_cc cx_L_law) 403 = .ok (.invokevirtual 111, 3) := by decide +kernel
theorem d_L_law_406 : decode (pw_cc cx_L_law) 406 = .ok (.aload_n 1, 1) := by decide +kernel
theorem d_L_law_407 : decode (pw_cc cx_L_law) 407 = .ok (.iload 18, 2) := by decide +kernel
theorem d_L_law_409 : decode (pw_cc cx_L_law) 409 = .ok (.invokevirtual 111, 3) := by decide +kernel
theorem d_L_law_412 : decode (pw_cc cx_L_law) 412 = .ok (.if_icmp .ne 7, 3) := by decide +kernel
theorem d_L_law_415 : decode (pw_cc cx_L_law) 415 = .ok (.iconst 1, 1) := by decide +kernel
theorem d_L_law_416 : decode (pw_cc cx_L_law) 416 = .ok (.goto 4, 3) := by decide +kernel
theorem d_L_law_419 : decode (pw_cc cx_L_law) 419 = .ok (.iconst 0, 1) := by decide +kernel
theorem d_L_law_420 : decode (pw_cc cx_L_law) 420 = .ok (.istore 4, 2) := by decide +kernel
theorem d_L_law_422 : decode (pw_cc cx_L_law) 422 = .ok (.goto 1359, 3) := by decide +kernel
theorem d_L_law_425 : decode (pw_cc cx_L_law) 425 = .ok (.iload 9, 2) := by decide +kernel
theorem d_L_law_427 : decode (pw_cc cx_L_law) 427 = .ok (.iconst 3, 1) := by decide +kernel
theorem d_L_law_428 : decode (pw_cc cx_L_law) 428 = .ok (.if_icmp .ne 93, 3) := by decide +kernel
theorem d_L_law_431 : decode (pw_cc cx_L_law) 431 = .ok (.aload_n 1, 1) := by decide +kernel
theorem d_L_law_432 : decode (pw_cc cx_L_law) 432 = .ok (.iload 15, 2) := by decide +kernel
theorem d_L_law_434 : decode (pw_cc cx_L_law) 434 = .ok (.invokevirtual 114, 3) := by decide +kernel
theorem d_L_law_437 : decode (pw_cc cx_L_law) 437 = .ok (.istore 18, 2) := by decide +kernel
theorem d_L_law_439 : decode (pw_cc cx_L_law) 439 = .ok (.aload_n 1, 1) := by decide +kernel
theorem d_L_law_440 : decode (pw_cc cx_L_law) 440 = .ok (.iconst 2, 1) := by decide +kernel
theorem d_L_law_441 : decode (pw_cc cx_L_law) 441 = .ok (.iload 10, 2) := by decide +kernel
theorem d_L_law_443 : decode (pw_cc cx_L_law) 443 = .ok (.iload 15, 2) := by decide +kernel
theorem d_L_law_445 : decode (pw_cc cx_L_law) 445 = .ok (.iload 16, 2) := by decide +kernel
theorem d_L_law_447 : decode (pw_cc cx_L_law) 447 = .ok (.iconst 0, 1) := by decide +kernel
theorem d_L_law_448 : decode (pw_cc cx_L_law) 448 = .ok (.invokestatic 108, 3) := by decide +kernel
theorem d_L_law_451 : decode (pw_cc cx_L_law) 451 = .ok (.istore 17, 2) := by decide +kernel
theorem d_L_law_453 : decode (pw_cc cx_L_law) 453 = .ok (.iload 17, 2) := by decide +kernel
theorem d_L_law_455 : decode (pw_cc cx_L_law) 455 = .ok (.bipush (-13), 2) := by decide +kernel
theorem d_L_law_457 : decode (pw_cc cx_L_law) 457 = .ok (.if_icmp .ne 22, 3) := by decide +kernel
theorem d_L_law_460 : decode (pw_cc cx_L_law) 460 = .ok (.aload_n 1, 1) := by decide +kernel
theorem d_L_law_461 : decode (pw_cc cx_L_law) 461 = .ok (.iload 15, 2) := by decide +kernel
theorem d_L_law_463 : decode (pw_cc cx_L_law) 463 = .ok (.invokevirtual 114, 3) := by decide +kernel
theorem d_L_law_466 : decode (pw_cc cx_L_law) 466 = .ok (.iload 18, 2) := by decide +kernel
theorem d_L_law_468 : decode (pw_cc cx_L_law) 468 = .ok (.if_icmp .ne 7, 3) := by decide +kernel
theorem d_L_law_471 : decode (pw_cc cx_L_law) 471 = .ok (.iconst 1, 1) := by decide +kernel
theorem d_L_law_472 : decode (pw_cc cx_L_law) 472 = .ok (.goto 44, 3) := by decide +kernel
theorem d_L_law_475 : decode (pw_cc cx_L_law) 475 = .ok (.iconst 0, 1) := by decide +kernel
theorem d_L_law_476 : decode (pw_cc cx_L_law) 476 = .ok (.goto 40, 3) := by decide +kernel
theorem d_L_law_479 : decode (pw_cc cx_L_law) 479 = .ok (.iload 17, 2) := by decide +kernel
theorem d_L_law_481 : decode (pw_cc cx_L_law) 481 = .ok (.ifCond .le 34, 3) := by decide +kernel
theorem d_L_law_484 : decode (pw_cc cx_L_law) 484 = .ok (.iload 17, 2) := by decide +kernel
theorem d_L_law_486 : decode (pw_cc cx_L_law) 486 = .ok (.bipush 12, 2) := by decide +kernel
theorem d_L_law_488 : decode (pw_cc cx_L_law) 488 = .ok (.if_icmp .gt 27, 3) := by decide +kernel
theorem d_L_law_491 : decode (pw_cc cx_L_law) 491 = .ok (.aload_n 1, 1) := by decide +kernel
theorem d_L_law_492 : decode (pw_cc cx_L_law) 492 = .ok (.iload 15, 2) := by decide +kernel
theorem d_L_law_494 : decode (pw_cc cx_L_law) 494 = .ok (.invokevirtual 114, 3) := by decide +kernel
theorem d_L_law_497 : decode (pw_cc cx_L_law) 497 = .ok (.iload 18, 2) := by decide +kernel
theorem d_L_law_499 : decode (pw_cc cx_L_law) 499 = .ok (.if_icmp .lt 16, 3) := by decide +kernel
theorem d_L_law_502 : decode (pw_cc cx_L_law) 502 = .ok (.aload_n 1, 1) := by decide +kernel
theorem d_L_law_503 : decode (pw_cc cx_L_law) 503 = .ok (.iload 15, 2) := by decide +kernel
theorem d_L_law_505 : decode (pw_cc cx_L_law) 505 = .ok (.invokevirtual 114, 3) := by decide +kernel
theorem d_L_law_508 : decode (pw_cc cx_L_law) 508 = .ok (.ifCond .le 7, 3) := by decide +kernel
theorem d_L_law_511 : decode (pw_cc cx_L_law) 511 = .ok (.iconst 1, 1) := by decide +kernel
theorem d_L_law_512 : decode (pw_cc cx_L_law) 512 = .ok (.goto 4, 3) := by decide +kernel
theorem d_L_law_515 : decode (pw_cc cx_L_law) 515 = .ok (.iconst 0, 1) := by decide +kernel
theorem d_L_law_516 : decode (pw_cc cx_L_law) 516 = .ok (.istore 4, 2) := by decide +kernel
theorem d_L_law_518 : decode (pw_cc cx_L_law) 518 = .ok (.goto 1263, 3) := by decide +kernel
theorem d_L_law_521 : decode (pw_cc cx_L_law) 521 = .ok (.iload 9, 2) := by decide +kernel
theorem d_L_law_523 : decode (pw_cc cx_L_law) 523 = .ok (.iconst 4, 1) := by decide +kernel
theorem d_L_law_524 : decode (pw_cc cx_L_law) 524 = .ok (.if_icmp .ne 70, 3) := by decide +kernel
theorem d_L_law_527 : decode (pw_cc cx_L_law) 527 = .ok (.aload_n 1, 1) := by decide +kernel
theorem d_L_law_528 : decode (pw_cc cx_L_law) 528 = .ok (.iconst 3, 1) := by decide +kernel
theorem d_L_law_529 : decode (pw_cc cx_L_law) 529 = .ok (.iload 10, 2) := by decide +kernel
theorem d_L_law_531 : decode (pw_cc cx_L_law) 531 = .ok (.iload 15, 2) := by decide +kernel
theorem d_L_law_533 : decode (pw_cc cx_L_law) 533 = .ok (.iload 16, 2) := by decide +kernel
theorem d_L_law_535 : decode (pw_cc cx_L_law) 535 = .ok (.iconst 0, 1) := by decide +kernel
theorem d_L_law_536 : decode (pw_cc cx_L_law) 536 = .ok (.invokestatic 108, 3) := by decide +kernel
theorem d_L_law_539 : decode (pw_cc cx_L_law) 539 = .ok (.istore 17, 2) := by decide +kernel
theorem d_L_law_541 : decode (pw_cc cx_L_law) 541 = .ok (.iload 17, 2) := by decide +kernel
theorem d_L_law_543 : decode (pw_cc cx_L_law) 543 = .ok (.bipush (-13), 2) := by decide +kernel
theorem d_L_law_545 : decode (pw_cc cx_L_law) 545 = .ok (.if_icmp .eq 39, 3) := by decide +kernel
theorem d_L_law_548 : decode (pw_cc cx_L_law) 548 = .ok (.iload 17, 2) := by decide +kernel
theorem d_L_law_550 : decode (pw_cc cx_L_law) 550 = .ok (.ifCond .le 38, 3) := by decide +kernel
theorem d_L_law_553 : decode (pw_cc cx_L_law) 553 = .ok (.iload 17, 2) := by decide +kernel
theorem d_L_law_555 : decode (pw_cc cx_L_law) 555 = .ok (.bipush 100, 2) := by decide +kernel
theorem d_L_law_557 : decode (pw_cc cx_L_law) 557 = .ok (.if_icmp .gt 31, 3) := by decide +kernel
theorem d_L_law_560 : decode (pw_cc cx_L_law) 560 = .ok (.aload_n 1, 1) := by decide +kernel
theorem d_L_law_561 : decode (pw_cc cx_L_law) 561 = .ok (.iload 15, 2) := by decide +kernel
theorem d_L_law_563 : decode (pw_cc cx_L_law) 563 = .ok (.iconst 3, 1) := by decide +kernel
theorem d_L_law_564 : decode (pw_cc cx_L_law) 564 = .ok (.invokevirtual 85, 3) := by decide +kernel
theorem d_L_law_567 : decode (pw_cc cx_L_law) 567 = .ok (.iload 10, 2) := by decide +kernel
theorem d_L_law_569 : decode (pw_cc cx_L_law) 569 = .ok (.if_icmp .ne 19, 3) := by decide +kernel
theorem d_L_law_572 : decode (pw_cc cx_L_law) 572 = .ok (.aload_n 1, 1) := by decide +kernel
theorem d_L_law_573 : decode (pw_cc cx_L_law) 573 = .ok (.iload 16, 2) := by decide +kernel
theorem d_L_law_575 : decode (pw_cc cx_L_law) 575 = .ok (.iconst 3, 1) := by decide +kernel
theorem d_L_law_576 : decode (pw_cc cx_L_law) 576 = .ok (.invokevirtual 85, 3) := by decide +kernel
theorem d_L_law_579 : decode (pw_cc cx_L_law) 579 = .ok (.iload 10, 2) := by decide +kernel
theorem d_L_law_581 : decode (pw_cc cx_L_law) 581 = .ok (.if_icmp .ne 7, 3) := by decide +kernel
theorem d_L_law_584 : decode (pw_cc cx_L_law) 584 = .ok (.iconst 1, 1) := by decide +kernel
theorem d_L_law_585 : decode (pw_cc cx_L_law) 585 = .ok (.goto 4, 3) := by decide +kernel
theorem d_L_law_588 : decode (pw_cc cx_L_law) 588 = .ok (.iconst 0, 1) := by decide +kernel
theorem d_L_law_589 : decode (pw_cc cx_L_law) 589 = .ok (.istore 4, 2) := by decide +kernel
theorem d_L_law_591 : decode (pw_cc cx_L_law) 591 = .ok (.goto 1190, 3) := by decide +kernel
theorem d_L_law_594 : decode (pw_cc cx_L_law) 594 = .ok (.iload 9, 2) := by decide +kernel
theorem d_L_law_596 : decode (pw_cc cx_L_law) 596 = .ok (.iconst 5, 1) := by decide +kernel
theorem d_L_law_597 : decode (pw_cc cx_L_law) 597 = .ok (.if_icmp .ne 75, 3) := by decide +kernel
theorem d_L_law_600 : decode (pw_cc cx_L_law) 600 = .ok (.aload_n 1, 1) := by decide +kernel
theorem d_L_law_601 : decode (pw_cc cx_L_law) 601 = .ok (.iconst 4, 1) := by decide +kernel
theorem d_L_law_602 : decode (pw_cc cx_L_law) 602 = .ok (.iload 10, 2) := by decide +kernel
theorem d_L_law_604 : decode (pw_cc cx_L_law) 604 = .ok (.iload 8, 2) := by decide +kernel
theorem d_L_law_606 : decode (pw_cc cx_L_law) 606 = .ok (.iconst 1, 1) := by decide +kernel
theorem d_L_law_607 : decode (pw_cc cx_L_law) 607 = .ok (.iand, 1) := by decide +kernel
theorem d_L_law_608 : decode (pw_cc cx_L_law) 608 = .ok (.iconst 0, 1) := by decide +kernel
theorem d_L_law_609 : decode (pw_cc cx_L_law) 609 = .ok (.bipush 99, 2) := by decide +kernel
theorem d_L_law_611 : decode (pw_cc cx_L_law) 611 = .ok (.invokestatic 108, 3) := by decide +kernel
theorem d_L_law_614 : decode (pw_cc cx_L_law) 614 = .ok (.istore 17, 2) := by decide +kernel
theorem d_L_law_616 : decode (pw_cc cx_L_law) 616 = .ok (.iload 17, 2) := by decide +kernel
theorem d_L_law_618 : decode (pw_cc cx_L_law) 618 = .ok (.bipush (-13), 2) := by decide +kernel
theorem d_L_law_620 : decode (pw_cc cx_L_law) 620 = .ok (.if_icmp .eq 29, 3) := by decide +kernel
theorem d_L_law_623 : decode (pw_cc cx_L_law) 623 = .ok (.iload 17, 2) := by decide +kernel
theorem d_L_law_625 : decode (pw_cc cx_L_law) 625 = .ok (.iload_n 3, 1) := by decide +kernel
theorem d_L_law_626 : decode (pw_cc cx_L_law) 626 = .ok (.if_icmp .ne 27, 3) := by decide +kernel
theorem d_L_law_629 : decode (pw_cc cx_L_law) 629 = .ok (.aload_n 1, 1) := by decide +kernel
theorem d_L_law_630 : decode (pw_cc cx_L_law) 630 = .ok (.iload 17, 2) := by decide +kernel
theorem d_L_law_632 : decode (pw_cc cx_L_law) 632 = .ok (.iconst 0, 1) := by decide +kernel
theorem d_L_law_633 : decode (pw_cc cx_L_law) 633 = .ok (.invokevirtual 97, 3) := by decide +kernel
theorem d_L_law_636 : decode (pw_cc cx_L_law) 636 = .ok (.ifCond .ne 17, 3) := by decide +kernel
theorem d_L_law_639 : decode (pw_cc cx_L_law) 639 = .ok (.aload_n 1, 1) := by decide +kernel
theorem d_L_law_640 : decode (pw_cc cx_L_law) 640 = .ok (.iload 17, 2) := by decide +kernel
theorem d_L_law_642 : decode (pw_cc cx_L_law) 642 = .ok (.iconst 3, 1) := by decide +kernel
theorem d_L_law_643 : decode (pw_cc cx_L_law) 643 = .ok (.invokevirtual 97, 3) := by decide +kernel
theorem d_L_law_646 : decode (pw_cc cx_L_law) 646 = .ok (.ifCond .ne 7, 3) := by decide +kernel
theorem d_L_law_649 : decode (pw_cc cx_L_law) 649 = .ok (.iconst 1, 1) := by decide +kernel
theorem d_L_law_650 : decode (pw_cc cx_L_law) 650 = .ok (.goto 4, 3) := by decide +kernel
theorem d_L_law_653 : decode (pw_cc cx_L_law) 653 = .ok (.iconst 0, 1) := by decide +kernel
theorem d_L_law_654 : decode (pw_cc cx_L_law) 654 = .ok (.istore 4, 2) := by decide +kernel
theorem d_L_law_656 : decode (pw_cc cx_L_law) 656 = .ok (.iload_n 3, 1) := by decide +kernel
theorem d_L_law_657 : decode (pw_cc cx_L_law) 657 = .ok (.iload 17, 2) := by decide +kernel
theorem d_L_law_659 : decode (pw_cc cx_L_law) 659 = .ok (.ifCond .lt 7, 3) := by decide +kernel
theorem d_L_law_662 : decode (pw_cc cx_L_law) 662 = .ok (.iconst 1, 1) := by decide +kernel
theorem d_L_law_663 : decode (pw_cc cx_L_law) 663 = .ok (.goto 4, 3) := by decide +kernel
theorem d_L_law_666 : decode (pw_cc cx_L_law) 666 = .ok (.iconst 0, 1) := by decide +kernel
theorem d_L_law_667 : decode (pw_cc cx_L_law) 667 = .ok (.iadd, 1) := by decide +kernel
theorem d_L_law_668 : decode (pw_cc cx_L_law) 668 = .ok (.istore_n 3, 1) := by decide +kernel
theorem d_L_law_669 : decode (pw_cc cx_L_law) 669 = .ok (.goto 1112, 3) := by decide +kernel
theorem d_L_law_672 : decode (pw_cc cx_L_law) 672 = .ok (.iload 9, 2) := by decide +kernel
theorem d_L_law_674 : decode (pw_cc cx_L_law) 674 = .ok (.bipush 8, 2) := by decide +kernel
theorem d_L_law_676 : decode (pw_cc cx_L_law) 676 = .ok (.if_icmp .ge 263, 3) := by decide +kernel
theorem d_L_law_679 : decode (pw_cc cx_L_law) 679 = .ok (.iload_n 3, 1) := by decide +kernel
theorem d_L_law_680 : decode (pw_cc cx_L_law) 680 = .ok (.ifCond .le 259, 3) := by decide +kernel
theorem d_L_law_683 : decode (pw_cc cx_L_law) 683 = .ok (.iload 8, 2) := by decide +kernel
theorem d_L_law_685 : decode (pw_cc cx_L_law) 685 = .ok (.iconst 3, 1) := by decide +kernel
theorem d_L_law_686 : decode (pw_cc cx_L_law) 686 = .ok (.ishr, 1) := by decide +kernel
theorem d_L_law_687 : decode (pw_cc cx_L_law) 687 = .ok (.iload_n 3, 1) := by decide +kernel
theorem d_L_law_688 : decode (pw_cc cx_L_law) 688 = .ok (.irem, 1) := by decide +kernel
theorem d_L_law_689 : decode (pw_cc cx_L_law) 689 = .ok (.istore 18, 2) := by decide +kernel
theorem d_L_law_691 : decode (pw_cc cx_L_law) 691 = .ok (.aload_n 1, 1) := by decide +kernel
theorem d_L_law_692 : decode (pw_cc cx_L_law) 692 = .ok (.iload 18, 2) := by decide +kernel
theorem d_L_law_694 : decode (pw_cc cx_L_law) 694 = .ok (.iconst 0, 1) := by decide +kernel
theorem d_L_law_695 : decode (pw_cc cx_L_law) 695 = .ok (.invokevirtual 97, 3) := by decide +kernel
theorem d_L_law_698 : decode (pw_cc cx_L_law) 698 = .ok (.istore 19, 2) := by decide +kernel
theorem d_L_law_700 : decode (pw_cc cx_L_law) 700 = .ok (.aload_n 1, 1) := by decide +kernel
theorem d_L_law_701 : decode (pw_cc cx_L_law) 701 = .ok (.iload 18, 2) := by decide +kernel
theorem d_L_law_703 : decode (pw_cc cx_L_law) 703 = .ok (.iconst 3, 1) := by decide +kernel
theorem d_L_law_704 : decode (pw_cc cx_L_law) 704 = .ok (.invokevirtual 97, 3) := by decide +kernel
theorem d_L_law_707 : decode (pw_cc cx_L_law) 707 = .ok (.istore 20, 2) := by decide +kernel
theorem d_L_law_709 : decode (pw_cc cx_L_law) 709 = .ok (.aload_n 1, 1) := by decide +kernel
theorem d_L_law_710 : decode (pw_cc cx_L_law) 710 = .ok (.iconst 5, 1) := by decide +kernel
theorem d_L_law_711 : decode (pw_cc cx_L_law) 711 = .ok (.iload 18, 2) := by decide +kernel
theorem d_L_law_713 : decode (pw_cc cx_L_law) 713 = .ok (.iload 8, 2) := by decide +kernel
theorem d_L_law_715 : decode (pw_cc cx_L_law) 715 = .ok (.bipush 7, 2) := by decide +kernel
theorem d_L_law_717 : decode (pw_cc cx_L_law) 717 = .ok (.ishr, 1) := by decide +kernel
theorem d_L_law_718 : decode (pw_cc cx_L_law) 718 = .ok (.iconst 1, 1) := by decide +kernel
theorem d_L_law_719 : decode (pw_cc cx_L_law) 719 = .ok (.iand, 1) := by decide +kernel
theorem d_L_law_720 : decode (pw_cc cx_L_law) 720 = .ok (.iconst 1, 1) := by decide +kernel
theorem d_L_law_721 : decode (pw_cc cx_L_law) 721 = .ok (.iload 8, 2) := by decide +kernel
theorem d_L_law_723 : decode (pw_cc cx_L_law) 723 = .ok (.bipush 9, 2) := by decide +kernel
theorem d_L_law_725 : decode (pw_cc cx_L_law) 725 = .ok (.ishr, 1) := by decide +kernel
theorem d_L_law_726 : decode (pw_cc cx_L_law) 726 = .ok (.bipush 9, 2) := by decide +kernel
theorem d_L_law_728 : decode (pw_cc cx_L_law) 728 = .ok (.irem, 1) := by decide +kernel
theorem d_L_law_729 : decode (pw_cc cx_L_law) 729 = .ok (.iadd, 1) := by decide +kernel
theorem d_L_law_730 : decode (pw_cc cx_L_law) 730 = .ok (.iconst 0, 1) := by decide +kernel
theorem d_L_law_731 : decode (pw_cc cx_L_law) 731 = .ok (.invokestatic 108, 3) := by decide +kernel
theorem d_L_law_734 : decode (pw_cc cx_L_law) 734 = .ok (.istore 17, 2) := by decide +kernel
theorem d_L_law_736 : decode (pw_cc cx_L_law) 736 = .ok (.iload 17, 2) := by decide +kernel
theorem d_L_law_738 : decode (pw_cc cx_L_law) 738 = .ok (.bipush (-13), 2) := by decide +kernel
theorem d_L_law_740 : decode (pw_cc cx_L_law) 740 = .ok (.if_icmp .ne 7, 3) := by decide +kernel
theorem d_L_law_743 : decode (pw_cc cx_L_law) 743 = .ok (.iconst 1, 1) := by decide +kernel
theorem d_L_law_744 : decode (pw_cc cx_L_law) 744 = .ok (.goto 4, 3) := by decide +kernel
theorem d_L_law_747 : decode (pw_cc cx_L_law) 747 = .ok (.iconst 0, 1) := by decide +kernel
theorem d_L_law_748 : decode (pw_cc cx_L_law) 748 = .ok (.iload 19, 2) := by decide +kernel
theorem d_L_law_750 : decode (pw_cc cx_L_law) 750 = .ok (.ifCond .eq 7, 3) := by decide +kernel
theorem d_L_law_753 : decode (pw_cc cx_L_law) 753 = .ok (.iconst 1, 1) := by decide +kernel
theorem d_L_law_754 : decode (pw_cc cx_L_law) 754 = .ok (.goto 4, 3) := by decide +kernel
theorem d_L_law_757 : decode (pw_cc cx_L_law) 757 = .ok (.iconst 0, 1) := by decide +kernel
theorem d_L_law_758 : decode (pw_cc cx_L_law) 758 = .ok (.if_icmp .ne 7, 3) := by decide +kernel
theorem d_L_law_761 : decode (pw_cc cx_L_law) 761 = .ok (.iconst 1, 1) := by decide +kernel
theorem d_L_law_762 : decode (pw_cc cx_L_law) 762 = .ok (.goto 4, 3) := by decide +kernel
theorem d_L_law_765 : decode (pw_cc cx_L_law) 765 = .ok (.iconst 0, 1) := by decide +kernel
theorem d_L_law_766 : decode (pw_cc cx_L_law) 766 = .ok (.istore 4, 2) := by decide +kernel
theorem d_L_law_768 : decode (pw_cc cx_L_law) 768 = .ok (.iload 19, 2) := by decide +kernel
theorem d_L_law_770 : decode (pw_cc cx_L_law) 770 = .ok (.ifCond .ne 17, 3) := by decide +kernel
theorem d_L_law_773 : decode (pw_cc cx_L_law) 773 = .ok (.aload_n 1, 1) := by decide +kernel
theorem d_L_law_774 : decode (pw_cc cx_L_law) 774 = .ok (.bipush 6, 2) := by decide +kernel
theorem d_L_law_776 : decode (pw_cc cx_L_law) 776 = .ok (.iload 18, 2) := by decide +kernel
theorem d_L_law_778 : decode (pw_cc cx_L_law) 778 = .ok (.iconst 0, 1) := by decide +kernel
theorem d_L_law_779 : decode (pw_cc cx_L_law) 779 = .ok (.iconst 0, 1) := by decide +kernel
theorem d_L_law_780 : decode (pw_cc cx_L_law) 780 = .ok (.iconst 0, 1) := by decide +kernel
theorem d_L_law_781 : decode (pw_cc cx_L_law) 781 = .ok (.invokestatic 108, 3) := by decide +kernel
theorem d_L_law_784 : decode (pw_cc cx_L_law) 784 = .ok (.goto 14, 3) := by decide +kernel
theorem d_L_law_787 : decode (pw_cc cx_L_law) 787 = .ok (.aload_n 1, 1) := by decide +kernel
theorem d_L_law_788 : decode (pw_cc cx_L_law) 788 = .ok (.bipush 7, 2) := by decide +kernel
theorem d_L_law_790 : decode (pw_cc cx_L_law) 790 = .ok (.iload 18, 2) := by decide +kernel
theorem d_L_law_792 : decode (pw_cc cx_L_law) 792 = .ok (.iconst 0, 1) := by decide +kernel
theorem d_L_law_793 : decode (pw_cc cx_L_law) 793 = .ok (.iconst 0, 1) := by decide +kernel
theorem d_L_law_794 : decode (pw_cc cx_L_law) 794 = .ok (.iconst 0, 1) := by decide +kernel
theorem d_L_law_795 : decode (pw_cc cx_L_law) 795 = .ok (.invokestatic 108, 3) := by decide +kernel
theorem d_L_law_798 : decode (pw_cc cx_L_law) 798 = .ok (.istore 21, 2) := by decide +kernel
theorem d_L_law_800 : decode (pw_cc cx_L_law) 800 = .ok (.iload 4, 2) := by decide +kernel
theorem d_L_law_802 : decode (pw_cc cx_L_law) 802 = .ok (.ifCond .eq 131, 3) := by decide +kernel
theorem d_L_law_805 : decode (pw_cc cx_L_law) 805 = .ok (.iload 19, 2) := by decide +kernel
theorem d_L_law_807 : decode (pw_cc cx_L_law) 807 = .ok (.ifCond .ne 81, 3) := by decide +kernel
theorem d_L_law_810 : decode (pw_cc cx_L_law) 810 = .ok (.iload 21, 2) := by decide +kernel
theorem d_L_law_812 : decode (pw_cc cx_L_law) 812 = .ok (.bipush (-13), 2) := by decide +kernel
theorem d_L_law_814 : decode (pw_cc cx_L_law) 814 = .ok (.if_icmp .ne 16, 3) := by decide +kernel
theorem d_L_law_817 : decode (pw_cc cx_L_law) 817 = .ok (.aload_n 1, 1) := by decide +kernel
theorem d_L_law_818 : decode (pw_cc cx_L_law) 818 = .ok (.iload 18, 2) := by decide +kernel
theorem d_L_law_820 : decode (pw_cc cx_L_law) 820 = .ok (.iconst 0, 1) := by decide +kernel
theorem d_L_law_821 : decode (pw_cc cx_L_law) 821 = .ok (.invokevirtual 97, 3) := by decide +kernel
theorem d_L_law_824 : decode (pw_cc cx_L_law) 824 = .ok (.ifCond .ne 109, 3) := by decide +kernel
theorem d_L_law_827 : decode (pw_cc cx_L_law) 827 = .ok (.goto 102, 3) := by decide +kernel
theorem d_L_law_830 : decode (pw_cc cx_L_law) 830 = .ok (.aload_n 1, 1) := by decide +kernel
theorem d_L_law_831 : decode (pw_cc cx_L_law) 831 = .ok (.iload 18, 2) := by decide +kernel
theorem d_L_law_833 : decode (pw_cc cx_L_law) 833 = .ok (.iconst 0, 1) := by decide +kernel
theorem d_L_law_834 : decode (pw_cc cx_L_law) 834 = .ok (.invokevirtual 97, 3) := by decide +kernel
theorem d_L_law_837 : decode (pw_cc cx_L_law) 837 = .ok (.iconst 1, 1) := by decide +kernel
theorem d_L_law_838 : decode (pw_cc cx_L_law) 838 = .ok (.if_icmp .ne 30, 3) := by decide +kernel
theorem d_L_law_841 : decode (pw_cc cx_L_law) 841 = .ok (.aload_n 1, 1) := by decide +kernel
theorem d_L_law_842 : decode (pw_cc cx_L_law) 842 = .ok (.iload 18, 2) := by decide +kernel
theorem d_L_law_844 : decode (pw_cc cx_L_law) 844 = .ok (.iconst 3, 1) := by decide +kernel
theorem d_L_law_845 : decode (pw_cc cx_L_law) 845 = .ok (.invokevirtual 97, 3) := by decide +kernel
theorem d_L_law_848 : decode (pw_cc cx_L_law) 848 = .ok (.iload 20, 2) := by decide +kernel
theorem d_L_law_850 : decode (pw_cc cx_L_law) 850 = .ok (.if_icmp .lt 83, 3) := by decide +kernel
theorem d_L_law_853 : decode (pw_cc cx_L_law) 853 = .ok (.iload 21, 2) := by decide +kernel
theorem d_L_law_855 : decode (pw_cc cx_L_law) 855 = .ok (.aload_n 1, 1) := by decide +kernel
theorem d_L_law_856 : decode (pw_cc cx_L_law) 856 = .ok (.iload 18, 2) := by decide +kernel
theorem d_L_law_858 : decode (pw_cc cx_L_law) 858 = .ok (.iconst 2, 1) := by decide +kernel
theorem d_L_law_859 : decode (pw_cc cx_L_law) 859 = .ok (.invokevirtual 97, 3) := by decide +kernel
theorem d_L_law_862 : decode (pw_cc cx_L_law) 862 = .ok (.if_icmp .gt 71, 3) := by decide +kernel
theorem d_L_law_865 : decode (pw_cc cx_L_law) 865 = .ok (.goto 64, 3) := by decide +kernel
theorem d_L_law_868 : decode (pw_cc cx_L_law) 868 = .ok (.iload 21, 2) := by decide +kernel
theorem d_L_law_870 : decode (pw_cc cx_L_law) 870 = .ok (.iload 20, 2) := by decide +kernel
theorem d_L_law_872 : decode (pw_cc cx_L_law) 872 = .ok (.if_icmp .gt 61, 3) := by decide +kernel
theorem d_L_law_875 : decode (pw_cc cx_L_law) 875 = .ok (.aload_n 1, 1) := by decide +kernel
theorem d_L_law_876 : decode (pw_cc cx_L_law) 876 = .ok (.iload 18, 2) := by decide +kernel
theorem d_L_law_878 : decode (pw_cc cx_L_law) 878 = .ok (.iconst 3, 1) := by decide +kernel
theorem d_L_law_879 : decode (pw_cc cx_L_law) 879 = .ok (.invokevirtual 97, 3) := by decide +kernel
theorem d_L_law_882 : decode (pw_cc cx_L_law) 882 = .ok (.ifCond .ne 51, 3) := by decide +kernel
theorem d_L_law_885 : decode (pw_cc cx_L_law) 885 = .ok (.goto 44, 3) := by decide +kernel
theorem d_L_law_888 : decode (pw_cc cx_L_law) 888 = .ok (.aload_n 1, 1) := by decide +kernel
theorem d_L_law_889 : decode (pw_cc cx_L_law) 889 = .ok (.iload 18, 2) := by decide +kernel
theorem d_L_law_891 : decode (pw_cc cx_L_law) 891 = .ok (.iconst 3, 1) := by decide +kernel
theorem d_L_law_892 : decode (pw_cc cx_L_law) 892 = .ok (.invokevirtual 97, 3) := by decide +kernel
theorem d_L_law_895 : decode (pw_cc cx_L_law) 895 = .ok (.iload 20, 2) := by decide +kernel
theorem d_L_law_897 : decode (pw_cc cx_L_law) 897 = .ok (.if_icmp .ne 36, 3) := by decide +kernel
theorem d_L_law_900 : decode (pw_cc cx_L_law) 900 = .ok (.iload 21, 2) := by decide +kernel
theorem d_L_law_902 : decode (pw_cc cx_L_law) 902 = .ok (.bipush (-13), 2) := by decide +kernel
theorem d_L_law_904 : decode (pw_cc cx_L_law) 904 = .ok (.if_icmp .eq 25, 3) := by decide +kernel
theorem d_L_law_907 : decode (pw_cc cx_L_law) 907 = .ok (.aload_n 1, 1) := by decide +kernel
theorem d_L_law_908 : decode (pw_cc cx_L_law) 908 = .ok (.iload 18, 2) := by decide +kernel
theorem d_L_law_910 : decode (pw_cc cx_L_law) 910 = .ok (.iconst 0, 1) := by decide +kernel
theorem d_L_law_911 : decode (pw_cc cx_L_law) 911 = .ok (.invokevirtual 97, 3) := by decide +kernel
theorem d_L_law_914 : decode (pw_cc cx_L_law) 914 = .ok (.ifCond .ne 19, 3) := by decide +kernel
theorem d_L_law_917 : decode (pw_cc cx_L_law) 917 = .ok (.aload_n 1, 1) := by decide +kernel
theorem d_L_law_918 : decode (pw_cc cx_L_law) 918 = .ok (.iload 18, 2) := by decide +kernel
theorem d_L_law_920 : decode (pw_cc cx_L_law) 920 = .ok (.iconst 1, 1) := by decide +kernel
theorem d_L_law_921 : decode (pw_cc cx_L_law) 921 = .ok (.invokevirtual 97, 3) := by decide +kernel
theorem d_L_law_924 : decode (pw_cc cx_L_law) 924 = .ok (.iload 21, 2) := by decide +kernel
theorem d_L_law_926 : decode (pw_cc cx_L_law) 926 = .ok (.if_icmp .ne 7, 3) := by decide +kernel
theorem d_L_law_929 : decode (pw_cc cx_L_law) 929 = .ok (.iconst 1, 1) := by decide +kernel
theorem d_L_law_930 : decode (pw_cc cx_L_law) 930 = .ok (.goto 4, 3) := by decide +kernel
theorem d_L_law_933 : decode (pw_cc cx_L_law) 933 = .ok (.iconst 0, 1) := by decide +kernel
theorem d_L_law_934 : decode (pw_cc cx_L_law) 934 = .ok (.istore 4, 2) := by decide +kernel
theorem d_L_law_936 : decode (pw_cc cx_L_law) 936 = .ok (.goto 845, 3) := by decide +kernel
theorem d_L_law_939 : decode (pw_cc cx_L_law) 939 = .ok (.iload 9, 2) := by decide +kernel
theorem d_L_law_941 : decode (pw_cc cx_L_law) 941 = .ok (.bipush 8, 2) := by decide +kernel
theorem d_L_law_943 : decode (pw_cc cx_L_law) 943 = .ok (.if_icmp .ne 77, 3) := by decide +kernel
theorem d_L_law_946 : decode (pw_cc cx_L_law) 946 = .ok (.aload_n 1, 1) := by decide +kernel
theorem d_L_law_947 : decode (pw_cc cx_L_law) 947 = .ok (.bipush 8, 2) := by decide +kernel
theorem d_L_law_949 : decode (pw_cc cx_L_law) 949 = .ok (.iload 8, 2) := by decide +kernel
theorem d_L_law_951 : decode (pw_cc cx_L_law) 951 = .ok (.iconst 3, 1) := by decide +kernel
theorem d_L_law_952 : decode (pw_cc cx_L_law) 952 = .ok (.ishr, 1) := by decide +kernel
theorem d_L_law_953 : decode (pw_cc cx_L_law) 953 = .ok (.iconst 3, 1) := by decide +kernel
theorem d_L_law_954 : decode (pw_cc cx_L_law) 954 = .ok (.irem, 1) := by decide +kernel
theorem d_L_law_955 : decode (pw_cc cx_L_law) 955 = .ok (.iload 12, 2) := by decide +kernel
theorem d_L_law_957 : decode (pw_cc cx_L_law) 957 = .ok (.iload 10, 2) := by decide +kernel
theorem d_L_law_959 : decode (pw_cc cx_L_law) 959 = .ok (.iconst 1, 1) := by decide +kernel
theorem d_L_law_960 : decode (pw_cc cx_L_law) 960 = .ok (.iload 8, 2) := by decide +kernel
theorem d_L_law_962 : decode (pw_cc cx_L_law) 962 = .ok (.bipush 9, 2) := by decide +kernel
theorem d_L_law_964 : decode (pw_cc cx_L_law) 964 = .ok (.ishr, 1) := by decide +kernel
theorem d_L_law_965 : decode (pw_cc cx_L_law) 965 = .ok (.bipush 99, 2) := by decide +kernel
theorem d_L_law_967 : decode (pw_cc cx_L_law) 967 = .ok (.irem, 1) := by decide +kernel
theorem d_L_law_968 : decode (pw_cc cx_L_law) 968 = .ok (.iadd, 1) := by decide +kernel
theorem d_L_law_969 : decode (pw_cc cx_L_law) 969 = .ok (.invokestatic 108, 3) := by decide +kernel
theorem d_L_law_972 : decode (pw_cc cx_L_law) 972 = .ok (.istore 17, 2) := by decide +kernel
theorem d_L_law_974 : decode (pw_cc cx_L_law) 974 = .ok (.iload 17, 2) := by decide +kernel
theorem d_L_law_976 : decode (pw_cc cx_L_law) 976 = .ok (.bipush (-13), 2) := by decide +kernel
theorem d_L_law_978 : decode (pw_cc cx_L_law) 978 = .ok (.if_icmp .eq 32, 3) := by decide +kernel
theorem d_L_law_981 : decode (pw_cc cx_L_law) 981 = .ok (.iload 17, 2) := by decide +kernel
theorem d_L_law_983 : decode (pw_cc cx_L_law) 983 = .ok (.iload_n 2, 1) := by decide +kernel
theorem d_L_law_984 : decode (pw_cc cx_L_law) 984 = .ok (.if_icmp .lt 30, 3) := by decide +kernel
theorem d_L_law_987 : decode (pw_cc cx_L_law) 987 = .ok (.aload_n 1, 1) := by decide +kernel
theorem d_L_law_988 : decode (pw_cc cx_L_law) 988 = .ok (.iload 17, 2) := by decide +kernel
theorem d_L_law_990 : decode (pw_cc cx_L_law) 990 = .ok (.iconst 2, 1) := by decide +kernel
theorem d_L_law_991 : decode (pw_cc cx_L_law) 991 = .ok (.invokevirtual 94, 3) := by decide +kernel
theorem d_L_law_994 : decode (pw_cc cx_L_law) 994 = .ok (.iload 10, 2) := by decide +kernel
theorem d_L_law_996 : decode (pw_cc cx_L_law) 996 = .ok (.if_icmp .ne 18, 3) := by decide +kernel
theorem d_L_law_999 : decode (pw_cc cx_L_law) 999 = .ok (.aload_n 1, 1) := by decide +kernel
theorem d_L_law_1000 : decode (pw_cc cx_L_law) 1000 = .ok (.iload 17, 2) := by decide +kernel
theorem d_L_law_1002 : decode (pw_cc cx_L_law) 1002 = .ok (.iconst 4, 1) := by decide +kernel
theorem d_L_law_1003 : decode (pw_cc cx_L_law) 1003 = .ok (.invokevirtual 94, 3) := by decide +kernel
theorem d_L_law_1006 : decode (pw_cc cx_L_law) 1006 = .ok (.iconst (-1), 1) := by decide +kernel
theorem d_L_law_1007 : decode (pw_cc cx_L_law) 1007 = .ok (.if_icmp .ne 7, 3) := by decide +kernel
theorem d_L_law_1010 : decode (pw_cc cx_L_law) 1010 = .ok (.iconst 1, 1) := by decide +kernel
theorem d_L_law_1011 : decode (pw_cc cx_L_law) 1011 = .ok (.goto 4, 3) := by decide +kernel
theorem d_L_law_1014 : decode (pw_cc cx_L_law) 1014 = .ok (.iconst 0, 1) := by decide +kernel
theorem d_L_law_1015 : decode (pw_cc cx_L_law) 1015 = .ok (.istore 4, 2) := by decide +kernel
theorem d_L_law_1017 : decode (pw_cc cx_L_law) 1017 = .ok (.goto 764, 3) := by decide +kernel
theorem d_L_law_1020 : decode (pw_cc cx_L_law) 1020 = .ok (.iload 9, 2) := by decide +kernel
theorem d_L_law_1022 : decode (pw_cc cx_L_law) 1022 = .ok (.bipush 9, 2) := by decide +kernel
theorem d_L_law_1024 : decode (pw_cc cx_L_law) 1024 = .ok (.if_icmp .ne 108, 3) := by decide +kernel
theorem d_L_law_1027 : decode (pw_cc cx_L_law) 1027 = .ok (.aload_n 1, 1) := by decide +kernel
theorem d_L_law_1028 : decode (pw_cc cx_L_law) 1028 = .ok (.iload 10, 2) := by decide +kernel
theorem d_L_law_1030 : decode (pw_cc cx_L_law) 1030 = .ok (.iload 12, 2) := by decide +kernel
theorem d_L_law_1032 : decode (pw_cc cx_L_law) 1032 = .ok (.invokevirtual 117, 3) := by decide +kernel
theorem d_L_law_1035 : decode (pw_cc cx_L_law) 1035 = .ok (.istore 18, 2) := by decide +kernel
theorem d_L_law_1037 : decode (pw_cc cx_L_law) 1037 = .ok (.iload 8, 2) := by decide +kernel
theorem d_L_law_1039 : decode (pw_cc cx_L_law) 1039 = .ok (.iconst 3, 1) := by decide +kernel
theorem d_L_law_1040 : decode (pw_cc cx_L_law) 1040 = .ok (.ishr, 1) := by decide +kernel
theorem d_L_law_1041 : decode (pw_cc cx_L_law) 1041 = .ok (.bipush 40, 2) := by decide +kernel
theorem d_L_law_1043 : decode (pw_cc cx_L_law) 1043 = .ok (.irem, 1) := by decide +kernel
theorem d_L_law_1044 : decode (pw_cc cx_L_law) 1044 = .ok (.istore 19, 2) := by decide +kernel
theorem d_L_law_1046 : decode (pw_cc cx_L_law) 1046 = .ok (.aload_n 1, 1) := by decide +kernel
theorem d_L_law_1047 : decode (pw_cc cx_L_law) 1047 = .ok (.bipush 9, 2) := by decide +kernel
theorem d_L_law_1049 : decode (pw_cc cx_L_law) 1049 = .ok (.iload 10, 2) := by decide +kernel
theorem d_L_law_1051 : decode (pw_cc cx_L_law) 1051 = .ok (.iload 12, 2) := by decide +kernel
theorem d_L_law_1053 : decode (pw_cc cx_L_law) 1053 = .ok (.iload 19, 2) := by decide +kernel
theorem d_L_law_1055 : decode (pw_cc cx_L_law) 1055 = .ok (.iconst 0, 1) := by decide +kernel
theorem d_L_law_1056 : decode (pw_cc cx_L_law) 1056 = .ok (.invokestatic 108, 3) := by decide +kernel
theorem d_L_law_1059 : decode (pw_cc cx_L_law) 1059 = .ok (.istore 17, 2) := by decide +kernel
theorem d_L_law_1061 : decode (pw_cc cx_L_law) 1061 = .ok (.iload 17, 2) := by decide +kernel
theorem d_L_law_1063 : decode (pw_cc cx_L_law) 1063 = .ok (.bipush (-13), 2) := by decide +kernel
theorem d_L_law_1065 : decode (pw_cc cx_L_law) 1065 = .ok (.if_icmp .ne 24, 3) := by decide +kernel
theorem d_L_law_1068 : decode (pw_cc cx_L_law) 1068 = .ok (.aload_n 1, 1) := by decide +kernel
theorem d_L_law_1069 : decode (pw_cc cx_L_law) 1069 = .ok (.iload 10, 2) := by decide +kernel
theorem d_L_law_1071 : decode (pw_cc cx_L_law) 1071 = .ok (.iload 12, 2) := by decide +kernel
theorem d_L_law_1073 : decode (pw_cc cx_L_law) 1073 = .ok (.invokevirtual 117, 3) := by decide +kernel
theorem d_L_law_1076 : decode (pw_cc cx_L_law) 1076 = .ok (.iload 18, 2) := by decide +kernel
theorem d_L_law_1078 : decode (pw_cc cx_L_law) 1078 = .ok (.if_icmp .ne 7, 3) := by decide +kernel
theorem d_L_law_1081 : decode (pw_cc cx_L_law) 1081 = .ok (.iconst 1, 1) := by decide +kernel
theorem d_L_law_1082 : decode (pw_cc cx_L_law) 1082 = .ok (.goto 45, 3) := by decide +kernel
theorem d_L_law_1085 : decode (pw_cc cx_L_law) 1085 = .ok (.iconst 0, 1) := by decide +kernel
theorem d_L_law_1086 : decode (pw_cc cx_L_law) 1086 = .ok (.goto 41, 3) := by decide +kernel
theorem d_L_law_1089 : decode (pw_cc cx_L_law) 1089 = .ok (.iload 17, 2) := by decide +kernel
theorem d_L_law_1091 : decode (pw_cc cx_L_law) 1091 = .ok (.iload 18, 2) := by decide +kernel
theorem d_L_law_1093 : decode (pw_cc cx_L_law) 1093 = .ok (.if_icmp .ne 33, 3) := by decide +kernel
theorem d_L_law_1096 : decode (pw_cc cx_L_law) 1096 = .ok (.aload_n 1, 1) := by decide +kernel
theorem d_L_law_1097 : decode (pw_cc cx_L_law) 1097 = .ok (.iload 10, 2) := by decide +kernel
theorem d_L_law_1099 : decode (pw_cc cx_L_law) 1099 = .ok (.iload 12, 2) := by decide +kernel
theorem d_L_law_1101 : decode (pw_cc cx_L_law) 1101 = .ok (.invokevirtual 117, 3) := by decide +kernel
theorem d_L_law_1104 : decode (pw_cc cx_L_law) 1104 = .ok (.iload 19, 2) := by decide +kernel
theorem d_L_law_1106 : decode (pw_cc cx_L_law) 1106 = .ok (.if_icmp .ne 20, 3) := by decide +kernel
theorem d_L_law_1109 : decode (pw_cc cx_L_law) 1109 = .ok (.iload 19, 2) := by decide +kernel
theorem d_L_law_1111 : decode (pw_cc cx_L_law) 1111 = .ok (.iconst 2, 1) := by decide +kernel
theorem d_L_law_1112 : decode (pw_cc cx_L_law) 1112 = .ok (.aload_n 1, 1) := by decide +kernel
theorem d_L_law_1113 : decode (pw_cc cx_L_law) 1113 = .ok (.iload 12, 2) := by decide +kernel
theorem d_L_law_1115 : decode (pw_cc cx_L_law) 1115 = .ok (.invokevirtual 88, 3) := by decide +kernel
theorem d_L_law_1118 : decode (pw_cc cx_L_law) 1118 = .ok (.imul, 1) := by decide +kernel
theorem d_L_law_1119 : decode (pw_cc cx_L_law) 1119 = .ok (.if_icmp .gt 7, 3) := by decide +kernel
theorem d_L_law_1122 : decode (pw_cc cx_L_law) 1122 = .ok (.iconst 1, 1) := by decide +kernel
theorem d_L_law_1123 : decode (pw_cc cx_L_law) 1123 = .ok (.goto 4, 3) := by decide +kernel
theorem d_L_law_1126 : decode (pw_cc cx_L_law) 1126 = .ok (.iconst 0, 1) := by decide +kernel
theorem d_L_law_1127 : decode (pw_cc cx_L_law) 1127 = .ok (.istore 4, 2) := by decide +kernel
theorem d_L_law_1129 : decode (pw_cc cx_L_law) 1129 = .ok (.goto 652, 3) := by decide +kernel
theorem d_L_law_1132 : decode (pw_cc cx_L_law) 1132 = .ok (.iload 9, 2) := by decide +kernel
theorem d_L_law_1134 : decode (pw_cc cx_L_law) 1134 = .ok (.bipush 10, 2) := by decide +kernel
theorem d_L_law_1136 : decode (pw_cc cx_L_law) 1136 = .ok (.if_icmp .ne 92, 3) := by decide +kernel
theorem d_L_law_1139 : decode (pw_cc cx_L_law) 1139 = .ok (.iconst 1, 1) := by decide +kernel
theorem d_L_law_1140 : decode (pw_cc cx_L_law) 1140 = .ok (.iload 8, 2) := by decide +kernel
theorem d_L_law_1142 : decode (pw_cc cx_L_law) 1142 = .ok (.iconst 3, 1) := by decide +kernel
theorem d_L_law_1143 : decode (pw_cc cx_L_law) 1143 = .ok (.ishr, 1) := by decide +kernel
theorem d_L_law_1144 : decode (pw_cc cx_L_law) 1144 = .ok (.bipush 60, 2) := by decide +kernel
theorem d_L_law_1146 : decode (pw_cc cx_L_law) 1146 = .ok (.irem, 1) := by decide +kernel
theorem d_L_law_1147 : decode (pw_cc cx_L_law) 1147 = .ok (.iadd, 1) := by decide +kernel
theorem d_L_law_1148 : decode (pw_cc cx_L_law) 1148 = .ok (.istore 18, 2) := by decide +kernel
theorem d_L_law_1150 : decode (pw_cc cx_L_law) 1150 = .ok (.aload_n 1, 1) := by decide +kernel
theorem d_L_law_1151 : decode (pw_cc cx_L_law) 1151 = .ok (.iconst 1, 1) := by decide +kernel
theorem d_L_law_1152 : decode (pw_cc cx_L_law) 1152 = .ok (.invokevirtual 91, 3) := by decide +kernel
theorem d_L_law_1155 : decode (pw_cc cx_L_law) 1155 = .ok (.istore 19, 2) := by decide +kernel
theorem d_L_law_1157 : decode (pw_cc cx_L_law) 1157 = .ok (.aload_n 1, 1) := by decide +kernel
theorem d_L_law_1158 : decode (pw_cc cx_L_law) 1158 = .ok (.iconst 2, 1) := by decide +kernel
theorem d_L_law_1159 : decode (pw_cc cx_L_law) 1159 = .ok (.invokevirtual 91, 3) := by decide +kernel
theorem d_L_law_1162 : decode (pw_cc cx_L_law) 1162 = .ok (.istore 20, 2) := by decide +kernel
theorem d_L_law_1164 : decode (pw_cc cx_L_law) 1164 = .ok (.aload_n 1, 1) := by decide +kernel
theorem d_L_law_1165 : decode (pw_cc cx_L_law) 1165 = .ok (.iload 18, 2) := by decide +kernel
theorem d_L_law_1167 : decode (pw_cc cx_L_law) 1167 = .ok (.invokevirtual 120, 3) := by decide +kernel
theorem d_L_law_1170 : decode (pw_cc cx_L_law) 1170 = .ok (.istore 17, 2) := by decide +kernel
theorem d_L_law_1172 : decode (pw_cc cx_L_law) 1172 = .ok (.iload 17, 2) := by decide +kernel
theorem d_L_law_1174 : decode (pw_cc cx_L_law) 1174 = .ok (.ifCond .lt 48, 3) := by decide +kernel
theorem d_L_law_1177 : decode (pw_cc cx_L_law) 1177 = .ok (.aload_n 1, 1) := by decide +kernel
theorem d_L_law_1178 : decode (pw_cc cx_L_law) 1178 = .ok (.iconst 1, 1) := by decide +kernel
theorem d_L_law_1179 : decode (pw_cc cx_L_law) 1179 = .ok (.invokevirtual 91, 3) := by decide +kernel
theorem d_L_law_1182 : decode (pw_cc cx_L_law) 1182 = .ok (.iload 19, 2) := by decide +kernel
theorem d_L_law_1184 : decode (pw_cc cx_L_law) 1184 = .ok (.bipush 100, 2) := by decide +kernel
theorem d_L_law_1186 : decode (pw_cc cx_L_law) 1186 = .ok (.iload 18, 2) := by decide +kernel
theorem d_L_law_1188 : decode (pw_cc cx_L_law) 1188 = .ok (.imul, 1) := by decide +kernel
theorem d_L_law_1189 : decode (pw_cc cx_L_law) 1189 = .ok (.iadd, 1) := by decide +kernel
theorem d_L_law_1190 : decode (pw_cc cx_L_law) 1190 = .ok (.if_icmp .ne 32, 3) := by decide +kernel
theorem d_L_law_1193 : decode (pw_cc cx_L_law) 1193 = .ok (.aload_n 1, 1) := by decide +kernel
theorem d_L_law_1194 : decode (pw_cc cx_L_law) 1194 = .ok (.iconst 2, 1) := by decide +kernel
theorem d_L_law_1195 : decode (pw_cc cx_L_law) 1195 = .ok (.invokevirtual 91, 3) := by decide +kernel
theorem d_L_law_1198 : decode (pw_cc cx_L_law) 1198 = .ok (.iload 20, 2) := by decide +kernel
theorem d_L_law_1200 : decode (pw_cc cx_L_law) 1200 = .ok (.iload 17, 2) := by decide +kernel
theorem d_L_law_1202 : decode (pw_cc cx_L_law) 1202 = .ok (.iadd, 1) := by decide +kernel
theorem d_L_law_1203 : decode (pw_cc cx_L_law) 1203 = .ok (.if_icmp .ne 19, 3) := by decide +kernel
theorem d_L_law_1206 : decode (pw_cc cx_L_law) 1206 = .ok (.aload_n 1, 1) := by decide +kernel
theorem d_L_law_1207 : decode (pw_cc cx_L_law) 1207 = .ok (.iload 15, 2) := by decide +kernel
theorem d_L_law_1209 : decode (pw_cc cx_L_law) 1209 = .ok (.iconst 1, 1) := by decide +kernel
theorem d_L_law_1210 : decode (pw_cc cx_L_law) 1210 = .ok (.invokevirtual 85, 3) := by decide +kernel
theorem d_L_law_1213 : decode (pw_cc cx_L_law) 1213 = .ok (.iload 18, 2) := by decide +kernel
theorem d_L_law_1215 : decode (pw_cc cx_L_law) 1215 = .ok (.if_icmp .lt 7, 3) := by decide +kernel
theorem d_L_law_1218 : decode (pw_cc cx_L_law) 1218 = .ok (.iconst 1, 1) := by decide +kernel
theorem d_L_law_1219 : decode (pw_cc cx_L_law) 1219 = .ok (.goto 4, 3) := by decide +kernel
theorem d_L_law_1222 : decode (pw_cc cx_L_law) 1222 = .ok (.iconst 0, 1) := by decide +kernel
theorem d_L_law_1223 : decode (pw_cc cx_L_law) 1223 = .ok (.istore 4, 2) := by decide +kernel
theorem d_L_law_1225 : decode (pw_cc cx_L_law) 1225 = .ok (.goto 556, 3) := by decide +kernel
theorem d_L_law_1228 : decode (pw_cc cx_L_law) 1228 = .ok (.iload 9, 2) := by decide +kernel
theorem d_L_law_1230 : decode (pw_cc cx_L_law) 1230 = .ok (.bipush 11, 2) := by decide +kernel
theorem d_L_law_1232 : decode (pw_cc cx_L_law) 1232 = .ok (.if_icmp .ne 107, 3) := by decide +kernel
theorem d_L_law_1235 : decode (pw_cc cx_L_law) 1235 = .ok (.aload_n 1, 1) := by decide +kernel
theorem d_L_law_1236 : decode (pw_cc cx_L_law) 1236 = .ok (.bipush 10, 2) := by decide +kernel
theorem d_L_law_1238 : decode (pw_cc cx_L_law) 1238 = .ok (.iload 15, 2) := by decide +kernel
theorem d_L_law_1240 : decode (pw_cc cx_L_law) 1240 = .ok (.iload 8, 2) := by decide +kernel
theorem d_L_law_1242 : decode (pw_cc cx_L_law) 1242 = .ok (.iconst 3, 1) := by decide +kernel
theorem d_L_law_1243 : decode (pw_cc cx_L_law) 1243 = .ok (.ishr, 1) := by decide +kernel
theorem d_L_law_1244 : decode (pw_cc cx_L_law) 1244 = .ok (.iconst 1, 1) := by decide +kernel
theorem d_L_law_1245 : decode (pw_cc cx_L_law) 1245 = .ok (.iand, 1) := by decide +kernel
theorem d_L_law_1246 : decode (pw_cc cx_L_law) 1246 = .ok (.ifCond .ne 10, 3) := by decide +kernel
theorem d_L_law_1249 : decode (pw_cc cx_L_law) 1249 = .ok (.iload 15, 2) := by decide +kernel
theorem d_L_law_1251 : decode (pw_cc cx_L_law) 1251 = .ok (.iconst 1, 1) := by decide +kernel
theorem d_L_law_1252 : decode (pw_cc cx_L_law) 1252 = .ok (.iadd, 1) := by decide +kernel
theorem d_L_law_1253 : decode (pw_cc cx_L_law) 1253 = .ok (.goto 8, 3) := by decide +kernel
theorem d_L_law_1256 : decode (pw_cc cx_L_law) 1256 = .ok (.iload 15, 2) := by decide +kernel
theorem d_L_law_1258 : decode (pw_cc cx_L_law) 1258 = .ok (.bipush 10, 2) := by decide +kernel
theorem d_L_law_1260 : decode (pw_cc cx_L_law) 1260 = .ok (.iadd, 1) := by decide +kernel
theorem d_L_law_1261 : decode (pw_cc cx_L_law) 1261 = .ok (.iconst 0, 1) := by decide +kernel
theorem d_L_law_1262 : decode (pw_cc cx_L_law) 1262 = .ok (.iconst 0, 1) := by decide +kernel
theorem d_L_law_1263 : decode (pw_cc cx_L_law) 1263 = .ok (.invokestatic 108, 3) := by decide +kernel
theorem d_L_law_1266 : decode (pw_cc cx_L_law) 1266 = .ok (.istore 17, 2) := by decide +kernel
theorem d_L_law_1268 : decode (pw_cc cx_L_law) 1268 = .ok (.iload 17, 2) := by decide +kernel
theorem d_L_law_1270 : decode (pw_cc cx_L_law) 1270 = .ok (.ifCond .le 10, 3) := by decide +kernel
theorem d_L_law_1273 : decode (pw_cc cx_L_law) 1273 = .ok (.iload 17, 2) := by decide +kernel
theorem d_L_law_1275 : decode (pw_cc cx_L_law) 1275 = .ok (.bipush 20, 2) := by decide +kernel
theorem d_L_law_1277 : decode (pw_cc cx_L_law) 1277 = .ok (.if_icmp .le 52, 3) := by decide +kernel
theorem d_L_law_1280 : decode (pw_cc cx_L_law) 1280 = .ok (.iload 17, 2) := by decide +kernel
theorem d_L_law_1282 : decode (pw_cc cx_L_law) 1282 = .ok (.bipush (-13), 2) := by decide +kernel
theorem d_L_law_1284 : decode (pw_cc cx_L_law) 1284 = .ok (.if_icmp .eq 45, 3) := by decide +kernel
theorem d_L_law_1287 : decode (pw_cc cx_L_law) 1287 = .ok (.iload 17, 2) := by decide +kernel
theorem d_L_law_1289 : decode (pw_cc cx_L_law) 1289 = .ok (.bipush (-12), 2) := by decide +kernel
theorem d_L_law_1291 : decode (pw_cc cx_L_law) 1291 = .ok (.if_icmp .ne 10, 3) := by decide +kernel
theorem d_L_law_1294 : decode (pw_cc cx_L_law) 1294 = .ok (.iload 13, 2) := by decide +kernel
theorem d_L_law_1296 : decode (pw_cc cx_L_law) 1296 = .ok (.bipush 9, 2) := by decide +kernel
theorem d_L_law_1298 : decode (pw_cc cx_L_law) 1298 = .ok (.if_icmp .eq 31, 3) := by decide +kernel
theorem d_L_law_1301 : decode (pw_cc cx_L_law) 1301 = .ok (.iload 17, 2) := by decide +kernel
theorem d_L_law_1303 : decode (pw_cc cx_L_law) 1303 = .ok (.bipush (-11), 2) := by decide +kernel
theorem d_L_law_1305 : decode (pw_cc cx_L_law) 1305 = .ok (.if_icmp .ne 10, 3) := by decide +kernel
theorem d_L_law_1308 : decode (pw_cc cx_L_law) 1308 = .ok (.iload 14, 2) := by decide +kernel
theorem d_L_law_1310 : decode (pw_cc cx_L_law) 1310 = .ok (.bipush 9, 2) := by decide +kernel
theorem d_L_law_1312 : decode (pw_cc cx_L_law) 1312 = .ok (.if_icmp .eq 17, 3) := by decide +kernel
theorem d_L_law_1315 : decode (pw_cc cx_L_law) 1315 = .ok (.iload 17, 2) := by decide +kernel
theorem d_L_law_1317 : decode (pw_cc cx_L_law) 1317 = .ok (.bipush (-11), 2) := by decide +kernel
theorem d_L_law_1319 : decode (pw_cc cx_L_law) 1319 = .ok (.if_icmp .ne 14, 3) := by decide +kernel
theorem d_L_law_1322 : decode (pw_cc cx_L_law) 1322 = .ok (.iload 15, 2) := by decide +kernel
theorem d_L_law_1324 : decode (pw_cc cx_L_law) 1324 = .ok (.bipush 99, 2) := by decide +kernel
theorem d_L_law_1326 : decode (pw_cc cx_L_law) 1326 = .ok (.if_icmp .ne 7, 3) := by decide +kernel
theorem d_L_law_1329 : decode (pw_cc cx_L_law) 1329 = .ok (.iconst 1, 1) := by decide +kernel
theorem d_L_law_1330 : decode (pw_cc cx_L_law) 1330 = .ok (.goto 4, 3) := by decide +kernel
theorem d_L_law_1333 : decode (pw_cc cx_L_law) 1333 = .ok (.iconst 0, 1) := by decide +kernel
theorem d_L_law_1334 : decode (pw_cc cx_L_law) 1334 = .ok (.istore 4, 2) := by decide +kernel
theorem d_L_law_1336 : decode (pw_cc cx_L_law) 1336 = .ok (.goto 445, 3) := by decide +kernel
theorem d_L_law_1339 : decode (pw_cc cx_L_law) 1339 = .ok (.iload 9, 2) := by decide +kernel
theorem d_L_law_1341 : decode (pw_cc cx_L_law) 1341 = .ok (.bipush 12, 2) := by decide +kernel
theorem d_L_law_1343 : decode (pw_cc cx_L_law) 1343 = .ok (.if_icmp .ne 160, 3) := by decide +kernel
theorem d_L_law_1346 : decode (pw_cc cx_L_law) 1346 = .ok (.aload_n 1, 1) := by decide +kernel
theorem d_L_law_1347 : decode (pw_cc cx_L_law) 1347 = .ok (.iload 15, 2) := by decide +kernel
theorem d_L_law_1349 : decode (pw_cc cx_L_law) 1349 = .ok (.iconst 0, 1) := by decide +kernel
theorem d_L_law_1350 : decode (pw_cc cx_L_law) 1350 = .ok (.invokevirtual 85, 3) := by decide +kernel
theorem d_L_law_1353 : decode (pw_cc cx_L_law) 1353 = .ok (.istore 18, 2) := by decide +kernel
theorem d_L_law_1355 : decode (pw_cc cx_L_law) 1355 = .ok (.iload 8, 2) := by decide +kernel
theorem d_L_law_1357 : decode (pw_cc cx_L_law) 1357 = .ok (.iconst 3, 1) := by decide +kernel
theorem d_L_law_1358 : decode (pw_cc cx_L_law) 1358 = .ok (.ishr, 1) := by decide +kernel
theorem d_L_law_1359 : decode (pw_cc cx_L_law) 1359 = .ok (.iconst 1, 1) := by decide +kernel
theorem d_L_law_1360 : decode (pw_cc cx_L_law) 1360 = .ok (.iand, 1) := by decide +kernel
theorem d_L_law_1361 : decode (pw_cc cx_L_law) 1361 = .ok (.ifCond .ne 7, 3) := by decide +kernel
theorem d_L_law_1364 : decode (pw_cc cx_L_law) 1364 = .ok (.iconst 1, 1) := by decide +kernel
theorem d_L_law_1365 : decode (pw_cc cx_L_law) 1365 = .ok (.goto 4, 3) := by decide +kernel
theorem d_L_law_1368 : decode (pw_cc cx_L_law) 1368 = .ok (.iconst 0, 1) := by decide +kernel
theorem d_L_law_1369 : decode (pw_cc cx_L_law) 1369 = .ok (.istore 19, 2) := by decide +kernel
theorem d_L_law_1371 : decode (pw_cc cx_L_law) 1371 = .ok (.iconst 1, 1) := by decide +kernel
theorem d_L_law_1372 : decode (pw_cc cx_L_law) 1372 = .ok (.iload 8, 2) := by decide +kernel
theorem d_L_law_1374 : decode (pw_cc cx_L_law) 1374 = .ok (.iconst 4, 1) := by decide +kernel
theorem d_L_law_1375 : decode (pw_cc cx_L_law) 1375 = .ok (.ishr, 1) := by decide +kernel
theorem d_L_law_1376 : decode (pw_cc cx_L_law) 1376 = .ok (.bipush 20, 2) := by decide +kernel
theorem d_L_law_1378 : decode (pw_cc cx_L_law) 1378 = .ok (.irem, 1) := by decide +kernel
theorem d_L_law_1379 : decode (pw_cc cx_L_law) 1379 = .ok (.iadd, 1) := by decide +kernel
theorem d_L_law_1380 : decode (pw_cc cx_L_law) 1380 = .ok (.istore 20, 2) := by decide +kernel
theorem d_L_law_1382 : decode (pw_cc cx_L_law) 1382 = .ok (.aload_n 1, 1) := by decide +kernel
theorem d_L_law_1383 : decode (pw_cc cx_L_law) 1383 = .ok (.iload 19, 2) := by decide +kernel
theorem d_L_law_1385 : decode (pw_cc cx_L_law) 1385 = .ok (.ifCond .eq 8, 3) := by decide +kernel
theorem d_L_law_1388 : decode (pw_cc cx_L_law) 1388 = .ok (.bipush 11, 2) := by decide +kernel
theorem d_L_law_1390 : decode (pw_cc cx_L_law) 1390 = .ok (.goto 5, 3) := by decide +kernel
theorem d_L_law_1393 : decode (pw_cc cx_L_law) 1393 = .ok (.bipush 12, 2) := by decide +kernel
theorem d_L_law_1395 : decode (pw_cc cx_L_law) 1395 = .ok (.iload 10, 2) := by decide +kernel
theorem d_L_law_1397 : decode (pw_cc cx_L_law) 1397 = .ok (.iload 15, 2) := by decide +kernel
theorem d_L_law_1399 : decode (pw_cc cx_L_law) 1399 = .ok (.iload 20, 2) := by decide +kernel
theorem d_L_law_1401 : decode (pw_cc cx_L_law) 1401 = .ok (.iconst 0, 1) := by decide +kernel
theorem d_L_law_1402 : decode (pw_cc cx_L_law) 1402 = .ok (.invokestatic 108, 3) := by decide +kernel
theorem d_L_law_1405 : decode (pw_cc cx_L_law) 1405 = .ok (.istore 17, 2) := by decide +kernel
theorem d_L_law_1407 : decode (pw_cc cx_L_law) 1407 = .ok (.iload 17, 2) := by decide +kernel
theorem d_L_law_1409 : decode (pw_cc cx_L_law) 1409 = .ok (.bipush (-13), 2) := by decide +kernel
theorem d_L_law_1411 : decode (pw_cc cx_L_law) 1411 = .ok (.if_icmp .ne 23, 3) := by decide +kernel
theorem d_L_law_1414 : decode (pw_cc cx_L_law) 1414 = .ok (.aload_n 1, 1) := by decide +kernel
theorem d_L_law_1415 : decode (pw_cc cx_L_law) 1415 = .ok (.iload 15, 2) := by decide +kernel
theorem d_L_law_1417 : decode (pw_cc cx_L_law) 1417 = .ok (.iconst 0, 1) := by decide +kernel
theorem d_L_law_1418 : decode (pw_cc cx_L_law) 1418 = .ok (.invokevirtual 85, 3) := by decide +kernel
theorem d_L_law_1421 : decode (pw_cc cx_L_law) 1421 = .ok (.iload 18, 2) := by decide +kernel
theorem d_L_law_1423 : decode (pw_cc cx_L_law) 1423 = .ok (.if_icmp .ne 7, 3) := by decide +kernel
theorem d_L_law_1426 : decode (pw_cc cx_L_law) 1426 = .ok (.iconst 1, 1) := by decide +kernel
theorem d_L_law_1427 : decode (pw_cc cx_L_law) 1427 = .ok (.goto 71, 3) := by decide +kernel
theorem d_L_law_1430 : decode (pw_cc cx_L_law) 1430 = .ok (.iconst 0, 1) := by decide +kernel
theorem d_L_law_1431 : decode (pw_cc cx_L_law) 1431 = .ok (.goto 67, 3) := by decide +kernel
theorem d_L_law_1434 : decode (pw_cc cx_L_law) 1434 = .ok (.iload 17, 2) := by decide +kernel
theorem d_L_law_1436 : decode (pw_cc cx_L_law) 1436 = .ok (.iload 19, 2) := by decide +kernel
theorem d_L_law_1438 : decode (pw_cc cx_L_law) 1438 = .ok (.ifCond .eq 11, 3) := by decide +kernel
theorem d_L_law_1441 : decode (pw_cc cx_L_law) 1441 = .ok (.iload 18, 2) := by decide +kernel
theorem d_L_law_1443 : decode (pw_cc cx_L_law) 1443 = .ok (.iload 20, 2) := by decide +kernel
theorem d_L_law_1445 : decode (pw_cc cx_L_law) 1445 = .ok (.isub, 1) := by decide +kernel
theorem d_L_law_1446 : decode (pw_cc cx_L_law) 1446 = .ok (.goto 17, 3) := by decide +kernel
theorem d_L_law_1449 : decode (pw_cc cx_L_law) 1449 = .ok (.iload 18, 2) := by decide +kernel
theorem d_L_law_1451 : decode (pw_cc cx_L_law) 1451 = .ok (.iconst 5, 1) := by decide +kernel
theorem d_L_law_1452 : decode (pw_cc cx_L_law) 1452 = .ok (.if_icmp .ge 7, 3) := by decide +kernel
theorem d_L_law_1455 : decode (pw_cc cx_L_law) 1455 = .ok (.iconst 0, 1) := by decide +kernel
theorem d_L_law_1456 : decode (pw_cc cx_L_law) 1456 = .ok (.goto 7, 3) := by decide +kernel
theorem d_L_law_1459 : decode (pw_cc cx_L_law) 1459 = .ok (.iload 18, 2) := by decide +kernel
theorem d_L_law_1461 : decode (pw_cc cx_L_law) 1461 = .ok (.iconst 5, 1) := by decide +kernel
theorem d_L_law_1462 : decode (pw_cc cx_L_law) 1462 = .ok (.isub, 1) := by decide +kernel
theorem d_L_law_1463 : decode (pw_cc cx_L_law) 1463 = .ok (.if_icmp .ne 34, 3) := by decide +kernel
theorem d_L_law_1466 : decode (pw_cc cx_L_law) 1466 = .ok (.aload_n 1, 1) := by decide +kernel
theorem d_L_law_1467 : decode (pw_cc cx_L_law) 1467 = .ok (.iload 15, 2) := by decide +kernel
theorem d_L_law_1469 : decode (pw_cc cx_L_law) 1469 = .ok (.iconst 0, 1) := by decide +kernel
theorem d_L_law_1470 : decode (pw_cc cx_L_law) 1470 = .ok (.invokevirtual 85, 3) := by decide +kernel
theorem d_L_law_1473 : decode (pw_cc cx_L_law) 1473 = .ok (.iload 17, 2) := by decide +kernel
theorem d_L_law_1475 : decode (pw_cc cx_L_law) 1475 = .ok (.if_icmp .ne 22, 3) := by decide +kernel
theorem d_L_law_1478 : decode (pw_cc cx_L_law) 1478 = .ok (.iload 19, 2) := by decide +kernel
theorem d_L_law_1480 : decode (pw_cc cx_L_law) 1480 = .ok (.ifCond .ne 13, 3) := by decide +kernel
theorem d_L_law_1483 : decode (pw_cc cx_L_law) 1483 = .ok (.aload_n 1, 1) := by decide +kernel
theorem d_L_law_1484 : decode (pw_cc cx_L_law) 1484 = .ok (.iload 15, 2) := by decide +kernel
theorem d_L_law_1486 : decode (pw_cc cx_L_law) 1486 = .ok (.iconst 2, 1) := by decide +kernel
theorem d_L_law_1487 : decode (pw_cc cx_L_law) 1487 = .ok (.invokevirtual 85, 3) := by decide +kernel
theorem d_L_law_1490 : decode (pw_cc cx_L_law) 1490 = .ok (.ifCond .ne 7, 3) := by decide +kernel
theorem d_L_law_1493 : decode (pw_cc cx_L_law) 1493 = .ok (.iconst 1, 1) := by decide +kernel
theorem d_L_law_1494 : decode (pw_cc cx_L_law) 1494 = .ok (.goto 4, 3) := by decide +kernel
theorem d_L_law_1497 : decode (pw_cc cx_L_law) 1497 = .ok (.iconst 0, 1) := by decide +kernel
theorem d_L_law_1498 : decode (pw_cc cx_L_law) 1498 = .ok (.istore 4, 2) := by decide +kernel
theorem d_L_law_1500 : decode (pw_cc cx_L_law) 1500 = .ok (.goto 281, 3) := by decide +kernel
theorem d_L_law_1503 : decode (pw_cc cx_L_law) 1503 = .ok (.iload 9, 2) := by decide +kernel
theorem d_L_law_1505 : decode (pw_cc cx_L_law) 1505 = .ok (.bipush 13, 2) := by decide +kernel
theorem d_L_law_1507 : decode (pw_cc cx_L_law) 1507 = .ok (.if_icmp .ne 86, 3) := by decide +kernel
theorem d_L_law_1510 : decode (pw_cc cx_L_law) 1510 = .ok (.iload 8, 2) := by decide +kernel
theorem d_L_law_1512 : decode (pw_cc cx_L_law) 1512 = .ok (.bipush 20, 2) := by decide +kernel
theorem d_L_law_1514 : decode (pw_cc cx_L_law) 1514 = .ok (.ishr, 1) := by decide +kernel
theorem d_L_law_1515 : decode (pw_cc cx_L_law) 1515 = .ok (.iconst 1, 1) := by decide +kernel
theorem d_L_law_1516 : decode (pw_cc cx_L_law) 1516 = .ok (.iand, 1) := by decide +kernel
theorem d_L_law_1517 : decode (pw_cc cx_L_law) 1517 = .ok (.ifCond .ne 76, 3) := by decide +kernel
theorem d_L_law_1520 : decode (pw_cc cx_L_law) 1520 = .ok (.iload 8, 2) := by decide +kernel
theorem d_L_law_1522 : decode (pw_cc cx_L_law) 1522 = .ok (.bipush 21, 2) := by decide +kernel
theorem d_L_law_1524 : decode (pw_cc cx_L_law) 1524 = .ok (.ishr, 1) := by decide +kernel
theorem d_L_law_1525 : decode (pw_cc cx_L_law) 1525 = .ok (.bipush 7, 2) := by decide +kernel
theorem d_L_law_1527 : decode (pw_cc cx_L_law) 1527 = .ok (.iand, 1) := by decide +kernel
theorem d_L_law_1528 : decode (pw_cc cx_L_law) 1528 = .ok (.ifCond .ne 17, 3) := by decide +kernel
theorem d_L_law_1531 : decode (pw_cc cx_L_law) 1531 = .ok (.aload_n 1, 1) := by decide +kernel
theorem d_L_law_1532 : decode (pw_cc cx_L_law) 1532 = .ok (.bipush 14, 2) := by decide +kernel
theorem d_L_law_1534 : decode (pw_cc cx_L_law) 1534 = .ok (.iload 10, 2) := by decide +kernel
theorem d_L_law_1536 : decode (pw_cc cx_L_law) 1536 = .ok (.iconst 0, 1) := by decide +kernel
theorem d_L_law_1537 : decode (pw_cc cx_L_law) 1537 = .ok (.iconst 0, 1) := by decide +kernel
theorem d_L_law_1538 : decode (pw_cc cx_L_law) 1538 = .ok (.iconst 0, 1) := by decide +kernel
theorem d_L_law_1539 : decode (pw_cc cx_L_law) 1539 = .ok (.invokestatic 108, 3) := by decide +kernel
theorem d_L_law_1542 : decode (pw_cc cx_L_law) 1542 = .ok (.goto 20, 3) := by decide +kernel
theorem d_L_law_1545 : decode (pw_cc cx_L_law) 1545 = .ok (.aload_n 1, 1) := by decide +kernel
theorem d_L_law_1546 : decode (pw_cc cx_L_law) 1546 = .ok (.bipush 13, 2) := by decide +kernel
theorem d_L_law_1548 : decode (pw_cc cx_L_law) 1548 = .ok (.iload 10, 2) := by decide +kernel
theorem d_L_law_1550 : decode (pw_cc cx_L_law) 1550 = .ok (.iload 8, 2) := by decide +kernel
theorem d_L_law_1552 : decode (pw_cc cx_L_law) 1552 = .ok (.iconst 3, 1) := by decide +kernel
theorem d_L_law_1553 : decode (pw_cc cx_L_law) 1553 = .ok (.ishr, 1) := by decide +kernel
theorem d_L_law_1554 : decode (pw_cc cx_L_law) 1554 = .ok (.bipush 12, 2) := by decide +kernel
theorem d_L_law_1556 : decode (pw_cc cx_L_law) 1556 = .ok (.irem, 1) := by decide +kernel
theorem d_L_law_1557 : decode (pw_cc cx_L_law) 1557 = .ok (.iconst 0, 1) := by decide +kernel
theorem d_L_law_1558 : decode (pw_cc cx_L_law) 1558 = .ok (.iconst 0, 1) := by decide +kernel
theorem d_L_law_1559 : decode (pw_cc cx_L_law) 1559 = .ok (.invokestatic 108, 3) := by decide +kernel
theorem d_L_law_1562 : decode (pw_cc cx_L_law) 1562 = .ok (.istore 17, 2) := by decide +kernel
theorem d_L_law_1564 : decode (pw_cc cx_L_law) 1564 = .ok (.iload 17, 2) := by decide +kernel
theorem d_L_law_1566 : decode (pw_cc cx_L_law) 1566 = .ok (.bipush (-13), 2) := by decide +kernel
theorem d_L_law_1568 : decode (pw_cc cx_L_law) 1568 = .ok (.if_icmp .eq 15, 3) := by decide +kernel
theorem d_L_law_1571 : decode (pw_cc cx_L_law) 1571 = .ok (.iload 17, 2) := by decide +kernel
theorem d_L_law_1573 : decode (pw_cc cx_L_law) 1573 = .ok (.ifCond .lt 14, 3) := by decide +kernel
theorem d_L_law_1576 : decode (pw_cc cx_L_law) 1576 = .ok (.iload 17, 2) := by decide +kernel
theorem d_L_law_1578 : decode (pw_cc cx_L_law) 1578 = .ok (.bipush 40, 2) := by decide +kernel
theorem d_L_law_1580 : decode (pw_cc cx_L_law) 1580 = .ok (.if_icmp .gt 7, 3) := by decide +kernel
theorem d_L_law_1583 : decode (pw_cc cx_L_law) 1583 = .ok (.iconst 1, 1) := by decide +kernel
theorem d_L_law_1584 : decode (pw_cc cx_L_law) 1584 = .ok (.goto 4, 3) := by decide +kernel
theorem d_L_law_1587 : decode (pw_cc cx_L_law) 1587 = .ok (.iconst 0, 1) := by decide +kernel
theorem d_L_law_1588 : decode (pw_cc cx_L_law) 1588 = .ok (.istore 4, 2) := by decide +kernel
theorem d_L_law_1590 : decode (pw_cc cx_L_law) 1590 = .ok (.goto 191, 3) := by decide +kernel
theorem d_L_law_1593 : decode (pw_cc cx_L_law) 1593 = .ok (.iload 9, 2) := by decide +kernel
theorem d_L_law_1595 : decode (pw_cc cx_L_law) 1595 = .ok (.bipush 13, 2) := by decide +kernel
theorem d_L_law_1597 : decode (pw_cc cx_L_law) 1597 = .ok (.if_icmp .ne 53, 3) := by decide +kernel
theorem d_L_law_1600 : decode (pw_cc cx_L_law) 1600 = .ok (.iload 8, 2) := by decide +kernel
theorem d_L_law_1602 : decode (pw_cc cx_L_law) 1602 = .ok (.iconst 3, 1) := by decide +kernel
theorem d_L_law_1603 : decode (pw_cc cx_L_law) 1603 = .ok (.ishr, 1) := by decide +kernel
theorem d_L_law_1604 : decode (pw_cc cx_L_law) 1604 = .ok (.bipush 6, 2) := by decide +kernel
theorem d_L_law_1606 : decode (pw_cc cx_L_law) 1606 = .ok (.irem, 1) := by decide +kernel
theorem d_L_law_1607 : decode (pw_cc cx_L_law) 1607 = .ok (.istore 18, 2) := by decide +kernel
theorem d_L_law_1609 : decode (pw_cc cx_L_law) 1609 = .ok (.aload_n 1, 1) := by decide +kernel
theorem d_L_law_1610 : decode (pw_cc cx_L_law) 1610 = .ok (.iload 18, 2) := by decide +kernel
theorem d_L_law_1612 : decode (pw_cc cx_L_law) 1612 = .ok (.invokevirtual 123, 3) := by decide +kernel
theorem d_L_law_1615 : decode (pw_cc cx_L_law) 1615 = .ok (.istore 19, 2) := by decide +kernel
theorem d_L_law_1617 : decode (pw_cc cx_L_law) 1617 = .ok (.iload 19, 2) := by decide +kernel
theorem d_L_law_1619 : decode (pw_cc cx_L_law) 1619 = .ok (.ifCond .lt 25, 3) := by decide +kernel
theorem d_L_law_1622 : decode (pw_cc cx_L_law) 1622 = .ok (.iload 19, 2) := by decide +kernel
theorem d_L_law_1624 : decode (pw_cc cx_L_law) 1624 = .ok (.bipush 10, 2) := by decide +kernel
theorem d_L_law_1626 : decode (pw_cc cx_L_law) 1626 = .ok (.if_icmp .ge 18, 3) := by decide +kernel
theorem d_L_law_1629 : decode (pw_cc cx_L_law) 1629 = .ok (.aload_n 1, 1) := by decide +kernel
theorem d_L_law_1630 : decode (pw_cc cx_L_law) 1630 = .ok (.iload 18, 2) := by decide +kernel
theorem d_L_law_1632 : decode (pw_cc cx_L_law) 1632 = .ok (.invokevirtual 123, 3) := by decide +kernel
theorem d_L_law_1635 : decode (pw_cc cx_L_law) 1635 = .ok (.iload 18, 2) := by decide +kernel
theorem d_L_law_1637 : decode (pw_cc cx_L_law) 1637 = .ok (.if_icmp .ne 7, 3) := by decide +kernel
theorem d_L_law_1640 : decode (pw_cc cx_L_law) 1640 = .ok (.iconst 1, 1) := by decide +kernel
theorem d_L_law_1641 : decode (pw_cc cx_L_law) 1641 = .ok (.goto 4, 3) := by decide +kernel
theorem d_L_law_1644 : decode (pw_cc cx_L_law) 1644 = .ok (.iconst 0, 1) := by decide +kernel
theorem d_L_law_1645 : decode (pw_cc cx_L_law) 1645 = .ok (.istore 4, 2) := by decide +kernel
theorem d_L_law_1647 : decode (pw_cc cx_L_law) 1647 = .ok (.goto 134, 3) := by decide +kernel
theorem d_L_law_1650 : decode (pw_cc cx_L_law) 1650 = .ok (.aload_n 1, 1) := by decide +kernel
theorem d_L_law_1651 : decode (pw_cc cx_L_law) 1651 = .ok (.invokevirtual 126, 3) := by decide +kernel
theorem d_L_law_1654 : decode (pw_cc cx_L_law) 1654 = .ok (.istore 18, 2) := by decide +kernel
theorem d_L_law_1656 : decode (pw_cc cx_L_law) 1656 = .ok (.aload_n 1, 1) := by decide +kernel
theorem d_L_law_1657 : decode (pw_cc cx_L_law) 1657 = .ok (.iload 10, 2) := by decide +kernel
theorem d_L_law_1659 : decode (pw_cc cx_L_law) 1659 = .ok (.invokevirtual 129, 3) := by decide +kernel
theorem d_L_law_1662 : decode (pw_cc cx_L_law) 1662 = .ok (.istore 19, 2) := by decide +kernel
theorem d_L_law_1664 : decode (pw_cc cx_L_law) 1664 = .ok (.iconst 1, 1) := by decide +kernel
theorem d_L_law_1665 : decode (pw_cc cx_L_law) 1665 = .ok (.iload 8, 2) := by decide +kernel
theorem d_L_law_1667 : decode (pw_cc cx_L_law) 1667 = .ok (.iconst 3, 1) := by decide +kernel
theorem d_L_law_1668 : decode (pw_cc cx_L_law) 1668 = .ok (.ishr, 1) := by decide +kernel
theorem d_L_law_1669 : decode (pw_cc cx_L_law) 1669 = .ok (.iload 6, 2) := by decide +kernel
theorem d_L_law_1671 : decode (pw_cc cx_L_law) 1671 = .ok (.iconst 4, 1) := by decide +kernel
theorem d_L_law_1672 : decode (pw_cc cx_L_law) 1672 = .ok (.irem, 1) := by decide +kernel
theorem d_L_law_1673 : decode (pw_cc cx_L_law) 1673 = .ok (.ifCond .ne 9, 3) := by decide +kernel
theorem d_L_law_1676 : decode (pw_cc cx_L_law) 1676 = .ok (.sipush 200, 3) := by decide +kernel
theorem d_L_law_1679 : decode (pw_cc cx_L_law) 1679 = .ok (.goto 5, 3) := by decide +kernel
theorem d_L_law_1682 : decode (pw_cc cx_L_law) 1682 = .ok (.bipush 30, 2) := by decide +kernel
theorem d_L_law_1684 : decode (pw_cc cx_L_law) 1684 = .ok (.irem, 1) := by decide +kernel
theorem d_L_law_1685 : decode (pw_cc cx_L_law) 1685 = .ok (.iadd, 1) := by decide +kernel
theorem d_L_law_1686 : decode (pw_cc cx_L_law) 1686 = .ok (.istore 20, 2) := by decide +kernel
theorem d_L_law_1688 : decode (pw_cc cx_L_law) 1688 = .ok (.aload_n 1, 1) := by decide +kernel
theorem d_L_law_1689 : decode (pw_cc cx_L_law) 1689 = .ok (.bipush 15, 2) := by decide +kernel
theorem d_L_law_1691 : decode (pw_cc cx_L_law) 1691 = .ok (.iload 20, 2) := by decide +kernel
theorem d_L_law_1693 : decode (pw_cc cx_L_law) 1693 = .ok (.iconst 0, 1) := by decide +kernel
theorem d_L_law_1694 : decode (pw_cc cx_L_law) 1694 = .ok (.iconst 0, 1) := by decide +kernel
theorem d_L_law_1695 : decode (pw_cc cx_L_law) 1695 = .ok (.iconst 0, 1) := by decide +kernel
theorem d_L_law_1696 : decode (pw_cc cx_L_law) 1696 = .ok (.invokestatic 108, 3) := by decide +kernel
theorem d_L_law_1699 : decode (pw_cc cx_L_law) 1699 = .ok (.istore 17, 2) := by decide +kernel
theorem d_L_law_1701 : decode (pw_cc cx_L_law) 1701 = .ok (.iload 17, 2) := by decide +kernel
theorem d_L_law_1703 : decode (pw_cc cx_L_law) 1703 = .ok (.bipush (-13), 2) := by decide +kernel
theorem d_L_law_1705 : decode (pw_cc cx_L_law) 1705 = .ok (.if_icmp .ne 22, 3) := by decide +kernel
theorem d_L_law_1708 : decode (pw_cc cx_L_law) 1708 = .ok (.iload 18, 2) := by decide +kernel
theorem d_L_law_1710 : decode (pw_cc cx_L_law) 1710 = .ok (.iload 20, 2) := by decide +kernel
theorem d_L_law_1712 : decode (pw_cc cx_L_law) 1712 = .ok (.iadd, 1) := by decide +kernel
theorem d_L_law_1713 : decode (pw_cc cx_L_law) 1713 = .ok (.sipush 20000, 3) := by decide +kernel
theorem d_L_law_1716 : decode (pw_cc cx_L_law) 1716 = .ok (.if_icmp .le 7, 3) := by decide +kernel
theorem d_L_law_1719 : decode (pw_cc cx_L_law) 1719 = .ok (.iconst 1, 1) := by decide +kernel
theorem d_L_law_1720 : decode (pw_cc cx_L_law) 1720 = .ok (.goto 59, 3) := by decide +kernel
theorem d_L_law_1723 : decode (pw_cc cx_L_law) 1723 = .ok (.iconst 0, 1) := by decide +kernel
theorem d_L_law_1724 : decode (pw_cc cx_L_law) 1724 = .ok (.goto 55, 3) := by decide +kernel
theorem d_L_law_1727 : decode (pw_cc cx_L_law) 1727 = .ok (.iload 17, 2) := by decide +kernel
theorem d_L_law_1729 : decode (pw_cc cx_L_law) 1729 = .ok (.iload 18, 2) := by decide +kernel
theorem d_L_law_1731 : decode (pw_cc cx_L_law) 1731 = .ok (.iload 20, 2) := by decide +kernel
theorem d_L_law_1733 : decode (pw_cc cx_L_law) 1733 = .ok (.iadd, 1) := by decide +kernel
theorem d_L_law_1734 : decode (pw_cc cx_L_law) 1734 = .ok (.if_icmp .ne 44, 3) := by decide +kernel
theorem d_L_law_1737 : decode (pw_cc cx_L_law) 1737 = .ok (.aload_n 1, 1) := by decide +kernel
theorem d_L_law_1738 : decode (pw_cc cx_L_law) 1738 = .ok (.iload 10, 2) := by decide +kernel
theorem d_L_law_1740 : decode (pw_cc cx_L_law) 1740 = .ok (.invokevirtual 129, 3) := by decide +kernel
theorem d_L_law_1743 : decode (pw_cc cx_L_law) 1743 = .ok (.iload 19, 2) := by decide +kernel
theorem d_L_law_1745 : decode (pw_cc cx_L_law) 1745 = .ok (.if_icmp .lt 33, 3) := by decide +kernel
theorem d_L_law_1748 : decode (pw_cc cx_L_law) 1748 = .ok (.iload 18, 2) := by decide +kernel
theorem d_L_law_1750 : decode (pw_cc cx_L_law) 1750 = .ok (.sipush 360, 3) := by decide +kernel
theorem d_L_law_1753 : decode (pw_cc cx_L_law) 1753 = .ok (.idiv, 1) := by decide +kernel
theorem d_L_law_1754 : decode (pw_cc cx_L_law) 1754 = .ok (.iload 17, 2) := by decide +kernel
theorem d_L_law_1756 : decode (pw_cc cx_L_law) 1756 = .ok (.sipush 360, 3) := by decide +kernel
theorem d_L_law_1759 : decode (pw_cc cx_L_law) 1759 = .ok (.idiv, 1) := by decide +kernel
theorem d_L_law_1760 : decode (pw_cc cx_L_law) 1760 = .ok (.if_icmp .lt 14, 3) := by decide +kernel
theorem d_L_law_1763 : decode (pw_cc cx_L_law) 1763 = .ok (.aload_n 1, 1) := by decide +kernel
theorem d_L_law_1764 : decode (pw_cc cx_L_law) 1764 = .ok (.iload 10, 2) := by decide +kernel
theorem d_L_law_1766 : decode (pw_cc cx_L_law) 1766 = .ok (.invokevirtual 129, 3) := by decide +kernel
theorem d_L_law_1769 : decode (pw_cc cx_L_law) 1769 = .ok (.iload 19, 2) := by decide +kernel
theorem d_L_law_1771 : decode (pw_cc cx_L_law) 1771 = .ok (.if_icmp .ne 7, 3) := by decide +kernel
theorem d_L_law_1774 : decode (pw_cc cx_L_law) 1774 = .ok (.iconst 1, 1) := by decide +kernel
theorem d_L_law_1775 : decode (pw_cc cx_L_law) 1775 = .ok (.goto 4, 3) := by decide +kernel
theorem d_L_law_1778 : decode (pw_cc cx_L_law) 1778 = .ok (.iconst 0, 1) := by decide +kernel
theorem d_L_law_1779 : decode (pw_cc cx_L_law) 1779 = .ok (.istore 4, 2) := by decide +kernel
theorem d_L_law_1781 : decode (pw_cc cx_L_law) 1781 = .ok (.iload_n 2, 1) := by decide +kernel
theorem d_L_law_1782 : decode (pw_cc cx_L_law) 1782 = .ok (.bipush 80, 2) := by decide +kernel
theorem d_L_law_1784 : decode (pw_cc cx_L_law) 1784 = .ok (.if_icmp .ge 35, 3) := by decide +kernel
theorem d_L_law_1787 : decode (pw_cc cx_L_law) 1787 = .ok (.iload 4, 2) := by decide +kernel
theorem d_L_law_1789 : decode (pw_cc cx_L_law) 1789 = .ok (.ifCond .eq 30, 3) := by decide +kernel
theorem d_L_law_1792 : decode (pw_cc cx_L_law) 1792 = .ok (.iload 9, 2) := by decide +kernel
theorem d_L_law_1794 : decode (pw_cc cx_L_law) 1794 = .ok (.iconst 3, 1) := by decide +kernel
theorem d_L_law_1795 : decode (pw_cc cx_L_law) 1795 = .ok (.if_icmp .lt 10, 3) := by decide +kernel
theorem d_L_law_1798 : decode (pw_cc cx_L_law) 1798 = .ok (.iload 9, 2) := by decide +kernel
theorem d_L_law_1800 : decode (pw_cc cx_L_law) 1800 = .ok (.bipush 8, 2) := by decide +kernel
theorem d_L_law_1802 : decode (pw_cc cx_L_law) 1802 = .ok (.if_icmp .ne 17, 3) := by decide +kernel
theorem d_L_law_1805 : decode (pw_cc cx_L_law) 1805 = .ok (.aload_n 1, 1) := by decide +kernel
theorem d_L_law_1806 : decode (pw_cc cx_L_law) 1806 = .ok (.iload_n 2, 1) := by decide +kernel
theorem d_L_law_1807 : decode (pw_cc cx_L_law) 1807 = .ok (.invokestatic 132, 3) := by decide +kernel
theorem d_L_law_1810 : decode (pw_cc cx_L_law) 1810 = .ok (.ifCond .eq 9, 3) := by decide +kernel
theorem d_L_law_1813 : decode (pw_cc cx_L_law) 1813 = .ok (.iinc 2 1, 3) := by decide +kernel
theorem d_L_law_1816 : decode (pw_cc cx_L_law) 1816 = .ok (.goto (-35), 3) := by decide +kernel
theorem d_L_law_1819 : decode (pw_cc cx_L_law) 1819 = .ok (.iload 4, 2) := by decide +kernel
theorem d_L_law_1821 : decode (pw_cc cx_L_law) 1821 = .ok (.ifCond .eq 53, 3) := by decide +kernel
theorem d_L_law_1824 : decode (pw_cc cx_L_law) 1824 = .ok (.iload 6, 2) := by decide +kernel
theorem d_L_law_1826 : decode (pw_cc cx_L_law) 1826 = .ok (.iconst 4, 1) := by decide +kernel
theorem d_L_law_1827 : decode (pw_cc cx_L_law) 1827 = .ok (.irem, 1) := by decide +kernel
theorem d_L_law_1828 : decode (pw_cc cx_L_law) 1828 = .ok (.ifCond .gt 10, 3) := by decide +kernel
theorem d_L_law_1831 : decode (pw_cc cx_L_law) 1831 = .ok (.aload_n 1, 1) := by decide +kernel
theorem d_L_law_1832 : decode (pw_cc cx_L_law) 1832 = .ok (.invokestatic 101, 3) := by decide +kernel
theorem d_L_law_1835 : decode (pw_cc cx_L_law) 1835 = .ok (.ifCond .eq 39, 3) := by decide +kernel
theorem d_L_law_1838 : decode (pw_cc cx_L_law) 1838 = .ok (.iload 6, 2) := by decide +kernel
theorem d_L_law_1840 : decode (pw_cc cx_L_law) 1840 = .ok (.iconst 4, 1) := by decide +kernel
theorem d_L_law_1841 : decode (pw_cc cx_L_law) 1841 = .ok (.irem, 1) := by decide +kernel
theorem d_L_law_1842 : decode (pw_cc cx_L_law) 1842 = .ok (.iconst 1, 1) := by decide +kernel
theorem d_L_law_1843 : decode (pw_cc cx_L_law) 1843 = .ok (.if_icmp .ne 11, 3) := by decide +kernel
theorem d_L_law_1846 : decode (pw_cc cx_L_law) 1846 = .ok (.aload_n 1, 1) := by decide +kernel
theorem d_L_law_1847 : decode (pw_cc cx_L_law) 1847 = .ok (.iload_n 2, 1) := by decide +kernel
theorem d_L_law_1848 : decode (pw_cc cx_L_law) 1848 = .ok (.invokestatic 136, 3) := by decide +kernel
theorem d_L_law_1851 : decode (pw_cc cx_L_law) 1851 = .ok (.ifCond .eq 23, 3) := by decide +kernel
theorem d_L_law_1854 : decode (pw_cc cx_L_law) 1854 = .ok (.iload 6, 2) := by decide +kernel
theorem d_L_law_1856 : decode (pw_cc cx_L_law) 1856 = .ok (.iconst 4, 1) := by decide +kernel
theorem d_L_law_1857 : decode (pw_cc cx_L_law) 1857 = .ok (.irem, 1) := by decide +kernel
theorem d_L_law_1858 : decode (pw_cc cx_L_law) 1858 = .ok (.iconst 2, 1) := by decide +kernel
theorem d_L_law_1859 : decode (pw_cc cx_L_law) 1859 = .ok (.if_icmp .ne 11, 3) := by decide +kernel
theorem d_L_law_1862 : decode (pw_cc cx_L_law) 1862 = .ok (.aload_n 1, 1) := by decide +kernel
theorem d_L_law_1863 : decode (pw_cc cx_L_law) 1863 = .ok (.iload_n 3, 1) := by decide +kernel
theorem d_L_law_1864 : decode (pw_cc cx_L_law) 1864 = .ok (.invokestatic 139, 3) := by decide +kernel
theorem d_L_law_1867 : decode (pw_cc cx_L_law) 1867 = .ok (.ifCond .eq 7, 3) := by decide +kernel
theorem d_L_law_1870 : decode (pw_cc cx_L_law) 1870 = .ok (.iconst 1, 1) := by decide +kernel
theorem d_L_law_1871 : decode (pw_cc cx_L_law) 1871 = .ok (.goto 4, 3) := by decide +kernel
theorem d_L_law_1874 : decode (pw_cc cx_L_law) 1874 = .ok (.iconst 0, 1) := by decide +kernel
theorem d_L_law_1875 : decode (pw_cc cx_L_law) 1875 = .ok (.istore 4, 2) := by decide +kernel
theorem d_L_law_1877 : decode (pw_cc cx_L_law) 1877 = .ok (.iinc 6 1, 3) := by decide +kernel
theorem d_L_law_1880 : decode (pw_cc cx_L_law) 1880 = .ok (.goto (-1827), 3) := by decide +kernel
theorem d_L_law_1883 : decode (pw_cc cx_L_law) 1883 = .ok (.iload 4, 2) := by decide +kernel
theorem d_L_law_1885 : decode (pw_cc cx_L_law) 1885 = .ok (.ireturn, 1) := by decide +kernel
set_option maxHeartbeats 4000000 in
set_option maxRecDepth 20000 in
def jp_L_law_1854 (Ln : Nat) (xs : Nat → Int32) (Q : pw_W → Int32 → Prop) (X : pw_W → Nat → Prop) (K53 : Int32 → Int32 → Int32 → Int32 → Int32 → pw_W → Prop) (a2 a3 a5 a6 : Int32) (w : pw_W) : Prop := (¬ (a6 - a6 / 4 * 4) = 2 → K53 a2 a3 1 a5 (a6 + 1) w) ∧ ((a6 - a6 / 4 * 4) = 2 → wp_L_areCases w a3 (fun w2 r3 => (r3 = 0 → K53 a2 a3 0 a5 (a6 + 1) w2) ∧ (¬ r3 = 0 → K53 a2 a3 1 a5 (a6 + 1) w2)) (fun _ _ => False))
set_option maxHeartbeats 4000000 in
set_option maxRecDepth 20000 in
theorem vjp_L_law_1854 {l : Launch} {g : pw_G} {Q : pw_W → Int32 → Prop} {X : pw_W → Nat → Prop} {Ln : Nat} {xs : Nat → Int32} (hl0 : l.stackTraces = false) (hsc : pw_sc g Ln xs) {K53 : Int32 → Int32 → Int32 → Int32 → Int32 → pw_W → Prop} (hK53 : ∀ (a2 a3 a4 a5 a6 : Int32) (w : pw_W), K53 a2 a3 a4 a5 a6 w → pw_V l g cx_L_law Q X 53 [(3000, 0), (9, 0), (0, a2), (0, a3), (0, a4), (0, a5), (0, a6), (1, 0), (1, 0), (1, 0), (1, 0), (1, 0), (1, 0), (1, 0), (1, 0), (1, 0), (1, 0), (1, 0), (1, 0), (1, 0), (1, 0), (1, 0)] [] w) (a2 a3 a5 a6 : Int32) (w : pw_W) (h : jp_L_law_1854 Ln xs Q X K53 a2 a3 a5 a6 w) : pw_V l g cx_L_law Q X 1854 [(3000, 0), (9, 0), (0, a2), (0, a3), (1, 0), (0, a5), (0, a6), (1, 0), (1, 0), (1, 0), (1, 0), (1, 0), (1, 0), (1, 0), (1, 0), (1, 0), (1, 0), (1, 0), (1, 0), (1, 0), (1, 0), (1, 0)] [] w := by
  unfold jp_L_law_1854 at h
  refine pv_iload (n := 1856) d_L_law_1854 rfl rfl ?_
  refine pv_iconst (v := 4) (n := 1857) d_L_law_1856 (by decide) rfl ?_
  refine pv_irem (n := 1858) d_L_law_1857 (by decide) rfl ?_
  refine pv_iconst (v := 2) (n := 1859) d_L_law_1858 (by decide) rfl ?_
  refine pv_icmp_ne (n := 1862) (tgt := 1870) d_L_law_1859 (by decide) rfl (fun c1 => ?_) (fun c1 => ?_)
  · replace h := h.1 c1
    refine pv_iconst (v := 1) (n := 1871) d_L_law_1870 (by decide) rfl ?_
    refine pv_goto (tgt := 1875) d_L_law_1871 (by decide) ?_
    refine pv_istore (n := 1877) (L' := [(3000, 0), (9, 0), (0, a2), (0, a3), (0, 1), (0, a5), (0, a6), (1, 0), (1, 0), (1, 0), (1, 0), (1, 0), (1, 0), (1, 0), (1, 0), (1, 0), (1, 0), (1, 0), (1, 0), (1, 0), (1, 0), (1, 0)]) d_L_law_1875 (by decide) rfl rfl ?_
    refine pv_iinc (v := (a6 + 1)) (n := 1880) (L1 := [(3000, 0), (9, 0), (0, a2), (0, a3), (0, 1), (0, a5), (0, (a6 + 1)), (1, 0), (1, 0), (1, 0), (1, 0), (1, 0), (1, 0), (1, 0), (1, 0), (1, 0), (1, 0), (1, 0), (1, 0), (1, 0), (1, 0), (1, 0)]) d_L_law_1877 rfl rfl rfl (by decide) rfl ?_
    refine pv_goto (tgt := 53) d_L_law_1880 (by decide) ?_
    exact hK53 _ _ _ _ _ _ h
  · replace h := h.2 c1
    refine pv_aload_n (n := 1863) d_L_law_1862 rfl rfl rfl ?_
    refine pv_iload_n (n := 1864) d_L_law_1863 rfl rfl rfl ?_
    refine pv_callS (n := 1867) [(9, 0), (0, a3)] [] (con_L_areCases hl0 h) q_525 q_526 q_483 q_524 pyo_L_areCases (by decide) rfl rfl d_L_law_1864 rfl (fun w2 r3 h _ => ?_) (fun _ _ h => h.elim)
    show pw_V l g cx_L_law Q X 1867 [(3000, 0), (9, 0), (0, a2), (0, a3), (1, 0), (0, a5), (0, a6), (1, 0), (1, 0), (1, 0), (1, 0), (1, 0), (1, 0), (1, 0), (1, 0), (1, 0), (1, 0), (1, 0), (1, 0), (1, 0), (1, 0), (1, 0)] [(0, r3)] w2
    refine pv_if_eq (n := 1870) (tgt := 1874) d_L_law_1867 (by decide) rfl (fun c4 => ?_) (fun c4 => ?_)
    · replace h := h.1 c4
      refine pv_iconst (v := 0) (n := 1875) d_L_law_1874 (by decide) rfl ?_
      refine pv_istore (n := 1877) (L' := [(3000, 0), (9, 0), (0, a2), (0, a3), (0, 0), (0, a5), (0, a6), (1, 0), (1, 0), (1, 0), (1, 0), (1, 0), (1, 0), (1, 0), (1, 0), (1, 0), (1, 0), (1, 0), (1, 0), (1, 0), (1, 0), (1, 0)]) d_L_law_1875 (by decide) rfl rfl ?_
      refine pv_iinc (v := (a6 + 1)) (n := 1880) (L1 := [(3000, 0), (9, 0), (0, a2), (0, a3), (0, 0), (0, a5), (0, (a6 + 1)), (1, 0), (1, 0), (1, 0), (1, 0), (1, 0), (1, 0), (1, 0), (1, 0), (1, 0), (1, 0), (1, 0), (1, 0), (1, 0), (1, 0), (1, 0)]) d_L_law_1877 rfl rfl rfl (by decide) rfl ?_
      refine pv_goto (tgt := 53) d_L_law_1880 (by decide) ?_
      exact hK53 _ _ _ _ _ _ h
    · replace h := h.2 c4
      refine pv_iconst (v := 1) (n := 1871) d_L_law_1870 (by decide) rfl ?_
      refine pv_goto (tgt := 1875) d_L_law_1871 (by decide) ?_
      refine pv_istore (n := 1877) (L' := [(3000, 0), (9, 0), (0, a2), (0, a3), (0, 1), (0, a5), (0, a6), (1, 0), (1, 0), (1, 0), (1, 0), (1, 0), (1, 0), (1, 0), (1, 0), (1, 0), (1, 0), (1, 0), (1, 0), (1, 0), (1, 0), (1, 0)]) d_L_law_1875 (by decide) rfl rfl ?_
      refine pv_iinc (v := (a6 + 1)) (n := 1880) (L1 := [(3000, 0), (9, 0), (0, a2), (0, a3), (0, 1), (0, a5), (0, (a6 + 1)), (1, 0), (1, 0), (1, 0), (1, 0), (1, 0), (1, 0), (1, 0), (1, 0), (1, 0), (1, 0), (1, 0), (1, 0), (1, 0), (1, 0), (1, 0)]) d_L_law_1877 rfl rfl rfl (by decide) rfl ?_
      refine pv_goto (tgt := 53) d_L_law_1880 (by decide) ?_
      exact hK53 _ _ _ _ _ _ h
set_option maxHeartbeats 4000000 in
set_option maxRecDepth 20000 in
def jp_L_law_1838 (Ln : Nat) (xs : Nat → Int32) (Q : pw_W → Int32 → Prop) (X : pw_W → Nat → Prop) (K53 : Int32 → Int32 → Int32 → Int32 → Int32 → pw_W → Prop) (a2 a3 a5 a6 : Int32) (w : pw_W) : Prop := (¬ (a6 - a6 / 4 * 4) = 1 → jp_L_law_1854 Ln xs Q X K53 a2 a3 a5 a6 w) ∧ ((a6 - a6 / 4 * 4) = 1 → wp_L_areRights w a2 (fun w6 r7 => (r7 = 0 → K53 a2 a3 0 a5 (a6 + 1) w6) ∧ (¬ r7 = 0 → jp_L_law_1854 Ln xs Q X K53 a2 a3 a5 a6 w6)) (fun _ _ => False))
set_option maxHeartbeats 4000000 in
set_option maxRecDepth 20000 in
theorem vjp_L_law_1838 {l : Launch} {g : pw_G} {Q : pw_W → Int32 → Prop} {X : pw_W → Nat → Prop} {Ln : Nat} {xs : Nat → Int32} (hl0 : l.stackTraces = false) (hsc : pw_sc g Ln xs) {K53 : Int32 → Int32 → Int32 → Int32 → Int32 → pw_W → Prop} (hK53 : ∀ (a2 a3 a4 a5 a6 : Int32) (w : pw_W), K53 a2 a3 a4 a5 a6 w → pw_V l g cx_L_law Q X 53 [(3000, 0), (9, 0), (0, a2), (0, a3), (0, a4), (0, a5), (0, a6), (1, 0), (1, 0), (1, 0), (1, 0), (1, 0), (1, 0), (1, 0), (1, 0), (1, 0), (1, 0), (1, 0), (1, 0), (1, 0), (1, 0), (1, 0)] [] w) (a2 a3 a5 a6 : Int32) (w : pw_W) (h : jp_L_law_1838 Ln xs Q X K53 a2 a3 a5 a6 w) : pw_V l g cx_L_law Q X 1838 [(3000, 0), (9, 0), (0, a2), (0, a3), (1, 0), (0, a5), (0, a6), (1, 0), (1, 0), (1, 0), (1, 0), (1, 0), (1, 0), (1, 0), (1, 0), (1, 0), (1, 0), (1, 0), (1, 0), (1, 0), (1, 0), (1, 0)] [] w := by
  unfold jp_L_law_1838 at h
  refine pv_iload (n := 1840) d_L_law_1838 rfl rfl ?_
  refine pv_iconst (v := 4) (n := 1841) d_L_law_1840 (by decide) rfl ?_
  refine pv_irem (n := 1842) d_L_law_1841 (by decide) rfl ?_
  refine pv_iconst (v := 1) (n := 1843) d_L_law_1842 (by decide) rfl ?_
  refine pv_icmp_ne (n := 1846) (tgt := 1854) d_L_law_1843 (by decide) rfl (fun c5 => ?_) (fun c5 => ?_)
  · replace h := h.1 c5
    exact vjp_L_law_1854 hl0 hsc (by intros; exact hK53 _ _ _ _ _ _ (by assumption)) _ _ _ _ _ h
  · replace h := h.2 c5
    refine pv_aload_n (n := 1847) d_L_law_1846 rfl rfl rfl ?_
    refine pv_iload_n (n := 1848) d_L_law_1847 rfl rfl rfl ?_
    refine pv_callS (n := 1851) [(9, 0), (0, a2)] [] (con_L_areRights hl0 h) q_528 q_529 q_483 q_527 pyo_L_areRights (by decide) rfl rfl d_L_law_1848 rfl (fun w6 r7 h _ => ?_) (fun _ _ h => h.elim)
    show pw_V l g cx_L_law Q X 1851 [(3000, 0), (9, 0), (0, a2), (0, a3), (1, 0), (0, a5), (0, a6), (1, 0), (1, 0), (1, 0), (1, 0), (1, 0), (1, 0), (1, 0), (1, 0), (1, 0), (1, 0), (1, 0), (1, 0), (1, 0), (1, 0), (1, 0)] [(0, r7)] w6
    refine pv_if_eq (n := 1854) (tgt := 1874) d_L_law_1851 (by decide) rfl (fun c8 => ?_) (fun c8 => ?_)
    · replace h := h.1 c8
      refine pv_iconst (v := 0) (n := 1875) d_L_law_1874 (by decide) rfl ?_
      refine pv_istore (n := 1877) (L' := [(3000, 0), (9, 0), (0, a2), (0, a3), (0, 0), (0, a5), (0, a6), (1, 0), (1, 0), (1, 0), (1, 0), (1, 0), (1, 0), (1, 0), (1, 0), (1, 0), (1, 0), (1, 0), (1, 0), (1, 0), (1, 0), (1, 0)]) d_L_law_1875 (by decide) rfl rfl ?_
      refine pv_iinc (v := (a6 + 1)) (n := 1880) (L1 := [(3000, 0), (9, 0), (0, a2), (0, a3), (0, 0), (0, a5), (0, (a6 + 1)), (1, 0), (1, 0), (1, 0), (1, 0), (1, 0), (1, 0), (1, 0), (1, 0), (1, 0), (1, 0), (1, 0), (1, 0), (1, 0), (1, 0), (1, 0)]) d_L_law_1877 rfl rfl rfl (by decide) rfl ?_
      refine pv_goto (tgt := 53) d_L_law_1880 (by decide) ?_
      exact hK53 _ _ _ _ _ _ h
    · replace h := h.2 c8
      exact vjp_L_law_1854 hl0 hsc (by intros; exact hK53 _ _ _ _ _ _ (by assumption)) _ _ _ _ _ h
set_option maxHeartbeats 4000000 in
set_option maxRecDepth 20000 in
def jp_L_law_1819 (Ln : Nat) (xs : Nat → Int32) (Q : pw_W → Int32 → Prop) (X : pw_W → Nat → Prop) (K53 : Int32 → Int32 → Int32 → Int32 → Int32 → pw_W → Prop) (a2 a3 a4 a5 a6 : Int32) (w : pw_W) : Prop := (a4 = 0 → K53 a2 a3 0 a5 (a6 + 1) w) ∧ (¬ a4 = 0 → (0 < (a6 - a6 / 4 * 4) → jp_L_law_1838 Ln xs Q X K53 a2 a3 a5 a6 w) ∧ (¬ 0 < (a6 - a6 / 4 * 4) → wp_L_isWhole w  (fun w11 r12 => (r12 = 0 → K53 a2 a3 0 a5 (a6 + 1) w11) ∧ (¬ r12 = 0 → jp_L_law_1838 Ln xs Q X K53 a2 a3 a5 a6 w11)) (fun _ _ => False)))
set_option maxHeartbeats 4000000 in
set_option maxRecDepth 20000 in
theorem vjp_L_law_1819 {l : Launch} {g : pw_G} {Q : pw_W → Int32 → Prop} {X : pw_W → Nat → Prop} {Ln : Nat} {xs : Nat → Int32} (hl0 : l.stackTraces = false) (hsc : pw_sc g Ln xs) {K53 : Int32 → Int32 → Int32 → Int32 → Int32 → pw_W → Prop} (hK53 : ∀ (a2 a3 a4 a5 a6 : Int32) (w : pw_W), K53 a2 a3 a4 a5 a6 w → pw_V l g cx_L_law Q X 53 [(3000, 0), (9, 0), (0, a2), (0, a3), (0, a4), (0, a5), (0, a6), (1, 0), (1, 0), (1, 0), (1, 0), (1, 0), (1, 0), (1, 0), (1, 0), (1, 0), (1, 0), (1, 0), (1, 0), (1, 0), (1, 0), (1, 0)] [] w) (a2 a3 a4 a5 a6 : Int32) (w : pw_W) (h : jp_L_law_1819 Ln xs Q X K53 a2 a3 a4 a5 a6 w) : pw_V l g cx_L_law Q X 1819 [(3000, 0), (9, 0), (0, a2), (0, a3), (0, a4), (0, a5), (0, a6), (1, 0), (1, 0), (1, 0), (1, 0), (1, 0), (1, 0), (1, 0), (1, 0), (1, 0), (1, 0), (1, 0), (1, 0), (1, 0), (1, 0), (1, 0)] [] w := by
  unfold jp_L_law_1819 at h
  refine pv_iload (n := 1821) d_L_law_1819 rfl rfl ?_
  refine pv_if_eq (n := 1824) (tgt := 1874) d_L_law_1821 (by decide) rfl (fun c9 => ?_) (fun c9 => ?_)
  · replace h := h.1 c9
    refine pv_iconst (v := 0) (n := 1875) d_L_law_1874 (by decide) rfl ?_
    refine pv_istore (n := 1877) (L' := [(3000, 0), (9, 0), (0, a2), (0, a3), (0, 0), (0, a5), (0, a6), (1, 0), (1, 0), (1, 0), (1, 0), (1, 0), (1, 0), (1, 0), (1, 0), (1, 0), (1, 0), (1, 0), (1, 0), (1, 0), (1, 0), (1, 0)]) d_L_law_1875 (by decide) rfl rfl ?_
    refine pv_iinc (v := (a6 + 1)) (n := 1880) (L1 := [(3000, 0), (9, 0), (0, a2), (0, a3), (0, 0), (0, a5), (0, (a6 + 1)), (1, 0), (1, 0), (1, 0), (1, 0), (1, 0), (1, 0), (1, 0), (1, 0), (1, 0), (1, 0), (1, 0), (1, 0), (1, 0), (1, 0), (1, 0)]) d_L_law_1877 rfl rfl rfl (by decide) rfl ?_
    refine pv_goto (tgt := 53) d_L_law_1880 (by decide) ?_
    exact hK53 _ _ _ _ _ _ h
  · replace h := h.2 c9
    refine pv_iload (n := 1826) d_L_law_1824 rfl rfl ?_
    refine pv_iconst (v := 4) (n := 1827) d_L_law_1826 (by decide) rfl ?_
    refine pv_irem (n := 1828) d_L_law_1827 (by decide) rfl ?_
    refine pv_if_gt (n := 1831) (tgt := 1838) d_L_law_1828 (by decide) rfl (fun c10 => ?_) (fun c10 => ?_)
    · replace h := h.1 c10
      refine pv_unset (i := 4) (L1 := [(3000, 0), (9, 0), (0, a2), (0, a3), (1, 0), (0, a5), (0, a6), (1, 0), (1, 0), (1, 0), (1, 0), (1, 0), (1, 0), (1, 0), (1, 0), (1, 0), (1, 0), (1, 0), (1, 0), (1, 0), (1, 0), (1, 0)]) rfl ?_
      exact vjp_L_law_1838 hl0 hsc (by intros; exact hK53 _ _ _ _ _ _ (by assumption)) _ _ _ _ _ h
    · replace h := h.2 c10
      refine pv_aload_n (n := 1832) d_L_law_1831 rfl rfl rfl ?_
      refine pv_callS (n := 1835) [(9, 0)] [] (con_L_isWhole hl0 h) q_531 q_532 q_483 q_530 pyo_L_isWhole (by decide) rfl rfl d_L_law_1832 rfl (fun w11 r12 h _ => ?_) (fun _ _ h => h.elim)
      show pw_V l g cx_L_law Q X 1835 [(3000, 0), (9, 0), (0, a2), (0, a3), (0, a4), (0, a5), (0, a6), (1, 0), (1, 0), (1, 0), (1, 0), (1, 0), (1, 0), (1, 0), (1, 0), (1, 0), (1, 0), (1, 0), (1, 0), (1, 0), (1, 0), (1, 0)] [(0, r12)] w11
      refine pv_if_eq (n := 1838) (tgt := 1874) d_L_law_1835 (by decide) rfl (fun c13 => ?_) (fun c13 => ?_)
      · replace h := h.1 c13
        refine pv_iconst (v := 0) (n := 1875) d_L_law_1874 (by decide) rfl ?_
        refine pv_istore (n := 1877) (L' := [(3000, 0), (9, 0), (0, a2), (0, a3), (0, 0), (0, a5), (0, a6), (1, 0), (1, 0), (1, 0), (1, 0), (1, 0), (1, 0), (1, 0), (1, 0), (1, 0), (1, 0), (1, 0), (1, 0), (1, 0), (1, 0), (1, 0)]) d_L_law_1875 (by decide) rfl rfl ?_
        refine pv_iinc (v := (a6 + 1)) (n := 1880) (L1 := [(3000, 0), (9, 0), (0, a2), (0, a3), (0, 0), (0, a5), (0, (a6 + 1)), (1, 0), (1, 0), (1, 0), (1, 0), (1, 0), (1, 0), (1, 0), (1, 0), (1, 0), (1, 0), (1, 0), (1, 0), (1, 0), (1, 0), (1, 0)]) d_L_law_1877 rfl rfl rfl (by decide) rfl ?_
        refine pv_goto (tgt := 53) d_L_law_1880 (by decide) ?_
        exact hK53 _ _ _ _ _ _ h
      · replace h := h.2 c13
        refine pv_unset (i := 4) (L1 := [(3000, 0), (9, 0), (0, a2), (0, a3), (1, 0), (0, a5), (0, a6), (1, 0), (1, 0), (1, 0), (1, 0), (1, 0), (1, 0), (1, 0), (1, 0), (1, 0), (1, 0), (1, 0), (1, 0), (1, 0), (1, 0), (1, 0)]) rfl ?_
        exact vjp_L_law_1838 hl0 hsc (by intros; exact hK53 _ _ _ _ _ _ (by assumption)) _ _ _ _ _ h
set_option maxHeartbeats 4000000 in
set_option maxRecDepth 20000 in
def jp_L_law_1805 (Ln : Nat) (xs : Nat → Int32) (Q : pw_W → Int32 → Prop) (X : pw_W → Nat → Prop) (K53 : Int32 → Int32 → Int32 → Int32 → Int32 → pw_W → Prop) (K1781 : Int32 → Int32 → Int32 → Int32 → Int32 → Int32 → pw_W → Prop) (a2 a3 a4 a5 a6 a9 : Int32) (w : pw_W) : Prop := wp_L_right w a2 (fun w14 r15 => (r15 = 0 → jp_L_law_1819 Ln xs Q X K53 a2 a3 a4 a5 a6 w14) ∧ (¬ r15 = 0 → K1781 (a2 + 1) a3 a4 a5 a6 a9 w14)) (fun _ _ => False)
set_option maxHeartbeats 4000000 in
set_option maxRecDepth 20000 in
theorem vjp_L_law_1805 {l : Launch} {g : pw_G} {Q : pw_W → Int32 → Prop} {X : pw_W → Nat → Prop} {Ln : Nat} {xs : Nat → Int32} (hl0 : l.stackTraces = false) (hsc : pw_sc g Ln xs) {K53 : Int32 → Int32 → Int32 → Int32 → Int32 → pw_W → Prop} {K1781 : Int32 → Int32 → Int32 → Int32 → Int32 → Int32 → pw_W → Prop} (hK53 : ∀ (a2 a3 a4 a5 a6 : Int32) (w : pw_W), K53 a2 a3 a4 a5 a6 w → pw_V l g cx_L_law Q X 53 [(3000, 0), (9, 0), (0, a2), (0, a3), (0, a4), (0, a5), (0, a6), (1, 0), (1, 0), (1, 0), (1, 0), (1, 0), (1, 0), (1, 0), (1, 0), (1, 0), (1, 0), (1, 0), (1, 0), (1, 0), (1, 0), (1, 0)] [] w) (hK1781 : ∀ (a2 a3 a4 a5 a6 a9 : Int32) (w : pw_W), K1781 a2 a3 a4 a5 a6 a9 w → pw_V l g cx_L_law Q X 1781 [(3000, 0), (9, 0), (0, a2), (0, a3), (0, a4), (0, a5), (0, a6), (1, 0), (1, 0), (0, a9), (1, 0), (1, 0), (1, 0), (1, 0), (1, 0), (1, 0), (1, 0), (1, 0), (1, 0), (1, 0), (1, 0), (1, 0)] [] w) (a2 a3 a4 a5 a6 a9 : Int32) (w : pw_W) (h : jp_L_law_1805 Ln xs Q X K53 K1781 a2 a3 a4 a5 a6 a9 w) : pw_V l g cx_L_law Q X 1805 [(3000, 0), (9, 0), (0, a2), (0, a3), (0, a4), (0, a5), (0, a6), (1, 0), (1, 0), (0, a9), (1, 0), (1, 0), (1, 0), (1, 0), (1, 0), (1, 0), (1, 0), (1, 0), (1, 0), (1, 0), (1, 0), (1, 0)] [] w := by
  unfold jp_L_law_1805 at h
  refine pv_aload_n (n := 1806) d_L_law_1805 rfl rfl rfl ?_
  refine pv_iload_n (n := 1807) d_L_law_1806 rfl rfl rfl ?_
  refine pv_callSH (n := 1810) [(9, 0), (0, a2)] [] (con_L_right hl0 h) q_534 q_535 q_483 q_533 pyo_L_right (by decide) rfl rfl d_L_law_1807 rfl (fun w14 r15 h _ => ?_) (fun _ _ h => h.elim)
  show pw_V l g cx_L_law Q X 1810 [(3000, 0), (9, 0), (0, a2), (0, a3), (0, a4), (0, a5), (0, a6), (1, 0), (1, 0), (0, a9), (1, 0), (1, 0), (1, 0), (1, 0), (1, 0), (1, 0), (1, 0), (1, 0), (1, 0), (1, 0), (1, 0), (1, 0)] [(0, r15)] w14
  refine pv_if_eq (n := 1813) (tgt := 1819) d_L_law_1810 (by decide) rfl (fun c16 => ?_) (fun c16 => ?_)
  · replace h := h.1 c16
    refine pv_unset (i := 9) (L1 := [(3000, 0), (9, 0), (0, a2), (0, a3), (0, a4), (0, a5), (0, a6), (1, 0), (1, 0), (1, 0), (1, 0), (1, 0), (1, 0), (1, 0), (1, 0), (1, 0), (1, 0), (1, 0), (1, 0), (1, 0), (1, 0), (1, 0)]) rfl ?_
    exact vjp_L_law_1819 hl0 hsc (by intros; exact hK53 _ _ _ _ _ _ (by assumption)) _ _ _ _ _ _ h
  · replace h := h.2 c16
    refine pv_iinc (v := (a2 + 1)) (n := 1816) (L1 := [(3000, 0), (9, 0), (0, (a2 + 1)), (0, a3), (0, a4), (0, a5), (0, a6), (1, 0), (1, 0), (0, a9), (1, 0), (1, 0), (1, 0), (1, 0), (1, 0), (1, 0), (1, 0), (1, 0), (1, 0), (1, 0), (1, 0), (1, 0)]) d_L_law_1813 rfl rfl rfl (by decide) rfl ?_
    refine pv_goto (tgt := 1781) d_L_law_1816 (by decide) ?_
    exact hK1781 _ _ _ _ _ _ _ h
set_option maxHeartbeats 4000000 in
set_option maxRecDepth 20000 in
def lp_L_law_1781 (Ln : Nat) (xs : Nat → Int32) (Q : pw_W → Int32 → Prop) (X : pw_W → Nat → Prop) (K53 : Int32 → Int32 → Int32 → Int32 → Int32 → pw_W → Prop) : Nat → Int32 → Int32 → Int32 → Int32 → Int32 → Int32 → pw_W → Prop := fun k => Nat.rec (motive := fun _ => Int32 → Int32 → Int32 → Int32 → Int32 → Int32 → pw_W → Prop) (fun _ _ _ _ _ _ _ => False) (fun _ ih a2 a3 a4 a5 a6 a9 w => ((80 : Int32) ≤ a2 → jp_L_law_1819 Ln xs Q X K53 a2 a3 a4 a5 a6 w) ∧ (¬ (80 : Int32) ≤ a2 → (a4 = 0 → jp_L_law_1819 Ln xs Q X K53 a2 a3 a4 a5 a6 w) ∧ (¬ a4 = 0 → (a9 < 3 → jp_L_law_1805 Ln xs Q X K53 ih a2 a3 a4 a5 a6 a9 w) ∧ (¬ a9 < 3 → (¬ a9 = 8 → jp_L_law_1819 Ln xs Q X K53 a2 a3 a4 a5 a6 w) ∧ (a9 = 8 → jp_L_law_1805 Ln xs Q X K53 ih a2 a3 a4 a5 a6 a9 w))))) k
set_option maxHeartbeats 4000000 in
set_option maxRecDepth 20000 in
theorem lp_L_law_1781_s {Q : pw_W → Int32 → Prop} {X : pw_W → Nat → Prop} {Ln : Nat} {xs : Nat → Int32}  {K53 : Int32 → Int32 → Int32 → Int32 → Int32 → pw_W → Prop} {k : Nat} {a2 a3 a4 a5 a6 a9 : Int32} {w : pw_W} : lp_L_law_1781 Ln xs Q X K53 (k + 1) a2 a3 a4 a5 a6 a9 w = (let ih := lp_L_law_1781 Ln xs Q X K53 k; ((80 : Int32) ≤ a2 → jp_L_law_1819 Ln xs Q X K53 a2 a3 a4 a5 a6 w) ∧ (¬ (80 : Int32) ≤ a2 → (a4 = 0 → jp_L_law_1819 Ln xs Q X K53 a2 a3 a4 a5 a6 w) ∧ (¬ a4 = 0 → (a9 < 3 → jp_L_law_1805 Ln xs Q X K53 ih a2 a3 a4 a5 a6 a9 w) ∧ (¬ a9 < 3 → (¬ a9 = 8 → jp_L_law_1819 Ln xs Q X K53 a2 a3 a4 a5 a6 w) ∧ (a9 = 8 → jp_L_law_1805 Ln xs Q X K53 ih a2 a3 a4 a5 a6 a9 w))))) := rfl
set_option maxHeartbeats 4000000 in
set_option maxRecDepth 20000 in
theorem vlp_L_law_1781 {l : Launch} {g : pw_G} {Q : pw_W → Int32 → Prop} {X : pw_W → Nat → Prop} {Ln : Nat} {xs : Nat → Int32} (hl0 : l.stackTraces = false) (hsc : pw_sc g Ln xs) {K53 : Int32 → Int32 → Int32 → Int32 → Int32 → pw_W → Prop} (hK53 : ∀ (a2 a3 a4 a5 a6 : Int32) (w : pw_W), K53 a2 a3 a4 a5 a6 w → pw_V l g cx_L_law Q X 53 [(3000, 0), (9, 0), (0, a2), (0, a3), (0, a4), (0, a5), (0, a6), (1, 0), (1, 0), (1, 0), (1, 0), (1, 0), (1, 0), (1, 0), (1, 0), (1, 0), (1, 0), (1, 0), (1, 0), (1, 0), (1, 0), (1, 0)] [] w) : ∀ (k : Nat) (a2 a3 a4 a5 a6 a9 : Int32) (w : pw_W), lp_L_law_1781 Ln xs Q X K53 k a2 a3 a4 a5 a6 a9 w → pw_V l g cx_L_law Q X 1781 [(3000, 0), (9, 0), (0, a2), (0, a3), (0, a4), (0, a5), (0, a6), (1, 0), (1, 0), (0, a9), (1, 0), (1, 0), (1, 0), (1, 0), (1, 0), (1, 0), (1, 0), (1, 0), (1, 0), (1, 0), (1, 0), (1, 0)] [] w := by
  intro k; induction k with
  | zero => intro _ _ _ _ _ _ _ h; exact h.elim
  | succ k ih =>
    intro a2 a3 a4 a5 a6 a9 w h
    rw [lp_L_law_1781_s] at h
    refine pv_iload_n (n := 1782) d_L_law_1781 rfl rfl rfl ?_
    refine pv_bipush (v := 80) (n := 1784) d_L_law_1782 (by decide) rfl ?_
    refine pv_icmp_ge (n := 1787) (tgt := 1819) d_L_law_1784 (by decide) rfl (fun c17 => ?_) (fun c17 => ?_)
    · replace h := h.1 c17
      refine pv_unset (i := 9) (L1 := [(3000, 0), (9, 0), (0, a2), (0, a3), (0, a4), (0, a5), (0, a6), (1, 0), (1, 0), (1, 0), (1, 0), (1, 0), (1, 0), (1, 0), (1, 0), (1, 0), (1, 0), (1, 0), (1, 0), (1, 0), (1, 0), (1, 0)]) rfl ?_
      exact vjp_L_law_1819 hl0 hsc (by intros; exact hK53 _ _ _ _ _ _ (by assumption)) _ _ _ _ _ _ h
    · replace h := h.2 c17
      refine pv_iload (n := 1789) d_L_law_1787 rfl rfl ?_
      refine pv_if_eq (n := 1792) (tgt := 1819) d_L_law_1789 (by decide) rfl (fun c18 => ?_) (fun c18 => ?_)
      · replace h := h.1 c18
        refine pv_unset (i := 9) (L1 := [(3000, 0), (9, 0), (0, a2), (0, a3), (0, a4), (0, a5), (0, a6), (1, 0), (1, 0), (1, 0), (1, 0), (1, 0), (1, 0), (1, 0), (1, 0), (1, 0), (1, 0), (1, 0), (1, 0), (1, 0), (1, 0), (1, 0)]) rfl ?_
        exact vjp_L_law_1819 hl0 hsc (by intros; exact hK53 _ _ _ _ _ _ (by assumption)) _ _ _ _ _ _ h
      · replace h := h.2 c18
        refine pv_iload (n := 1794) d_L_law_1792 rfl rfl ?_
        refine pv_iconst (v := 3) (n := 1795) d_L_law_1794 (by decide) rfl ?_
        refine pv_icmp_lt (n := 1798) (tgt := 1805) d_L_law_1795 (by decide) rfl (fun c19 => ?_) (fun c19 => ?_)
        · replace h := h.1 c19
          exact vjp_L_law_1805 hl0 hsc (by intros; exact hK53 _ _ _ _ _ _ (by assumption)) (by intros; exact ih _ _ _ _ _ _ _ (by assumption)) _ _ _ _ _ _ _ h
        · replace h := h.2 c19
          refine pv_iload (n := 1800) d_L_law_1798 rfl rfl ?_
          refine pv_bipush (v := 8) (n := 1802) d_L_law_1800 (by decide) rfl ?_
          refine pv_icmp_ne (n := 1805) (tgt := 1819) d_L_law_1802 (by decide) rfl (fun c20 => ?_) (fun c20 => ?_)
          · replace h := h.1 c20
            refine pv_unset (i := 9) (L1 := [(3000, 0), (9, 0), (0, a2), (0, a3), (0, a4), (0, a5), (0, a6), (1, 0), (1, 0), (1, 0), (1, 0), (1, 0), (1, 0), (1, 0), (1, 0), (1, 0), (1, 0), (1, 0), (1, 0), (1, 0), (1, 0), (1, 0)]) rfl ?_
            exact vjp_L_law_1819 hl0 hsc (by intros; exact hK53 _ _ _ _ _ _ (by assumption)) _ _ _ _ _ _ h
          · replace h := h.2 c20
            exact vjp_L_law_1805 hl0 hsc (by intros; exact hK53 _ _ _ _ _ _ (by assumption)) (by intros; exact ih _ _ _ _ _ _ _ (by assumption)) _ _ _ _ _ _ _ h
set_option maxHeartbeats 4000000 in
set_option maxRecDepth 20000 in
def jp_L_law_1779 (Ln : Nat) (xs : Nat → Int32) (Q : pw_W → Int32 → Prop) (X : pw_W → Nat → Prop) (K53 : Int32 → Int32 → Int32 → Int32 → Int32 → pw_W → Prop) (a2 a3 a5 a6 a9 s0 : Int32) (w : pw_W) : Prop := ∃ k21, lp_L_law_1781 Ln xs Q X K53 k21 a2 a3 s0 a5 a6 a9 w
set_option maxHeartbeats 4000000 in
set_option maxRecDepth 20000 in
theorem vjp_L_law_1779 {l : Launch} {g : pw_G} {Q : pw_W → Int32 → Prop} {X : pw_W → Nat → Prop} {Ln : Nat} {xs : Nat → Int32} (hl0 : l.stackTraces = false) (hsc : pw_sc g Ln xs) {K53 : Int32 → Int32 → Int32 → Int32 → Int32 → pw_W → Prop} (hK53 : ∀ (a2 a3 a4 a5 a6 : Int32) (w : pw_W), K53 a2 a3 a4 a5 a6 w → pw_V l g cx_L_law Q X 53 [(3000, 0), (9, 0), (0, a2), (0, a3), (0, a4), (0, a5), (0, a6), (1, 0), (1, 0), (1, 0), (1, 0), (1, 0), (1, 0), (1, 0), (1, 0), (1, 0), (1, 0), (1, 0), (1, 0), (1, 0), (1, 0), (1, 0)] [] w) (a2 a3 a5 a6 a9 s0 : Int32) (w : pw_W) (h : jp_L_law_1779 Ln xs Q X K53 a2 a3 a5 a6 a9 s0 w) : pw_V l g cx_L_law Q X 1779 [(3000, 0), (9, 0), (0, a2), (0, a3), (1, 0), (0, a5), (0, a6), (1, 0), (1, 0), (0, a9), (1, 0), (1, 0), (1, 0), (1, 0), (1, 0), (1, 0), (1, 0), (1, 0), (1, 0), (1, 0), (1, 0), (1, 0)] [(0, s0)] w := by
  unfold jp_L_law_1779 at h
  refine pv_istore (n := 1781) (L' := [(3000, 0), (9, 0), (0, a2), (0, a3), (0, s0), (0, a5), (0, a6), (1, 0), (1, 0), (0, a9), (1, 0), (1, 0), (1, 0), (1, 0), (1, 0), (1, 0), (1, 0), (1, 0), (1, 0), (1, 0), (1, 0), (1, 0)]) d_L_law_1779 (by decide) rfl rfl ?_
  obtain ⟨k21, h⟩ := h
  exact vlp_L_law_1781 hl0 hsc (by intros; exact hK53 _ _ _ _ _ _ (by assumption)) _ _ _ _ _ _ _ _ h
set_option maxHeartbeats 4000000 in
set_option maxRecDepth 20000 in
def jp_L_law_1778 (Ln : Nat) (xs : Nat → Int32) (Q : pw_W → Int32 → Prop) (X : pw_W → Nat → Prop) (K53 : Int32 → Int32 → Int32 → Int32 → Int32 → pw_W → Prop) (a2 a3 a5 a6 a9 : Int32) (w : pw_W) : Prop := jp_L_law_1779 Ln xs Q X K53 a2 a3 a5 a6 a9 0 w
set_option maxHeartbeats 4000000 in
set_option maxRecDepth 20000 in
theorem vjp_L_law_1778 {l : Launch} {g : pw_G} {Q : pw_W → Int32 → Prop} {X : pw_W → Nat → Prop} {Ln : Nat} {xs : Nat → Int32} (hl0 : l.stackTraces = false) (hsc : pw_sc g Ln xs) {K53 : Int32 → Int32 → Int32 → Int32 → Int32 → pw_W → Prop} (hK53 : ∀ (a2 a3 a4 a5 a6 : Int32) (w : pw_W), K53 a2 a3 a4 a5 a6 w → pw_V l g cx_L_law Q X 53 [(3000, 0), (9, 0), (0, a2), (0, a3), (0, a4), (0, a5), (0, a6), (1, 0), (1, 0), (1, 0), (1, 0), (1, 0), (1, 0), (1, 0), (1, 0), (1, 0), (1, 0), (1, 0), (1, 0), (1, 0), (1, 0), (1, 0)] [] w) (a2 a3 a5 a6 a9 : Int32) (w : pw_W) (h : jp_L_law_1778 Ln xs Q X K53 a2 a3 a5 a6 a9 w) : pw_V l g cx_L_law Q X 1778 [(3000, 0), (9, 0), (0, a2), (0, a3), (1, 0), (0, a5), (0, a6), (1, 0), (1, 0), (0, a9), (1, 0), (1, 0), (1, 0), (1, 0), (1, 0), (1, 0), (1, 0), (1, 0), (1, 0), (1, 0), (1, 0), (1, 0)] [] w := by
  unfold jp_L_law_1778 at h
  refine pv_iconst (v := 0) (n := 1779) d_L_law_1778 (by decide) rfl ?_
  exact vjp_L_law_1779 hl0 hsc (by intros; exact hK53 _ _ _ _ _ _ (by assumption)) _ _ _ _ _ _ _ h
set_option maxHeartbeats 4000000 in
set_option maxRecDepth 20000 in
def jp_L_law_1774 (Ln : Nat) (xs : Nat → Int32) (Q : pw_W → Int32 → Prop) (X : pw_W → Nat → Prop) (K53 : Int32 → Int32 → Int32 → Int32 → Int32 → pw_W → Prop) (a2 a3 a5 a6 a9 : Int32) (w : pw_W) : Prop := jp_L_law_1779 Ln xs Q X K53 a2 a3 a5 a6 a9 1 w
set_option maxHeartbeats 4000000 in
set_option maxRecDepth 20000 in
theorem vjp_L_law_1774 {l : Launch} {g : pw_G} {Q : pw_W → Int32 → Prop} {X : pw_W → Nat → Prop} {Ln : Nat} {xs : Nat → Int32} (hl0 : l.stackTraces = false) (hsc : pw_sc g Ln xs) {K53 : Int32 → Int32 → Int32 → Int32 → Int32 → pw_W → Prop} (hK53 : ∀ (a2 a3 a4 a5 a6 : Int32) (w : pw_W), K53 a2 a3 a4 a5 a6 w → pw_V l g cx_L_law Q X 53 [(3000, 0), (9, 0), (0, a2), (0, a3), (0, a4), (0, a5), (0, a6), (1, 0), (1, 0), (1, 0), (1, 0), (1, 0), (1, 0), (1, 0), (1, 0), (1, 0), (1, 0), (1, 0), (1, 0), (1, 0), (1, 0), (1, 0)] [] w) (a2 a3 a5 a6 a9 : Int32) (w : pw_W) (h : jp_L_law_1774 Ln xs Q X K53 a2 a3 a5 a6 a9 w) : pw_V l g cx_L_law Q X 1774 [(3000, 0), (9, 0), (0, a2), (0, a3), (1, 0), (0, a5), (0, a6), (1, 0), (1, 0), (0, a9), (1, 0), (1, 0), (1, 0), (1, 0), (1, 0), (1, 0), (1, 0), (1, 0), (1, 0), (1, 0), (1, 0), (1, 0)] [] w := by
  unfold jp_L_law_1774 at h
  refine pv_iconst (v := 1) (n := 1775) d_L_law_1774 (by decide) rfl ?_
  refine pv_goto (tgt := 1779) d_L_law_1775 (by decide) ?_
  exact vjp_L_law_1779 hl0 hsc (by intros; exact hK53 _ _ _ _ _ _ (by assumption)) _ _ _ _ _ _ _ h
set_option maxHeartbeats 4000000 in
set_option maxRecDepth 20000 in
def jp_L_law_1684 (Ln : Nat) (xs : Nat → Int32) (Q : pw_W → Int32 → Prop) (X : pw_W → Nat → Prop) (K53 : Int32 → Int32 → Int32 → Int32 → Int32 → pw_W → Prop) (a2 a3 a5 a6 a9 a10 a18 a19 s0 s1 s2 : Int32) (w : pw_W) : Prop := ¬ s0 = 0 ∧ ∀ v23, v23 = (s2 + (s1 - s1 / s0 * s0)) → wp_L_on w 15 v23 0 0 0 (fun w25 r26 => (¬ r26 = (-13) → (¬ r26 = (a18 + v23) → jp_L_law_1778 Ln xs Q X K53 a2 a3 a5 a6 a9 w25) ∧ (r26 = (a18 + v23) → wp_X_paid w25 a10 (fun w29 r30 => (r30 < a19 → jp_L_law_1778 Ln xs Q X K53 a2 a3 a5 a6 a9 w29) ∧ (¬ r30 < a19 → ((a18 / 360) < (r26 / 360) → jp_L_law_1774 Ln xs Q X K53 a2 a3 a5 a6 a9 w29) ∧ (¬ (a18 / 360) < (r26 / 360) → wp_X_paid w29 a10 (fun w33 r34 => (¬ r34 = a19 → jp_L_law_1778 Ln xs Q X K53 a2 a3 a5 a6 a9 w33) ∧ (r34 = a19 → jp_L_law_1774 Ln xs Q X K53 a2 a3 a5 a6 a9 w33)) (fun _ _ => False)))) (fun _ _ => False))) ∧ (r26 = (-13) → ((a18 + v23) ≤ 20000 → jp_L_law_1779 Ln xs Q X K53 a2 a3 a5 a6 a9 0 w25) ∧ (¬ (a18 + v23) ≤ 20000 → jp_L_law_1779 Ln xs Q X K53 a2 a3 a5 a6 a9 1 w25))) (fun _ _ => False)
set_option maxHeartbeats 4000000 in
set_option maxRecDepth 20000 in
theorem vjp_L_law_1684 {l : Launch} {g : pw_G} {Q : pw_W → Int32 → Prop} {X : pw_W → Nat → Prop} {Ln : Nat} {xs : Nat → Int32} (hl0 : l.stackTraces = false) (hsc : pw_sc g Ln xs) {K53 : Int32 → Int32 → Int32 → Int32 → Int32 → pw_W → Prop} (hK53 : ∀ (a2 a3 a4 a5 a6 : Int32) (w : pw_W), K53 a2 a3 a4 a5 a6 w → pw_V l g cx_L_law Q X 53 [(3000, 0), (9, 0), (0, a2), (0, a3), (0, a4), (0, a5), (0, a6), (1, 0), (1, 0), (1, 0), (1, 0), (1, 0), (1, 0), (1, 0), (1, 0), (1, 0), (1, 0), (1, 0), (1, 0), (1, 0), (1, 0), (1, 0)] [] w) (a2 a3 a5 a6 a9 a10 a18 a19 s0 s1 s2 : Int32) (w : pw_W) (h : jp_L_law_1684 Ln xs Q X K53 a2 a3 a5 a6 a9 a10 a18 a19 s0 s1 s2 w) : pw_V l g cx_L_law Q X 1684 [(3000, 0), (9, 0), (0, a2), (0, a3), (1, 0), (0, a5), (0, a6), (1, 0), (1, 0), (0, a9), (0, a10), (1, 0), (1, 0), (1, 0), (1, 0), (1, 0), (1, 0), (1, 0), (0, a18), (0, a19), (1, 0), (1, 0)] [(0, s0), (0, s1), (0, s2)] w := by
  unfold jp_L_law_1684 at h
  obtain ⟨g22, h⟩ := h
  refine pv_irem (n := 1685) d_L_law_1684 g22 rfl ?_
  refine pv_iadd (n := 1686) d_L_law_1685 rfl ?_
  refine pv_nm (fun v23 e24 => ?_)
  replace h := h v23 e24
  refine pv_istore (n := 1688) (L' := [(3000, 0), (9, 0), (0, a2), (0, a3), (1, 0), (0, a5), (0, a6), (1, 0), (1, 0), (0, a9), (0, a10), (1, 0), (1, 0), (1, 0), (1, 0), (1, 0), (1, 0), (1, 0), (0, a18), (0, a19), (0, v23), (1, 0)]) d_L_law_1686 (by decide) rfl rfl ?_
  refine pv_aload_n (n := 1689) d_L_law_1688 rfl rfl rfl ?_
  refine pv_bipush (v := 15) (n := 1691) d_L_law_1689 (by decide) rfl ?_
  refine pv_iload (n := 1693) d_L_law_1691 rfl rfl ?_
  refine pv_iconst (v := 0) (n := 1694) d_L_law_1693 (by decide) rfl ?_
  refine pv_iconst (v := 0) (n := 1695) d_L_law_1694 (by decide) rfl ?_
  refine pv_iconst (v := 0) (n := 1696) d_L_law_1695 (by decide) rfl ?_
  refine pv_callSH (n := 1699) [(9, 0), (0, 15), (0, v23), (0, 0), (0, 0), (0, 0)] [] (con_L_on hl0 h) q_541 q_542 q_483 q_540 pyo_L_on (by decide) rfl rfl d_L_law_1696 rfl (fun w25 r26 h _ => ?_) (fun _ _ h => h.elim)
  show pw_V l g cx_L_law Q X 1699 [(3000, 0), (9, 0), (0, a2), (0, a3), (1, 0), (0, a5), (0, a6), (1, 0), (1, 0), (0, a9), (0, a10), (1, 0), (1, 0), (1, 0), (1, 0), (1, 0), (1, 0), (1, 0), (0, a18), (0, a19), (0, v23), (1, 0)] [(0, r26)] w25
  refine pv_istore (n := 1701) (L' := [(3000, 0), (9, 0), (0, a2), (0, a3), (1, 0), (0, a5), (0, a6), (1, 0), (1, 0), (0, a9), (0, a10), (1, 0), (1, 0), (1, 0), (1, 0), (1, 0), (1, 0), (0, r26), (0, a18), (0, a19), (0, v23), (1, 0)]) d_L_law_1699 (by decide) rfl rfl ?_
  refine pv_iload (n := 1703) d_L_law_1701 rfl rfl ?_
  refine pv_bipush (v := -13) (n := 1705) d_L_law_1703 (by decide) rfl ?_
  refine pv_icmp_ne (n := 1708) (tgt := 1727) d_L_law_1705 (by decide) rfl (fun c27 => ?_) (fun c27 => ?_)
  · replace h := h.1 c27
    refine pv_iload (n := 1729) d_L_law_1727 rfl rfl ?_
    refine pv_iload (n := 1731) d_L_law_1729 rfl rfl ?_
    refine pv_iload (n := 1733) d_L_law_1731 rfl rfl ?_
    refine pv_iadd (n := 1734) d_L_law_1733 rfl ?_
    refine pv_icmp_ne (n := 1737) (tgt := 1778) d_L_law_1734 (by decide) rfl (fun c28 => ?_) (fun c28 => ?_)
    · replace h := h.1 c28
      refine pv_unset (i := 10) (L1 := [(3000, 0), (9, 0), (0, a2), (0, a3), (1, 0), (0, a5), (0, a6), (1, 0), (1, 0), (0, a9), (1, 0), (1, 0), (1, 0), (1, 0), (1, 0), (1, 0), (1, 0), (0, r26), (0, a18), (0, a19), (0, v23), (1, 0)]) rfl ?_
      refine pv_unset (i := 17) (L1 := [(3000, 0), (9, 0), (0, a2), (0, a3), (1, 0), (0, a5), (0, a6), (1, 0), (1, 0), (0, a9), (1, 0), (1, 0), (1, 0), (1, 0), (1, 0), (1, 0), (1, 0), (1, 0), (0, a18), (0, a19), (0, v23), (1, 0)]) rfl ?_
      refine pv_unset (i := 18) (L1 := [(3000, 0), (9, 0), (0, a2), (0, a3), (1, 0), (0, a5), (0, a6), (1, 0), (1, 0), (0, a9), (1, 0), (1, 0), (1, 0), (1, 0), (1, 0), (1, 0), (1, 0), (1, 0), (1, 0), (0, a19), (0, v23), (1, 0)]) rfl ?_
      refine pv_unset (i := 19) (L1 := [(3000, 0), (9, 0), (0, a2), (0, a3), (1, 0), (0, a5), (0, a6), (1, 0), (1, 0), (0, a9), (1, 0), (1, 0), (1, 0), (1, 0), (1, 0), (1, 0), (1, 0), (1, 0), (1, 0), (1, 0), (0, v23), (1, 0)]) rfl ?_
      refine pv_unset (i := 20) (L1 := [(3000, 0), (9, 0), (0, a2), (0, a3), (1, 0), (0, a5), (0, a6), (1, 0), (1, 0), (0, a9), (1, 0), (1, 0), (1, 0), (1, 0), (1, 0), (1, 0), (1, 0), (1, 0), (1, 0), (1, 0), (1, 0), (1, 0)]) rfl ?_
      exact vjp_L_law_1778 hl0 hsc (by intros; exact hK53 _ _ _ _ _ _ (by assumption)) _ _ _ _ _ _ h
    · replace h := h.2 c28
      refine pv_aload_n (n := 1738) d_L_law_1737 rfl rfl rfl ?_
      refine pv_iload (n := 1740) d_L_law_1738 rfl rfl ?_
      refine pv_callV (n := 1743) (x := 0) [(0, a10)] [] (con_X_paid hl0 h) pw_cf7 rfl q_537 q_538 q_539 q_62 q_536 pyo_X_paid (by decide) rfl rfl (by decide) d_L_law_1740 rfl (fun w29 r30 h _ => ?_) (fun _ _ h => h.elim)
      show pw_V l g cx_L_law Q X 1743 [(3000, 0), (9, 0), (0, a2), (0, a3), (1, 0), (0, a5), (0, a6), (1, 0), (1, 0), (0, a9), (0, a10), (1, 0), (1, 0), (1, 0), (1, 0), (1, 0), (1, 0), (0, r26), (0, a18), (0, a19), (0, v23), (1, 0)] [(0, r30)] w29
      refine pv_iload (n := 1745) d_L_law_1743 rfl rfl ?_
      refine pv_icmp_lt (n := 1748) (tgt := 1778) d_L_law_1745 (by decide) rfl (fun c31 => ?_) (fun c31 => ?_)
      · replace h := h.1 c31
        refine pv_unset (i := 10) (L1 := [(3000, 0), (9, 0), (0, a2), (0, a3), (1, 0), (0, a5), (0, a6), (1, 0), (1, 0), (0, a9), (1, 0), (1, 0), (1, 0), (1, 0), (1, 0), (1, 0), (1, 0), (0, r26), (0, a18), (0, a19), (0, v23), (1, 0)]) rfl ?_
        refine pv_unset (i := 17) (L1 := [(3000, 0), (9, 0), (0, a2), (0, a3), (1, 0), (0, a5), (0, a6), (1, 0), (1, 0), (0, a9), (1, 0), (1, 0), (1, 0), (1, 0), (1, 0), (1, 0), (1, 0), (1, 0), (0, a18), (0, a19), (0, v23), (1, 0)]) rfl ?_
        refine pv_unset (i := 18) (L1 := [(3000, 0), (9, 0), (0, a2), (0, a3), (1, 0), (0, a5), (0, a6), (1, 0), (1, 0), (0, a9), (1, 0), (1, 0), (1, 0), (1, 0), (1, 0), (1, 0), (1, 0), (1, 0), (1, 0), (0, a19), (0, v23), (1, 0)]) rfl ?_
        refine pv_unset (i := 19) (L1 := [(3000, 0), (9, 0), (0, a2), (0, a3), (1, 0), (0, a5), (0, a6), (1, 0), (1, 0), (0, a9), (1, 0), (1, 0), (1, 0), (1, 0), (1, 0), (1, 0), (1, 0), (1, 0), (1, 0), (1, 0), (0, v23), (1, 0)]) rfl ?_
        refine pv_unset (i := 20) (L1 := [(3000, 0), (9, 0), (0, a2), (0, a3), (1, 0), (0, a5), (0, a6), (1, 0), (1, 0), (0, a9), (1, 0), (1, 0), (1, 0), (1, 0), (1, 0), (1, 0), (1, 0), (1, 0), (1, 0), (1, 0), (1, 0), (1, 0)]) rfl ?_
        exact vjp_L_law_1778 hl0 hsc (by intros; exact hK53 _ _ _ _ _ _ (by assumption)) _ _ _ _ _ _ h
      · replace h := h.2 c31
        refine pv_iload (n := 1750) d_L_law_1748 rfl rfl ?_
        refine pv_sipush (v := 360) (n := 1753) d_L_law_1750 (by decide) rfl ?_
        refine pv_idiv (n := 1754) d_L_law_1753 (by decide) rfl ?_
        refine pv_iload (n := 1756) d_L_law_1754 rfl rfl ?_
        refine pv_sipush (v := 360) (n := 1759) d_L_law_1756 (by decide) rfl ?_
        refine pv_idiv (n := 1760) d_L_law_1759 (by decide) rfl ?_
        refine pv_icmp_lt (n := 1763) (tgt := 1774) d_L_law_1760 (by decide) rfl (fun c32 => ?_) (fun c32 => ?_)
        · replace h := h.1 c32
          refine pv_unset (i := 10) (L1 := [(3000, 0), (9, 0), (0, a2), (0, a3), (1, 0), (0, a5), (0, a6), (1, 0), (1, 0), (0, a9), (1, 0), (1, 0), (1, 0), (1, 0), (1, 0), (1, 0), (1, 0), (0, r26), (0, a18), (0, a19), (0, v23), (1, 0)]) rfl ?_
          refine pv_unset (i := 17) (L1 := [(3000, 0), (9, 0), (0, a2), (0, a3), (1, 0), (0, a5), (0, a6), (1, 0), (1, 0), (0, a9), (1, 0), (1, 0), (1, 0), (1, 0), (1, 0), (1, 0), (1, 0), (1, 0), (0, a18), (0, a19), (0, v23), (1, 0)]) rfl ?_
          refine pv_unset (i := 18) (L1 := [(3000, 0), (9, 0), (0, a2), (0, a3), (1, 0), (0, a5), (0, a6), (1, 0), (1, 0), (0, a9), (1, 0), (1, 0), (1, 0), (1, 0), (1, 0), (1, 0), (1, 0), (1, 0), (1, 0), (0, a19), (0, v23), (1, 0)]) rfl ?_
          refine pv_unset (i := 19) (L1 := [(3000, 0), (9, 0), (0, a2), (0, a3), (1, 0), (0, a5), (0, a6), (1, 0), (1, 0), (0, a9), (1, 0), (1, 0), (1, 0), (1, 0), (1, 0), (1, 0), (1, 0), (1, 0), (1, 0), (1, 0), (0, v23), (1, 0)]) rfl ?_
          refine pv_unset (i := 20) (L1 := [(3000, 0), (9, 0), (0, a2), (0, a3), (1, 0), (0, a5), (0, a6), (1, 0), (1, 0), (0, a9), (1, 0), (1, 0), (1, 0), (1, 0), (1, 0), (1, 0), (1, 0), (1, 0), (1, 0), (1, 0), (1, 0), (1, 0)]) rfl ?_
          exact vjp_L_law_1774 hl0 hsc (by intros; exact hK53 _ _ _ _ _ _ (by assumption)) _ _ _ _ _ _ h
        · replace h := h.2 c32
          refine pv_aload_n (n := 1764) d_L_law_1763 rfl rfl rfl ?_
          refine pv_iload (n := 1766) d_L_law_1764 rfl rfl ?_
          refine pv_callV (n := 1769) (x := 0) [(0, a10)] [] (con_X_paid hl0 h) pw_cf7 rfl q_537 q_538 q_539 q_62 q_536 pyo_X_paid (by decide) rfl rfl (by decide) d_L_law_1766 rfl (fun w33 r34 h _ => ?_) (fun _ _ h => h.elim)
          show pw_V l g cx_L_law Q X 1769 [(3000, 0), (9, 0), (0, a2), (0, a3), (1, 0), (0, a5), (0, a6), (1, 0), (1, 0), (0, a9), (0, a10), (1, 0), (1, 0), (1, 0), (1, 0), (1, 0), (1, 0), (0, r26), (0, a18), (0, a19), (0, v23), (1, 0)] [(0, r34)] w33
          refine pv_iload (n := 1771) d_L_law_1769 rfl rfl ?_
          refine pv_icmp_ne (n := 1774) (tgt := 1778) d_L_law_1771 (by decide) rfl (fun c35 => ?_) (fun c35 => ?_)
          · replace h := h.1 c35
            refine pv_unset (i := 10) (L1 := [(3000, 0), (9, 0), (0, a2), (0, a3), (1, 0), (0, a5), (0, a6), (1, 0), (1, 0), (0, a9), (1, 0), (1, 0), (1, 0), (1, 0), (1, 0), (1, 0), (1, 0), (0, r26), (0, a18), (0, a19), (0, v23), (1, 0)]) rfl ?_
            refine pv_unset (i := 17) (L1 := [(3000, 0), (9, 0), (0, a2), (0, a3), (1, 0), (0, a5), (0, a6), (1, 0), (1, 0), (0, a9), (1, 0), (1, 0), (1, 0), (1, 0), (1, 0), (1, 0), (1, 0), (1, 0), (0, a18), (0, a19), (0, v23), (1, 0)]) rfl ?_
            refine pv_unset (i := 18) (L1 := [(3000, 0), (9, 0), (0, a2), (0, a3), (1, 0), (0, a5), (0, a6), (1, 0), (1, 0), (0, a9), (1, 0), (1, 0), (1, 0), (1, 0), (1, 0), (1, 0), (1, 0), (1, 0), (1, 0), (0, a19), (0, v23), (1, 0)]) rfl ?_
            refine pv_unset (i := 19) (L1 := [(3000, 0), (9, 0), (0, a2), (0, a3), (1, 0), (0, a5), (0, a6), (1, 0), (1, 0), (0, a9), (1, 0), (1, 0), (1, 0), (1, 0), (1, 0), (1, 0), (1, 0), (1, 0), (1, 0), (1, 0), (0, v23), (1, 0)]) rfl ?_
            refine pv_unset (i := 20) (L1 := [(3000, 0), (9, 0), (0, a2), (0, a3), (1, 0), (0, a5), (0, a6), (1, 0), (1, 0), (0, a9), (1, 0), (1, 0), (1, 0), (1, 0), (1, 0), (1, 0), (1, 0), (1, 0), (1, 0), (1, 0), (1, 0), (1, 0)]) rfl ?_
            exact vjp_L_law_1778 hl0 hsc (by intros; exact hK53 _ _ _ _ _ _ (by assumption)) _ _ _ _ _ _ h
          · replace h := h.2 c35
            refine pv_unset (i := 10) (L1 := [(3000, 0), (9, 0), (0, a2), (0, a3), (1, 0), (0, a5), (0, a6), (1, 0), (1, 0), (0, a9), (1, 0), (1, 0), (1, 0), (1, 0), (1, 0), (1, 0), (1, 0), (0, r26), (0, a18), (0, a19), (0, v23), (1, 0)]) rfl ?_
            refine pv_unset (i := 17) (L1 := [(3000, 0), (9, 0), (0, a2), (0, a3), (1, 0), (0, a5), (0, a6), (1, 0), (1, 0), (0, a9), (1, 0), (1, 0), (1, 0), (1, 0), (1, 0), (1, 0), (1, 0), (1, 0), (0, a18), (0, a19), (0, v23), (1, 0)]) rfl ?_
            refine pv_unset (i := 18) (L1 := [(3000, 0), (9, 0), (0, a2), (0, a3), (1, 0), (0, a5), (0, a6), (1, 0), (1, 0), (0, a9), (1, 0), (1, 0), (1, 0), (1, 0), (1, 0), (1, 0), (1, 0), (1, 0), (1, 0), (0, a19), (0, v23), (1, 0)]) rfl ?_
            refine pv_unset (i := 19) (L1 := [(3000, 0), (9, 0), (0, a2), (0, a3), (1, 0), (0, a5), (0, a6), (1, 0), (1, 0), (0, a9), (1, 0), (1, 0), (1, 0), (1, 0), (1, 0), (1, 0), (1, 0), (1, 0), (1, 0), (1, 0), (0, v23), (1, 0)]) rfl ?_
            refine pv_unset (i := 20) (L1 := [(3000, 0), (9, 0), (0, a2), (0, a3), (1, 0), (0, a5), (0, a6), (1, 0), (1, 0), (0, a9), (1, 0), (1, 0), (1, 0), (1, 0), (1, 0), (1, 0), (1, 0), (1, 0), (1, 0), (1, 0), (1, 0), (1, 0)]) rfl ?_
            exact vjp_L_law_1774 hl0 hsc (by intros; exact hK53 _ _ _ _ _ _ (by assumption)) _ _ _ _ _ _ h
  · replace h := h.2 c27
    refine pv_iload (n := 1710) d_L_law_1708 rfl rfl ?_
    refine pv_iload (n := 1712) d_L_law_1710 rfl rfl ?_
    refine pv_iadd (n := 1713) d_L_law_1712 rfl ?_
    refine pv_sipush (v := 20000) (n := 1716) d_L_law_1713 (by decide) rfl ?_
    refine pv_icmp_le (n := 1719) (tgt := 1723) d_L_law_1716 (by decide) rfl (fun c36 => ?_) (fun c36 => ?_)
    · replace h := h.1 c36
      refine pv_iconst (v := 0) (n := 1724) d_L_law_1723 (by decide) rfl ?_
      refine pv_goto (tgt := 1779) d_L_law_1724 (by decide) ?_
      refine pv_unset (i := 10) (L1 := [(3000, 0), (9, 0), (0, a2), (0, a3), (1, 0), (0, a5), (0, a6), (1, 0), (1, 0), (0, a9), (1, 0), (1, 0), (1, 0), (1, 0), (1, 0), (1, 0), (1, 0), (0, r26), (0, a18), (0, a19), (0, v23), (1, 0)]) rfl ?_
      refine pv_unset (i := 17) (L1 := [(3000, 0), (9, 0), (0, a2), (0, a3), (1, 0), (0, a5), (0, a6), (1, 0), (1, 0), (0, a9), (1, 0), (1, 0), (1, 0), (1, 0), (1, 0), (1, 0), (1, 0), (1, 0), (0, a18), (0, a19), (0, v23), (1, 0)]) rfl ?_
      refine pv_unset (i := 18) (L1 := [(3000, 0), (9, 0), (0, a2), (0, a3), (1, 0), (0, a5), (0, a6), (1, 0), (1, 0), (0, a9), (1, 0), (1, 0), (1, 0), (1, 0), (1, 0), (1, 0), (1, 0), (1, 0), (1, 0), (0, a19), (0, v23), (1, 0)]) rfl ?_
      refine pv_unset (i := 19) (L1 := [(3000, 0), (9, 0), (0, a2), (0, a3), (1, 0), (0, a5), (0, a6), (1, 0), (1, 0), (0, a9), (1, 0), (1, 0), (1, 0), (1, 0), (1, 0), (1, 0), (1, 0), (1, 0), (1, 0), (1, 0), (0, v23), (1, 0)]) rfl ?_
      refine pv_unset (i := 20) (L1 := [(3000, 0), (9, 0), (0, a2), (0, a3), (1, 0), (0, a5), (0, a6), (1, 0), (1, 0), (0, a9), (1, 0), (1, 0), (1, 0), (1, 0), (1, 0), (1, 0), (1, 0), (1, 0), (1, 0), (1, 0), (1, 0), (1, 0)]) rfl ?_
      exact vjp_L_law_1779 hl0 hsc (by intros; exact hK53 _ _ _ _ _ _ (by assumption)) _ _ _ _ _ _ _ h
    · replace h := h.2 c36
      refine pv_iconst (v := 1) (n := 1720) d_L_law_1719 (by decide) rfl ?_
      refine pv_goto (tgt := 1779) d_L_law_1720 (by decide) ?_
      refine pv_unset (i := 10) (L1 := [(3000, 0), (9, 0), (0, a2), (0, a3), (1, 0), (0, a5), (0, a6), (1, 0), (1, 0), (0, a9), (1, 0), (1, 0), (1, 0), (1, 0), (1, 0), (1, 0), (1, 0), (0, r26), (0, a18), (0, a19), (0, v23), (1, 0)]) rfl ?_
      refine pv_unset (i := 17) (L1 := [(3000, 0), (9, 0), (0, a2), (0, a3), (1, 0), (0, a5), (0, a6), (1, 0), (1, 0), (0, a9), (1, 0), (1, 0), (1, 0), (1, 0), (1, 0), (1, 0), (1, 0), (1, 0), (0, a18), (0, a19), (0, v23), (1, 0)]) rfl ?_
      refine pv_unset (i := 18) (L1 := [(3000, 0), (9, 0), (0, a2), (0, a3), (1, 0), (0, a5), (0, a6), (1, 0), (1, 0), (0, a9), (1, 0), (1, 0), (1, 0), (1, 0), (1, 0), (1, 0), (1, 0), (1, 0), (1, 0), (0, a19), (0, v23), (1, 0)]) rfl ?_
      refine pv_unset (i := 19) (L1 := [(3000, 0), (9, 0), (0, a2), (0, a3), (1, 0), (0, a5), (0, a6), (1, 0), (1, 0), (0, a9), (1, 0), (1, 0), (1, 0), (1, 0), (1, 0), (1, 0), (1, 0), (1, 0), (1, 0), (1, 0), (0, v23), (1, 0)]) rfl ?_
      refine pv_unset (i := 20) (L1 := [(3000, 0), (9, 0), (0, a2), (0, a3), (1, 0), (0, a5), (0, a6), (1, 0), (1, 0), (0, a9), (1, 0), (1, 0), (1, 0), (1, 0), (1, 0), (1, 0), (1, 0), (1, 0), (1, 0), (1, 0), (1, 0), (1, 0)]) rfl ?_
      exact vjp_L_law_1779 hl0 hsc (by intros; exact hK53 _ _ _ _ _ _ (by assumption)) _ _ _ _ _ _ _ h
set_option maxHeartbeats 4000000 in
set_option maxRecDepth 20000 in
def jp_L_law_1645 (Ln : Nat) (xs : Nat → Int32) (Q : pw_W → Int32 → Prop) (X : pw_W → Nat → Prop) (K53 : Int32 → Int32 → Int32 → Int32 → Int32 → pw_W → Prop) (a2 a3 a5 a6 a9 s0 : Int32) (w : pw_W) : Prop := ∃ k37, lp_L_law_1781 Ln xs Q X K53 k37 a2 a3 s0 a5 a6 a9 w
set_option maxHeartbeats 4000000 in
set_option maxRecDepth 20000 in
theorem vjp_L_law_1645 {l : Launch} {g : pw_G} {Q : pw_W → Int32 → Prop} {X : pw_W → Nat → Prop} {Ln : Nat} {xs : Nat → Int32} (hl0 : l.stackTraces = false) (hsc : pw_sc g Ln xs) {K53 : Int32 → Int32 → Int32 → Int32 → Int32 → pw_W → Prop} (hK53 : ∀ (a2 a3 a4 a5 a6 : Int32) (w : pw_W), K53 a2 a3 a4 a5 a6 w → pw_V l g cx_L_law Q X 53 [(3000, 0), (9, 0), (0, a2), (0, a3), (0, a4), (0, a5), (0, a6), (1, 0), (1, 0), (1, 0), (1, 0), (1, 0), (1, 0), (1, 0), (1, 0), (1, 0), (1, 0), (1, 0), (1, 0), (1, 0), (1, 0), (1, 0)] [] w) (a2 a3 a5 a6 a9 s0 : Int32) (w : pw_W) (h : jp_L_law_1645 Ln xs Q X K53 a2 a3 a5 a6 a9 s0 w) : pw_V l g cx_L_law Q X 1645 [(3000, 0), (9, 0), (0, a2), (0, a3), (1, 0), (0, a5), (0, a6), (1, 0), (1, 0), (0, a9), (1, 0), (1, 0), (1, 0), (1, 0), (1, 0), (1, 0), (1, 0), (1, 0), (1, 0), (1, 0), (1, 0), (1, 0)] [(0, s0)] w := by
  unfold jp_L_law_1645 at h
  refine pv_istore (n := 1647) (L' := [(3000, 0), (9, 0), (0, a2), (0, a3), (0, s0), (0, a5), (0, a6), (1, 0), (1, 0), (0, a9), (1, 0), (1, 0), (1, 0), (1, 0), (1, 0), (1, 0), (1, 0), (1, 0), (1, 0), (1, 0), (1, 0), (1, 0)]) d_L_law_1645 (by decide) rfl rfl ?_
  refine pv_goto (tgt := 1781) d_L_law_1647 (by decide) ?_
  obtain ⟨k37, h⟩ := h
  exact vlp_L_law_1781 hl0 hsc (by intros; exact hK53 _ _ _ _ _ _ (by assumption)) _ _ _ _ _ _ _ _ h
set_option maxHeartbeats 4000000 in
set_option maxRecDepth 20000 in
def jp_L_law_1644 (Ln : Nat) (xs : Nat → Int32) (Q : pw_W → Int32 → Prop) (X : pw_W → Nat → Prop) (K53 : Int32 → Int32 → Int32 → Int32 → Int32 → pw_W → Prop) (a2 a3 a5 a6 a9 : Int32) (w : pw_W) : Prop := jp_L_law_1645 Ln xs Q X K53 a2 a3 a5 a6 a9 0 w
set_option maxHeartbeats 4000000 in
set_option maxRecDepth 20000 in
theorem vjp_L_law_1644 {l : Launch} {g : pw_G} {Q : pw_W → Int32 → Prop} {X : pw_W → Nat → Prop} {Ln : Nat} {xs : Nat → Int32} (hl0 : l.stackTraces = false) (hsc : pw_sc g Ln xs) {K53 : Int32 → Int32 → Int32 → Int32 → Int32 → pw_W → Prop} (hK53 : ∀ (a2 a3 a4 a5 a6 : Int32) (w : pw_W), K53 a2 a3 a4 a5 a6 w → pw_V l g cx_L_law Q X 53 [(3000, 0), (9, 0), (0, a2), (0, a3), (0, a4), (0, a5), (0, a6), (1, 0), (1, 0), (1, 0), (1, 0), (1, 0), (1, 0), (1, 0), (1, 0), (1, 0), (1, 0), (1, 0), (1, 0), (1, 0), (1, 0), (1, 0)] [] w) (a2 a3 a5 a6 a9 : Int32) (w : pw_W) (h : jp_L_law_1644 Ln xs Q X K53 a2 a3 a5 a6 a9 w) : pw_V l g cx_L_law Q X 1644 [(3000, 0), (9, 0), (0, a2), (0, a3), (1, 0), (0, a5), (0, a6), (1, 0), (1, 0), (0, a9), (1, 0), (1, 0), (1, 0), (1, 0), (1, 0), (1, 0), (1, 0), (1, 0), (1, 0), (1, 0), (1, 0), (1, 0)] [] w := by
  unfold jp_L_law_1644 at h
  refine pv_iconst (v := 0) (n := 1645) d_L_law_1644 (by decide) rfl ?_
  exact vjp_L_law_1645 hl0 hsc (by intros; exact hK53 _ _ _ _ _ _ (by assumption)) _ _ _ _ _ _ _ h
set_option maxHeartbeats 4000000 in
set_option maxRecDepth 20000 in
def jp_L_law_1593 (Ln : Nat) (xs : Nat → Int32) (Q : pw_W → Int32 → Prop) (X : pw_W → Nat → Prop) (K53 : Int32 → Int32 → Int32 → Int32 → Int32 → pw_W → Prop) (a2 a3 a5 a6 a8 a9 a10 : Int32) (w : pw_W) : Prop := (¬ a9 = 13 → wp_X_today w  (fun w39 r40 => wp_X_paid w39 a10 (fun w41 r42 => (¬ (a6 - a6 / 4 * 4) = 0 → jp_L_law_1684 Ln xs Q X K53 a2 a3 a5 a6 a9 a10 r40 r42 30 (a8 >>> (3 &&& 31)) 1 w41) ∧ ((a6 - a6 / 4 * 4) = 0 → jp_L_law_1684 Ln xs Q X K53 a2 a3 a5 a6 a9 a10 r40 r42 200 (a8 >>> (3 &&& 31)) 1 w41)) (fun _ _ => False)) (fun _ _ => False)) ∧ (a9 = 13 → ∀ v44, v44 = ((a8 >>> (3 &&& 31)) - (a8 >>> (3 &&& 31)) / 6 * 6) → wp_X_wind w v44 (fun w46 r47 => (r47 < 0 → jp_L_law_1644 Ln xs Q X K53 a2 a3 a5 a6 a9 w46) ∧ (¬ r47 < 0 → ((10 : Int32) ≤ r47 → jp_L_law_1644 Ln xs Q X K53 a2 a3 a5 a6 a9 w46) ∧ (¬ (10 : Int32) ≤ r47 → wp_X_wind w46 v44 (fun w50 r51 => (¬ r51 = v44 → jp_L_law_1644 Ln xs Q X K53 a2 a3 a5 a6 a9 w50) ∧ (r51 = v44 → jp_L_law_1645 Ln xs Q X K53 a2 a3 a5 a6 a9 1 w50)) (fun _ _ => False)))) (fun _ _ => False))
set_option maxHeartbeats 4000000 in
set_option maxRecDepth 20000 in
theorem vjp_L_law_1593 {l : Launch} {g : pw_G} {Q : pw_W → Int32 → Prop} {X : pw_W → Nat → Prop} {Ln : Nat} {xs : Nat → Int32} (hl0 : l.stackTraces = false) (hsc : pw_sc g Ln xs) {K53 : Int32 → Int32 → Int32 → Int32 → Int32 → pw_W → Prop} (hK53 : ∀ (a2 a3 a4 a5 a6 : Int32) (w : pw_W), K53 a2 a3 a4 a5 a6 w → pw_V l g cx_L_law Q X 53 [(3000, 0), (9, 0), (0, a2), (0, a3), (0, a4), (0, a5), (0, a6), (1, 0), (1, 0), (1, 0), (1, 0), (1, 0), (1, 0), (1, 0), (1, 0), (1, 0), (1, 0), (1, 0), (1, 0), (1, 0), (1, 0), (1, 0)] [] w) (a2 a3 a5 a6 a8 a9 a10 : Int32) (w : pw_W) (h : jp_L_law_1593 Ln xs Q X K53 a2 a3 a5 a6 a8 a9 a10 w) : pw_V l g cx_L_law Q X 1593 [(3000, 0), (9, 0), (0, a2), (0, a3), (1, 0), (0, a5), (0, a6), (1, 0), (0, a8), (0, a9), (0, a10), (1, 0), (1, 0), (1, 0), (1, 0), (1, 0), (1, 0), (1, 0), (1, 0), (1, 0), (1, 0), (1, 0)] [] w := by
  unfold jp_L_law_1593 at h
  refine pv_iload (n := 1595) d_L_law_1593 rfl rfl ?_
  refine pv_bipush (v := 13) (n := 1597) d_L_law_1595 (by decide) rfl ?_
  refine pv_icmp_ne (n := 1600) (tgt := 1650) d_L_law_1597 (by decide) rfl (fun c38 => ?_) (fun c38 => ?_)
  · replace h := h.1 c38
    refine pv_aload_n (n := 1651) d_L_law_1650 rfl rfl rfl ?_
    refine pv_callV (n := 1654) (x := 0) [] [] (con_X_today hl0 h) pw_cf7 rfl q_544 q_545 q_546 q_62 q_543 pyo_X_today (by decide) rfl rfl (by decide) d_L_law_1651 rfl (fun w39 r40 h _ => ?_) (fun _ _ h => h.elim)
    show pw_V l g cx_L_law Q X 1654 [(3000, 0), (9, 0), (0, a2), (0, a3), (1, 0), (0, a5), (0, a6), (1, 0), (0, a8), (0, a9), (0, a10), (1, 0), (1, 0), (1, 0), (1, 0), (1, 0), (1, 0), (1, 0), (1, 0), (1, 0), (1, 0), (1, 0)] [(0, r40)] w39
    refine pv_istore (n := 1656) (L' := [(3000, 0), (9, 0), (0, a2), (0, a3), (1, 0), (0, a5), (0, a6), (1, 0), (0, a8), (0, a9), (0, a10), (1, 0), (1, 0), (1, 0), (1, 0), (1, 0), (1, 0), (1, 0), (0, r40), (1, 0), (1, 0), (1, 0)]) d_L_law_1654 (by decide) rfl rfl ?_
    refine pv_aload_n (n := 1657) d_L_law_1656 rfl rfl rfl ?_
    refine pv_iload (n := 1659) d_L_law_1657 rfl rfl ?_
    refine pv_callV (n := 1662) (x := 0) [(0, a10)] [] (con_X_paid hl0 h) pw_cf7 rfl q_537 q_538 q_539 q_62 q_536 pyo_X_paid (by decide) rfl rfl (by decide) d_L_law_1659 rfl (fun w41 r42 h _ => ?_) (fun _ _ h => h.elim)
    show pw_V l g cx_L_law Q X 1662 [(3000, 0), (9, 0), (0, a2), (0, a3), (1, 0), (0, a5), (0, a6), (1, 0), (0, a8), (0, a9), (0, a10), (1, 0), (1, 0), (1, 0), (1, 0), (1, 0), (1, 0), (1, 0), (0, r40), (1, 0), (1, 0), (1, 0)] [(0, r42)] w41
    refine pv_istore (n := 1664) (L' := [(3000, 0), (9, 0), (0, a2), (0, a3), (1, 0), (0, a5), (0, a6), (1, 0), (0, a8), (0, a9), (0, a10), (1, 0), (1, 0), (1, 0), (1, 0), (1, 0), (1, 0), (1, 0), (0, r40), (0, r42), (1, 0), (1, 0)]) d_L_law_1662 (by decide) rfl rfl ?_
    refine pv_iconst (v := 1) (n := 1665) d_L_law_1664 (by decide) rfl ?_
    refine pv_iload (n := 1667) d_L_law_1665 rfl rfl ?_
    refine pv_iconst (v := 3) (n := 1668) d_L_law_1667 (by decide) rfl ?_
    refine pv_ishr (n := 1669) d_L_law_1668 rfl ?_
    refine pv_iload (n := 1671) d_L_law_1669 rfl rfl ?_
    refine pv_iconst (v := 4) (n := 1672) d_L_law_1671 (by decide) rfl ?_
    refine pv_irem (n := 1673) d_L_law_1672 (by decide) rfl ?_
    refine pv_if_ne (n := 1676) (tgt := 1682) d_L_law_1673 (by decide) rfl (fun c43 => ?_) (fun c43 => ?_)
    · replace h := h.1 c43
      refine pv_bipush (v := 30) (n := 1684) d_L_law_1682 (by decide) rfl ?_
      refine pv_unset (i := 8) (L1 := [(3000, 0), (9, 0), (0, a2), (0, a3), (1, 0), (0, a5), (0, a6), (1, 0), (1, 0), (0, a9), (0, a10), (1, 0), (1, 0), (1, 0), (1, 0), (1, 0), (1, 0), (1, 0), (0, r40), (0, r42), (1, 0), (1, 0)]) rfl ?_
      exact vjp_L_law_1684 hl0 hsc (by intros; exact hK53 _ _ _ _ _ _ (by assumption)) _ _ _ _ _ _ _ _ _ _ _ _ h
    · replace h := h.2 c43
      refine pv_sipush (v := 200) (n := 1679) d_L_law_1676 (by decide) rfl ?_
      refine pv_goto (tgt := 1684) d_L_law_1679 (by decide) ?_
      refine pv_unset (i := 8) (L1 := [(3000, 0), (9, 0), (0, a2), (0, a3), (1, 0), (0, a5), (0, a6), (1, 0), (1, 0), (0, a9), (0, a10), (1, 0), (1, 0), (1, 0), (1, 0), (1, 0), (1, 0), (1, 0), (0, r40), (0, r42), (1, 0), (1, 0)]) rfl ?_
      exact vjp_L_law_1684 hl0 hsc (by intros; exact hK53 _ _ _ _ _ _ (by assumption)) _ _ _ _ _ _ _ _ _ _ _ _ h
  · replace h := h.2 c38
    refine pv_iload (n := 1602) d_L_law_1600 rfl rfl ?_
    refine pv_iconst (v := 3) (n := 1603) d_L_law_1602 (by decide) rfl ?_
    refine pv_ishr (n := 1604) d_L_law_1603 rfl ?_
    refine pv_bipush (v := 6) (n := 1606) d_L_law_1604 (by decide) rfl ?_
    refine pv_irem (n := 1607) d_L_law_1606 (by decide) rfl ?_
    refine pv_nm (fun v44 e45 => ?_)
    replace h := h v44 e45
    refine pv_istore (n := 1609) (L' := [(3000, 0), (9, 0), (0, a2), (0, a3), (1, 0), (0, a5), (0, a6), (1, 0), (0, a8), (0, a9), (0, a10), (1, 0), (1, 0), (1, 0), (1, 0), (1, 0), (1, 0), (1, 0), (0, v44), (1, 0), (1, 0), (1, 0)]) d_L_law_1607 (by decide) rfl rfl ?_
    refine pv_aload_n (n := 1610) d_L_law_1609 rfl rfl rfl ?_
    refine pv_iload (n := 1612) d_L_law_1610 rfl rfl ?_
    refine pv_callV (n := 1615) (x := 0) [(0, v44)] [] (con_X_wind hl0 h) pw_cf7 rfl q_548 q_549 q_550 q_62 q_547 pyo_X_wind (by decide) rfl rfl (by decide) d_L_law_1612 rfl (fun w46 r47 h _ => ?_) (fun _ _ h => h.elim)
    show pw_V l g cx_L_law Q X 1615 [(3000, 0), (9, 0), (0, a2), (0, a3), (1, 0), (0, a5), (0, a6), (1, 0), (0, a8), (0, a9), (0, a10), (1, 0), (1, 0), (1, 0), (1, 0), (1, 0), (1, 0), (1, 0), (0, v44), (1, 0), (1, 0), (1, 0)] [(0, r47)] w46
    refine pv_istore (n := 1617) (L' := [(3000, 0), (9, 0), (0, a2), (0, a3), (1, 0), (0, a5), (0, a6), (1, 0), (0, a8), (0, a9), (0, a10), (1, 0), (1, 0), (1, 0), (1, 0), (1, 0), (1, 0), (1, 0), (0, v44), (0, r47), (1, 0), (1, 0)]) d_L_law_1615 (by decide) rfl rfl ?_
    refine pv_iload (n := 1619) d_L_law_1617 rfl rfl ?_
    refine pv_if_lt (n := 1622) (tgt := 1644) d_L_law_1619 (by decide) rfl (fun c48 => ?_) (fun c48 => ?_)
    · replace h := h.1 c48
      refine pv_unset (i := 8) (L1 := [(3000, 0), (9, 0), (0, a2), (0, a3), (1, 0), (0, a5), (0, a6), (1, 0), (1, 0), (0, a9), (0, a10), (1, 0), (1, 0), (1, 0), (1, 0), (1, 0), (1, 0), (1, 0), (0, v44), (0, r47), (1, 0), (1, 0)]) rfl ?_
      refine pv_unset (i := 10) (L1 := [(3000, 0), (9, 0), (0, a2), (0, a3), (1, 0), (0, a5), (0, a6), (1, 0), (1, 0), (0, a9), (1, 0), (1, 0), (1, 0), (1, 0), (1, 0), (1, 0), (1, 0), (1, 0), (0, v44), (0, r47), (1, 0), (1, 0)]) rfl ?_
      refine pv_unset (i := 18) (L1 := [(3000, 0), (9, 0), (0, a2), (0, a3), (1, 0), (0, a5), (0, a6), (1, 0), (1, 0), (0, a9), (1, 0), (1, 0), (1, 0), (1, 0), (1, 0), (1, 0), (1, 0), (1, 0), (1, 0), (0, r47), (1, 0), (1, 0)]) rfl ?_
      refine pv_unset (i := 19) (L1 := [(3000, 0), (9, 0), (0, a2), (0, a3), (1, 0), (0, a5), (0, a6), (1, 0), (1, 0), (0, a9), (1, 0), (1, 0), (1, 0), (1, 0), (1, 0), (1, 0), (1, 0), (1, 0), (1, 0), (1, 0), (1, 0), (1, 0)]) rfl ?_
      exact vjp_L_law_1644 hl0 hsc (by intros; exact hK53 _ _ _ _ _ _ (by assumption)) _ _ _ _ _ _ h
    · replace h := h.2 c48
      refine pv_iload (n := 1624) d_L_law_1622 rfl rfl ?_
      refine pv_bipush (v := 10) (n := 1626) d_L_law_1624 (by decide) rfl ?_
      refine pv_icmp_ge (n := 1629) (tgt := 1644) d_L_law_1626 (by decide) rfl (fun c49 => ?_) (fun c49 => ?_)
      · replace h := h.1 c49
        refine pv_unset (i := 8) (L1 := [(3000, 0), (9, 0), (0, a2), (0, a3), (1, 0), (0, a5), (0, a6), (1, 0), (1, 0), (0, a9), (0, a10), (1, 0), (1, 0), (1, 0), (1, 0), (1, 0), (1, 0), (1, 0), (0, v44), (0, r47), (1, 0), (1, 0)]) rfl ?_
        refine pv_unset (i := 10) (L1 := [(3000, 0), (9, 0), (0, a2), (0, a3), (1, 0), (0, a5), (0, a6), (1, 0), (1, 0), (0, a9), (1, 0), (1, 0), (1, 0), (1, 0), (1, 0), (1, 0), (1, 0), (1, 0), (0, v44), (0, r47), (1, 0), (1, 0)]) rfl ?_
        refine pv_unset (i := 18) (L1 := [(3000, 0), (9, 0), (0, a2), (0, a3), (1, 0), (0, a5), (0, a6), (1, 0), (1, 0), (0, a9), (1, 0), (1, 0), (1, 0), (1, 0), (1, 0), (1, 0), (1, 0), (1, 0), (1, 0), (0, r47), (1, 0), (1, 0)]) rfl ?_
        refine pv_unset (i := 19) (L1 := [(3000, 0), (9, 0), (0, a2), (0, a3), (1, 0), (0, a5), (0, a6), (1, 0), (1, 0), (0, a9), (1, 0), (1, 0), (1, 0), (1, 0), (1, 0), (1, 0), (1, 0), (1, 0), (1, 0), (1, 0), (1, 0), (1, 0)]) rfl ?_
        exact vjp_L_law_1644 hl0 hsc (by intros; exact hK53 _ _ _ _ _ _ (by assumption)) _ _ _ _ _ _ h
      · replace h := h.2 c49
        refine pv_aload_n (n := 1630) d_L_law_1629 rfl rfl rfl ?_
        refine pv_iload (n := 1632) d_L_law_1630 rfl rfl ?_
        refine pv_callV (n := 1635) (x := 0) [(0, v44)] [] (con_X_wind hl0 h) pw_cf7 rfl q_548 q_549 q_550 q_62 q_547 pyo_X_wind (by decide) rfl rfl (by decide) d_L_law_1632 rfl (fun w50 r51 h _ => ?_) (fun _ _ h => h.elim)
        show pw_V l g cx_L_law Q X 1635 [(3000, 0), (9, 0), (0, a2), (0, a3), (1, 0), (0, a5), (0, a6), (1, 0), (0, a8), (0, a9), (0, a10), (1, 0), (1, 0), (1, 0), (1, 0), (1, 0), (1, 0), (1, 0), (0, v44), (0, r47), (1, 0), (1, 0)] [(0, r51)] w50
        refine pv_iload (n := 1637) d_L_law_1635 rfl rfl ?_
        refine pv_icmp_ne (n := 1640) (tgt := 1644) d_L_law_1637 (by decide) rfl (fun c52 => ?_) (fun c52 => ?_)
        · replace h := h.1 c52
          refine pv_unset (i := 8) (L1 := [(3000, 0), (9, 0), (0, a2), (0, a3), (1, 0), (0, a5), (0, a6), (1, 0), (1, 0), (0, a9), (0, a10), (1, 0), (1, 0), (1, 0), (1, 0), (1, 0), (1, 0), (1, 0), (0, v44), (0, r47), (1, 0), (1, 0)]) rfl ?_
          refine pv_unset (i := 10) (L1 := [(3000, 0), (9, 0), (0, a2), (0, a3), (1, 0), (0, a5), (0, a6), (1, 0), (1, 0), (0, a9), (1, 0), (1, 0), (1, 0), (1, 0), (1, 0), (1, 0), (1, 0), (1, 0), (0, v44), (0, r47), (1, 0), (1, 0)]) rfl ?_
          refine pv_unset (i := 18) (L1 := [(3000, 0), (9, 0), (0, a2), (0, a3), (1, 0), (0, a5), (0, a6), (1, 0), (1, 0), (0, a9), (1, 0), (1, 0), (1, 0), (1, 0), (1, 0), (1, 0), (1, 0), (1, 0), (1, 0), (0, r47), (1, 0), (1, 0)]) rfl ?_
          refine pv_unset (i := 19) (L1 := [(3000, 0), (9, 0), (0, a2), (0, a3), (1, 0), (0, a5), (0, a6), (1, 0), (1, 0), (0, a9), (1, 0), (1, 0), (1, 0), (1, 0), (1, 0), (1, 0), (1, 0), (1, 0), (1, 0), (1, 0), (1, 0), (1, 0)]) rfl ?_
          exact vjp_L_law_1644 hl0 hsc (by intros; exact hK53 _ _ _ _ _ _ (by assumption)) _ _ _ _ _ _ h
        · replace h := h.2 c52
          refine pv_iconst (v := 1) (n := 1641) d_L_law_1640 (by decide) rfl ?_
          refine pv_goto (tgt := 1645) d_L_law_1641 (by decide) ?_
          refine pv_unset (i := 8) (L1 := [(3000, 0), (9, 0), (0, a2), (0, a3), (1, 0), (0, a5), (0, a6), (1, 0), (1, 0), (0, a9), (0, a10), (1, 0), (1, 0), (1, 0), (1, 0), (1, 0), (1, 0), (1, 0), (0, v44), (0, r47), (1, 0), (1, 0)]) rfl ?_
          refine pv_unset (i := 10) (L1 := [(3000, 0), (9, 0), (0, a2), (0, a3), (1, 0), (0, a5), (0, a6), (1, 0), (1, 0), (0, a9), (1, 0), (1, 0), (1, 0), (1, 0), (1, 0), (1, 0), (1, 0), (1, 0), (0, v44), (0, r47), (1, 0), (1, 0)]) rfl ?_
          refine pv_unset (i := 18) (L1 := [(3000, 0), (9, 0), (0, a2), (0, a3), (1, 0), (0, a5), (0, a6), (1, 0), (1, 0), (0, a9), (1, 0), (1, 0), (1, 0), (1, 0), (1, 0), (1, 0), (1, 0), (1, 0), (1, 0), (0, r47), (1, 0), (1, 0)]) rfl ?_
          refine pv_unset (i := 19) (L1 := [(3000, 0), (9, 0), (0, a2), (0, a3), (1, 0), (0, a5), (0, a6), (1, 0), (1, 0), (0, a9), (1, 0), (1, 0), (1, 0), (1, 0), (1, 0), (1, 0), (1, 0), (1, 0), (1, 0), (1, 0), (1, 0), (1, 0)]) rfl ?_
          exact vjp_L_law_1645 hl0 hsc (by intros; exact hK53 _ _ _ _ _ _ (by assumption)) _ _ _ _ _ _ _ h
set_option maxHeartbeats 4000000 in
set_option maxRecDepth 20000 in
def jp_L_law_1588 (Ln : Nat) (xs : Nat → Int32) (Q : pw_W → Int32 → Prop) (X : pw_W → Nat → Prop) (K53 : Int32 → Int32 → Int32 → Int32 → Int32 → pw_W → Prop) (a2 a3 a5 a6 a9 s0 : Int32) (w : pw_W) : Prop := ∃ k53, lp_L_law_1781 Ln xs Q X K53 k53 a2 a3 s0 a5 a6 a9 w
set_option maxHeartbeats 4000000 in
set_option maxRecDepth 20000 in
theorem vjp_L_law_1588 {l : Launch} {g : pw_G} {Q : pw_W → Int32 → Prop} {X : pw_W → Nat → Prop} {Ln : Nat} {xs : Nat → Int32} (hl0 : l.stackTraces = false) (hsc : pw_sc g Ln xs) {K53 : Int32 → Int32 → Int32 → Int32 → Int32 → pw_W → Prop} (hK53 : ∀ (a2 a3 a4 a5 a6 : Int32) (w : pw_W), K53 a2 a3 a4 a5 a6 w → pw_V l g cx_L_law Q X 53 [(3000, 0), (9, 0), (0, a2), (0, a3), (0, a4), (0, a5), (0, a6), (1, 0), (1, 0), (1, 0), (1, 0), (1, 0), (1, 0), (1, 0), (1, 0), (1, 0), (1, 0), (1, 0), (1, 0), (1, 0), (1, 0), (1, 0)] [] w) (a2 a3 a5 a6 a9 s0 : Int32) (w : pw_W) (h : jp_L_law_1588 Ln xs Q X K53 a2 a3 a5 a6 a9 s0 w) : pw_V l g cx_L_law Q X 1588 [(3000, 0), (9, 0), (0, a2), (0, a3), (1, 0), (0, a5), (0, a6), (1, 0), (1, 0), (0, a9), (1, 0), (1, 0), (1, 0), (1, 0), (1, 0), (1, 0), (1, 0), (1, 0), (1, 0), (1, 0), (1, 0), (1, 0)] [(0, s0)] w := by
  unfold jp_L_law_1588 at h
  refine pv_istore (n := 1590) (L' := [(3000, 0), (9, 0), (0, a2), (0, a3), (0, s0), (0, a5), (0, a6), (1, 0), (1, 0), (0, a9), (1, 0), (1, 0), (1, 0), (1, 0), (1, 0), (1, 0), (1, 0), (1, 0), (1, 0), (1, 0), (1, 0), (1, 0)]) d_L_law_1588 (by decide) rfl rfl ?_
  refine pv_goto (tgt := 1781) d_L_law_1590 (by decide) ?_
  obtain ⟨k53, h⟩ := h
  exact vlp_L_law_1781 hl0 hsc (by intros; exact hK53 _ _ _ _ _ _ (by assumption)) _ _ _ _ _ _ _ _ h
set_option maxHeartbeats 4000000 in
set_option maxRecDepth 20000 in
def jp_L_law_1587 (Ln : Nat) (xs : Nat → Int32) (Q : pw_W → Int32 → Prop) (X : pw_W → Nat → Prop) (K53 : Int32 → Int32 → Int32 → Int32 → Int32 → pw_W → Prop) (a2 a3 a5 a6 a9 : Int32) (w : pw_W) : Prop := jp_L_law_1588 Ln xs Q X K53 a2 a3 a5 a6 a9 0 w
set_option maxHeartbeats 4000000 in
set_option maxRecDepth 20000 in
theorem vjp_L_law_1587 {l : Launch} {g : pw_G} {Q : pw_W → Int32 → Prop} {X : pw_W → Nat → Prop} {Ln : Nat} {xs : Nat → Int32} (hl0 : l.stackTraces = false) (hsc : pw_sc g Ln xs) {K53 : Int32 → Int32 → Int32 → Int32 → Int32 → pw_W → Prop} (hK53 : ∀ (a2 a3 a4 a5 a6 : Int32) (w : pw_W), K53 a2 a3 a4 a5 a6 w → pw_V l g cx_L_law Q X 53 [(3000, 0), (9, 0), (0, a2), (0, a3), (0, a4), (0, a5), (0, a6), (1, 0), (1, 0), (1, 0), (1, 0), (1, 0), (1, 0), (1, 0), (1, 0), (1, 0), (1, 0), (1, 0), (1, 0), (1, 0), (1, 0), (1, 0)] [] w) (a2 a3 a5 a6 a9 : Int32) (w : pw_W) (h : jp_L_law_1587 Ln xs Q X K53 a2 a3 a5 a6 a9 w) : pw_V l g cx_L_law Q X 1587 [(3000, 0), (9, 0), (0, a2), (0, a3), (1, 0), (0, a5), (0, a6), (1, 0), (1, 0), (0, a9), (1, 0), (1, 0), (1, 0), (1, 0), (1, 0), (1, 0), (1, 0), (1, 0), (1, 0), (1, 0), (1, 0), (1, 0)] [] w := by
  unfold jp_L_law_1587 at h
  refine pv_iconst (v := 0) (n := 1588) d_L_law_1587 (by decide) rfl ?_
  exact vjp_L_law_1588 hl0 hsc (by intros; exact hK53 _ _ _ _ _ _ (by assumption)) _ _ _ _ _ _ _ h
set_option maxHeartbeats 4000000 in
set_option maxRecDepth 20000 in
def jp_L_law_1583 (Ln : Nat) (xs : Nat → Int32) (Q : pw_W → Int32 → Prop) (X : pw_W → Nat → Prop) (K53 : Int32 → Int32 → Int32 → Int32 → Int32 → pw_W → Prop) (a2 a3 a5 a6 a9 : Int32) (w : pw_W) : Prop := jp_L_law_1588 Ln xs Q X K53 a2 a3 a5 a6 a9 1 w
set_option maxHeartbeats 4000000 in
set_option maxRecDepth 20000 in
theorem vjp_L_law_1583 {l : Launch} {g : pw_G} {Q : pw_W → Int32 → Prop} {X : pw_W → Nat → Prop} {Ln : Nat} {xs : Nat → Int32} (hl0 : l.stackTraces = false) (hsc : pw_sc g Ln xs) {K53 : Int32 → Int32 → Int32 → Int32 → Int32 → pw_W → Prop} (hK53 : ∀ (a2 a3 a4 a5 a6 : Int32) (w : pw_W), K53 a2 a3 a4 a5 a6 w → pw_V l g cx_L_law Q X 53 [(3000, 0), (9, 0), (0, a2), (0, a3), (0, a4), (0, a5), (0, a6), (1, 0), (1, 0), (1, 0), (1, 0), (1, 0), (1, 0), (1, 0), (1, 0), (1, 0), (1, 0), (1, 0), (1, 0), (1, 0), (1, 0), (1, 0)] [] w) (a2 a3 a5 a6 a9 : Int32) (w : pw_W) (h : jp_L_law_1583 Ln xs Q X K53 a2 a3 a5 a6 a9 w) : pw_V l g cx_L_law Q X 1583 [(3000, 0), (9, 0), (0, a2), (0, a3), (1, 0), (0, a5), (0, a6), (1, 0), (1, 0), (0, a9), (1, 0), (1, 0), (1, 0), (1, 0), (1, 0), (1, 0), (1, 0), (1, 0), (1, 0), (1, 0), (1, 0), (1, 0)] [] w := by
  unfold jp_L_law_1583 at h
  refine pv_iconst (v := 1) (n := 1584) d_L_law_1583 (by decide) rfl ?_
  refine pv_goto (tgt := 1588) d_L_law_1584 (by decide) ?_
  exact vjp_L_law_1588 hl0 hsc (by intros; exact hK53 _ _ _ _ _ _ (by assumption)) _ _ _ _ _ _ _ h
set_option maxHeartbeats 4000000 in
set_option maxRecDepth 20000 in
def jp_L_law_1562 (Ln : Nat) (xs : Nat → Int32) (Q : pw_W → Int32 → Prop) (X : pw_W → Nat → Prop) (K53 : Int32 → Int32 → Int32 → Int32 → Int32 → pw_W → Prop) (a2 a3 a5 a6 a9 s0 : Int32) (w : pw_W) : Prop := (s0 = (-13) → jp_L_law_1583 Ln xs Q X K53 a2 a3 a5 a6 a9 w) ∧ (¬ s0 = (-13) → (s0 < 0 → jp_L_law_1587 Ln xs Q X K53 a2 a3 a5 a6 a9 w) ∧ (¬ s0 < 0 → ((40 : Int32) < s0 → jp_L_law_1587 Ln xs Q X K53 a2 a3 a5 a6 a9 w) ∧ (¬ (40 : Int32) < s0 → jp_L_law_1583 Ln xs Q X K53 a2 a3 a5 a6 a9 w)))
set_option maxHeartbeats 4000000 in
set_option maxRecDepth 20000 in
theorem vjp_L_law_1562 {l : Launch} {g : pw_G} {Q : pw_W → Int32 → Prop} {X : pw_W → Nat → Prop} {Ln : Nat} {xs : Nat → Int32} (hl0 : l.stackTraces = false) (hsc : pw_sc g Ln xs) {K53 : Int32 → Int32 → Int32 → Int32 → Int32 → pw_W → Prop} (hK53 : ∀ (a2 a3 a4 a5 a6 : Int32) (w : pw_W), K53 a2 a3 a4 a5 a6 w → pw_V l g cx_L_law Q X 53 [(3000, 0), (9, 0), (0, a2), (0, a3), (0, a4), (0, a5), (0, a6), (1, 0), (1, 0), (1, 0), (1, 0), (1, 0), (1, 0), (1, 0), (1, 0), (1, 0), (1, 0), (1, 0), (1, 0), (1, 0), (1, 0), (1, 0)] [] w) (a2 a3 a5 a6 a9 s0 : Int32) (w : pw_W) (h : jp_L_law_1562 Ln xs Q X K53 a2 a3 a5 a6 a9 s0 w) : pw_V l g cx_L_law Q X 1562 [(3000, 0), (9, 0), (0, a2), (0, a3), (1, 0), (0, a5), (0, a6), (1, 0), (1, 0), (0, a9), (1, 0), (1, 0), (1, 0), (1, 0), (1, 0), (1, 0), (1, 0), (1, 0), (1, 0), (1, 0), (1, 0), (1, 0)] [(0, s0)] w := by
  unfold jp_L_law_1562 at h
  refine pv_istore (n := 1564) (L' := [(3000, 0), (9, 0), (0, a2), (0, a3), (1, 0), (0, a5), (0, a6), (1, 0), (1, 0), (0, a9), (1, 0), (1, 0), (1, 0), (1, 0), (1, 0), (1, 0), (1, 0), (0, s0), (1, 0), (1, 0), (1, 0), (1, 0)]) d_L_law_1562 (by decide) rfl rfl ?_
  refine pv_iload (n := 1566) d_L_law_1564 rfl rfl ?_
  refine pv_bipush (v := -13) (n := 1568) d_L_law_1566 (by decide) rfl ?_
  refine pv_icmp_eq (n := 1571) (tgt := 1583) d_L_law_1568 (by decide) rfl (fun c54 => ?_) (fun c54 => ?_)
  · replace h := h.1 c54
    refine pv_unset (i := 17) (L1 := [(3000, 0), (9, 0), (0, a2), (0, a3), (1, 0), (0, a5), (0, a6), (1, 0), (1, 0), (0, a9), (1, 0), (1, 0), (1, 0), (1, 0), (1, 0), (1, 0), (1, 0), (1, 0), (1, 0), (1, 0), (1, 0), (1, 0)]) rfl ?_
    exact vjp_L_law_1583 hl0 hsc (by intros; exact hK53 _ _ _ _ _ _ (by assumption)) _ _ _ _ _ _ h
  · replace h := h.2 c54
    refine pv_iload (n := 1573) d_L_law_1571 rfl rfl ?_
    refine pv_if_lt (n := 1576) (tgt := 1587) d_L_law_1573 (by decide) rfl (fun c55 => ?_) (fun c55 => ?_)
    · replace h := h.1 c55
      refine pv_unset (i := 17) (L1 := [(3000, 0), (9, 0), (0, a2), (0, a3), (1, 0), (0, a5), (0, a6), (1, 0), (1, 0), (0, a9), (1, 0), (1, 0), (1, 0), (1, 0), (1, 0), (1, 0), (1, 0), (1, 0), (1, 0), (1, 0), (1, 0), (1, 0)]) rfl ?_
      exact vjp_L_law_1587 hl0 hsc (by intros; exact hK53 _ _ _ _ _ _ (by assumption)) _ _ _ _ _ _ h
    · replace h := h.2 c55
      refine pv_iload (n := 1578) d_L_law_1576 rfl rfl ?_
      refine pv_bipush (v := 40) (n := 1580) d_L_law_1578 (by decide) rfl ?_
      refine pv_icmp_gt (n := 1583) (tgt := 1587) d_L_law_1580 (by decide) rfl (fun c56 => ?_) (fun c56 => ?_)
      · replace h := h.1 c56
        refine pv_unset (i := 17) (L1 := [(3000, 0), (9, 0), (0, a2), (0, a3), (1, 0), (0, a5), (0, a6), (1, 0), (1, 0), (0, a9), (1, 0), (1, 0), (1, 0), (1, 0), (1, 0), (1, 0), (1, 0), (1, 0), (1, 0), (1, 0), (1, 0), (1, 0)]) rfl ?_
        exact vjp_L_law_1587 hl0 hsc (by intros; exact hK53 _ _ _ _ _ _ (by assumption)) _ _ _ _ _ _ h
      · replace h := h.2 c56
        refine pv_unset (i := 17) (L1 := [(3000, 0), (9, 0), (0, a2), (0, a3), (1, 0), (0, a5), (0, a6), (1, 0), (1, 0), (0, a9), (1, 0), (1, 0), (1, 0), (1, 0), (1, 0), (1, 0), (1, 0), (1, 0), (1, 0), (1, 0), (1, 0), (1, 0)]) rfl ?_
        exact vjp_L_law_1583 hl0 hsc (by intros; exact hK53 _ _ _ _ _ _ (by assumption)) _ _ _ _ _ _ h
set_option maxHeartbeats 4000000 in
set_option maxRecDepth 20000 in
def jp_L_law_1498 (Ln : Nat) (xs : Nat → Int32) (Q : pw_W → Int32 → Prop) (X : pw_W → Nat → Prop) (K53 : Int32 → Int32 → Int32 → Int32 → Int32 → pw_W → Prop) (a2 a3 a5 a6 a9 s0 : Int32) (w : pw_W) : Prop := ∃ k57, lp_L_law_1781 Ln xs Q X K53 k57 a2 a3 s0 a5 a6 a9 w
set_option maxHeartbeats 4000000 in
set_option maxRecDepth 20000 in
theorem vjp_L_law_1498 {l : Launch} {g : pw_G} {Q : pw_W → Int32 → Prop} {X : pw_W → Nat → Prop} {Ln : Nat} {xs : Nat → Int32} (hl0 : l.stackTraces = false) (hsc : pw_sc g Ln xs) {K53 : Int32 → Int32 → Int32 → Int32 → Int32 → pw_W → Prop} (hK53 : ∀ (a2 a3 a4 a5 a6 : Int32) (w : pw_W), K53 a2 a3 a4 a5 a6 w → pw_V l g cx_L_law Q X 53 [(3000, 0), (9, 0), (0, a2), (0, a3), (0, a4), (0, a5), (0, a6), (1, 0), (1, 0), (1, 0), (1, 0), (1, 0), (1, 0), (1, 0), (1, 0), (1, 0), (1, 0), (1, 0), (1, 0), (1, 0), (1, 0), (1, 0)] [] w) (a2 a3 a5 a6 a9 s0 : Int32) (w : pw_W) (h : jp_L_law_1498 Ln xs Q X K53 a2 a3 a5 a6 a9 s0 w) : pw_V l g cx_L_law Q X 1498 [(3000, 0), (9, 0), (0, a2), (0, a3), (1, 0), (0, a5), (0, a6), (1, 0), (1, 0), (0, a9), (1, 0), (1, 0), (1, 0), (1, 0), (1, 0), (1, 0), (1, 0), (1, 0), (1, 0), (1, 0), (1, 0), (1, 0)] [(0, s0)] w := by
  unfold jp_L_law_1498 at h
  refine pv_istore (n := 1500) (L' := [(3000, 0), (9, 0), (0, a2), (0, a3), (0, s0), (0, a5), (0, a6), (1, 0), (1, 0), (0, a9), (1, 0), (1, 0), (1, 0), (1, 0), (1, 0), (1, 0), (1, 0), (1, 0), (1, 0), (1, 0), (1, 0), (1, 0)]) d_L_law_1498 (by decide) rfl rfl ?_
  refine pv_goto (tgt := 1781) d_L_law_1500 (by decide) ?_
  obtain ⟨k57, h⟩ := h
  exact vlp_L_law_1781 hl0 hsc (by intros; exact hK53 _ _ _ _ _ _ (by assumption)) _ _ _ _ _ _ _ _ h
set_option maxHeartbeats 4000000 in
set_option maxRecDepth 20000 in
def jp_L_law_1497 (Ln : Nat) (xs : Nat → Int32) (Q : pw_W → Int32 → Prop) (X : pw_W → Nat → Prop) (K53 : Int32 → Int32 → Int32 → Int32 → Int32 → pw_W → Prop) (a2 a3 a5 a6 a9 : Int32) (w : pw_W) : Prop := jp_L_law_1498 Ln xs Q X K53 a2 a3 a5 a6 a9 0 w
set_option maxHeartbeats 4000000 in
set_option maxRecDepth 20000 in
theorem vjp_L_law_1497 {l : Launch} {g : pw_G} {Q : pw_W → Int32 → Prop} {X : pw_W → Nat → Prop} {Ln : Nat} {xs : Nat → Int32} (hl0 : l.stackTraces = false) (hsc : pw_sc g Ln xs) {K53 : Int32 → Int32 → Int32 → Int32 → Int32 → pw_W → Prop} (hK53 : ∀ (a2 a3 a4 a5 a6 : Int32) (w : pw_W), K53 a2 a3 a4 a5 a6 w → pw_V l g cx_L_law Q X 53 [(3000, 0), (9, 0), (0, a2), (0, a3), (0, a4), (0, a5), (0, a6), (1, 0), (1, 0), (1, 0), (1, 0), (1, 0), (1, 0), (1, 0), (1, 0), (1, 0), (1, 0), (1, 0), (1, 0), (1, 0), (1, 0), (1, 0)] [] w) (a2 a3 a5 a6 a9 : Int32) (w : pw_W) (h : jp_L_law_1497 Ln xs Q X K53 a2 a3 a5 a6 a9 w) : pw_V l g cx_L_law Q X 1497 [(3000, 0), (9, 0), (0, a2), (0, a3), (1, 0), (0, a5), (0, a6), (1, 0), (1, 0), (0, a9), (1, 0), (1, 0), (1, 0), (1, 0), (1, 0), (1, 0), (1, 0), (1, 0), (1, 0), (1, 0), (1, 0), (1, 0)] [] w := by
  unfold jp_L_law_1497 at h
  refine pv_iconst (v := 0) (n := 1498) d_L_law_1497 (by decide) rfl ?_
  exact vjp_L_law_1498 hl0 hsc (by intros; exact hK53 _ _ _ _ _ _ (by assumption)) _ _ _ _ _ _ _ h
set_option maxHeartbeats 4000000 in
set_option maxRecDepth 20000 in
def jp_L_law_1493 (Ln : Nat) (xs : Nat → Int32) (Q : pw_W → Int32 → Prop) (X : pw_W → Nat → Prop) (K53 : Int32 → Int32 → Int32 → Int32 → Int32 → pw_W → Prop) (a2 a3 a5 a6 a9 : Int32) (w : pw_W) : Prop := jp_L_law_1498 Ln xs Q X K53 a2 a3 a5 a6 a9 1 w
set_option maxHeartbeats 4000000 in
set_option maxRecDepth 20000 in
theorem vjp_L_law_1493 {l : Launch} {g : pw_G} {Q : pw_W → Int32 → Prop} {X : pw_W → Nat → Prop} {Ln : Nat} {xs : Nat → Int32} (hl0 : l.stackTraces = false) (hsc : pw_sc g Ln xs) {K53 : Int32 → Int32 → Int32 → Int32 → Int32 → pw_W → Prop} (hK53 : ∀ (a2 a3 a4 a5 a6 : Int32) (w : pw_W), K53 a2 a3 a4 a5 a6 w → pw_V l g cx_L_law Q X 53 [(3000, 0), (9, 0), (0, a2), (0, a3), (0, a4), (0, a5), (0, a6), (1, 0), (1, 0), (1, 0), (1, 0), (1, 0), (1, 0), (1, 0), (1, 0), (1, 0), (1, 0), (1, 0), (1, 0), (1, 0), (1, 0), (1, 0)] [] w) (a2 a3 a5 a6 a9 : Int32) (w : pw_W) (h : jp_L_law_1493 Ln xs Q X K53 a2 a3 a5 a6 a9 w) : pw_V l g cx_L_law Q X 1493 [(3000, 0), (9, 0), (0, a2), (0, a3), (1, 0), (0, a5), (0, a6), (1, 0), (1, 0), (0, a9), (1, 0), (1, 0), (1, 0), (1, 0), (1, 0), (1, 0), (1, 0), (1, 0), (1, 0), (1, 0), (1, 0), (1, 0)] [] w := by
  unfold jp_L_law_1493 at h
  refine pv_iconst (v := 1) (n := 1494) d_L_law_1493 (by decide) rfl ?_
  refine pv_goto (tgt := 1498) d_L_law_1494 (by decide) ?_
  exact vjp_L_law_1498 hl0 hsc (by intros; exact hK53 _ _ _ _ _ _ (by assumption)) _ _ _ _ _ _ _ h
set_option maxHeartbeats 4000000 in
set_option maxRecDepth 20000 in
def jp_L_law_1463 (Ln : Nat) (xs : Nat → Int32) (Q : pw_W → Int32 → Prop) (X : pw_W → Nat → Prop) (K53 : Int32 → Int32 → Int32 → Int32 → Int32 → pw_W → Prop) (a2 a3 a5 a6 a9 a15 a17 a19 s0 s1 : Int32) (w : pw_W) : Prop := (¬ s1 = s0 → jp_L_law_1497 Ln xs Q X K53 a2 a3 a5 a6 a9 w) ∧ (s1 = s0 → wp_X_square w a15 0 (fun w59 r60 => (¬ r60 = a17 → jp_L_law_1497 Ln xs Q X K53 a2 a3 a5 a6 a9 w59) ∧ (r60 = a17 → (¬ a19 = 0 → jp_L_law_1493 Ln xs Q X K53 a2 a3 a5 a6 a9 w59) ∧ (a19 = 0 → wp_X_square w59 a15 2 (fun w63 r64 => (¬ r64 = 0 → jp_L_law_1497 Ln xs Q X K53 a2 a3 a5 a6 a9 w63) ∧ (r64 = 0 → jp_L_law_1493 Ln xs Q X K53 a2 a3 a5 a6 a9 w63)) (fun _ _ => False)))) (fun _ _ => False))
set_option maxHeartbeats 4000000 in
set_option maxRecDepth 20000 in
theorem vjp_L_law_1463 {l : Launch} {g : pw_G} {Q : pw_W → Int32 → Prop} {X : pw_W → Nat → Prop} {Ln : Nat} {xs : Nat → Int32} (hl0 : l.stackTraces = false) (hsc : pw_sc g Ln xs) {K53 : Int32 → Int32 → Int32 → Int32 → Int32 → pw_W → Prop} (hK53 : ∀ (a2 a3 a4 a5 a6 : Int32) (w : pw_W), K53 a2 a3 a4 a5 a6 w → pw_V l g cx_L_law Q X 53 [(3000, 0), (9, 0), (0, a2), (0, a3), (0, a4), (0, a5), (0, a6), (1, 0), (1, 0), (1, 0), (1, 0), (1, 0), (1, 0), (1, 0), (1, 0), (1, 0), (1, 0), (1, 0), (1, 0), (1, 0), (1, 0), (1, 0)] [] w) (a2 a3 a5 a6 a9 a15 a17 a19 s0 s1 : Int32) (w : pw_W) (h : jp_L_law_1463 Ln xs Q X K53 a2 a3 a5 a6 a9 a15 a17 a19 s0 s1 w) : pw_V l g cx_L_law Q X 1463 [(3000, 0), (9, 0), (0, a2), (0, a3), (1, 0), (0, a5), (0, a6), (1, 0), (1, 0), (0, a9), (1, 0), (1, 0), (1, 0), (1, 0), (1, 0), (0, a15), (1, 0), (0, a17), (1, 0), (0, a19), (1, 0), (1, 0)] [(0, s0), (0, s1)] w := by
  unfold jp_L_law_1463 at h
  refine pv_icmp_ne (n := 1466) (tgt := 1497) d_L_law_1463 (by decide) rfl (fun c58 => ?_) (fun c58 => ?_)
  · replace h := h.1 c58
    refine pv_unset (i := 15) (L1 := [(3000, 0), (9, 0), (0, a2), (0, a3), (1, 0), (0, a5), (0, a6), (1, 0), (1, 0), (0, a9), (1, 0), (1, 0), (1, 0), (1, 0), (1, 0), (1, 0), (1, 0), (0, a17), (1, 0), (0, a19), (1, 0), (1, 0)]) rfl ?_
    refine pv_unset (i := 17) (L1 := [(3000, 0), (9, 0), (0, a2), (0, a3), (1, 0), (0, a5), (0, a6), (1, 0), (1, 0), (0, a9), (1, 0), (1, 0), (1, 0), (1, 0), (1, 0), (1, 0), (1, 0), (1, 0), (1, 0), (0, a19), (1, 0), (1, 0)]) rfl ?_
    refine pv_unset (i := 19) (L1 := [(3000, 0), (9, 0), (0, a2), (0, a3), (1, 0), (0, a5), (0, a6), (1, 0), (1, 0), (0, a9), (1, 0), (1, 0), (1, 0), (1, 0), (1, 0), (1, 0), (1, 0), (1, 0), (1, 0), (1, 0), (1, 0), (1, 0)]) rfl ?_
    exact vjp_L_law_1497 hl0 hsc (by intros; exact hK53 _ _ _ _ _ _ (by assumption)) _ _ _ _ _ _ h
  · replace h := h.2 c58
    refine pv_aload_n (n := 1467) d_L_law_1466 rfl rfl rfl ?_
    refine pv_iload (n := 1469) d_L_law_1467 rfl rfl ?_
    refine pv_iconst (v := 0) (n := 1470) d_L_law_1469 (by decide) rfl ?_
    refine pv_callV (n := 1473) (x := 0) [(0, a15), (0, 0)] [] (con_X_square hl0 h) pw_cf7 rfl q_505 q_506 q_507 q_62 q_504 pyo_X_square (by decide) rfl rfl (by decide) d_L_law_1470 rfl (fun w59 r60 h _ => ?_) (fun _ _ h => h.elim)
    show pw_V l g cx_L_law Q X 1473 [(3000, 0), (9, 0), (0, a2), (0, a3), (1, 0), (0, a5), (0, a6), (1, 0), (1, 0), (0, a9), (1, 0), (1, 0), (1, 0), (1, 0), (1, 0), (0, a15), (1, 0), (0, a17), (1, 0), (0, a19), (1, 0), (1, 0)] [(0, r60)] w59
    refine pv_iload (n := 1475) d_L_law_1473 rfl rfl ?_
    refine pv_icmp_ne (n := 1478) (tgt := 1497) d_L_law_1475 (by decide) rfl (fun c61 => ?_) (fun c61 => ?_)
    · replace h := h.1 c61
      refine pv_unset (i := 15) (L1 := [(3000, 0), (9, 0), (0, a2), (0, a3), (1, 0), (0, a5), (0, a6), (1, 0), (1, 0), (0, a9), (1, 0), (1, 0), (1, 0), (1, 0), (1, 0), (1, 0), (1, 0), (0, a17), (1, 0), (0, a19), (1, 0), (1, 0)]) rfl ?_
      refine pv_unset (i := 17) (L1 := [(3000, 0), (9, 0), (0, a2), (0, a3), (1, 0), (0, a5), (0, a6), (1, 0), (1, 0), (0, a9), (1, 0), (1, 0), (1, 0), (1, 0), (1, 0), (1, 0), (1, 0), (1, 0), (1, 0), (0, a19), (1, 0), (1, 0)]) rfl ?_
      refine pv_unset (i := 19) (L1 := [(3000, 0), (9, 0), (0, a2), (0, a3), (1, 0), (0, a5), (0, a6), (1, 0), (1, 0), (0, a9), (1, 0), (1, 0), (1, 0), (1, 0), (1, 0), (1, 0), (1, 0), (1, 0), (1, 0), (1, 0), (1, 0), (1, 0)]) rfl ?_
      exact vjp_L_law_1497 hl0 hsc (by intros; exact hK53 _ _ _ _ _ _ (by assumption)) _ _ _ _ _ _ h
    · replace h := h.2 c61
      refine pv_iload (n := 1480) d_L_law_1478 rfl rfl ?_
      refine pv_if_ne (n := 1483) (tgt := 1493) d_L_law_1480 (by decide) rfl (fun c62 => ?_) (fun c62 => ?_)
      · replace h := h.1 c62
        refine pv_unset (i := 15) (L1 := [(3000, 0), (9, 0), (0, a2), (0, a3), (1, 0), (0, a5), (0, a6), (1, 0), (1, 0), (0, a9), (1, 0), (1, 0), (1, 0), (1, 0), (1, 0), (1, 0), (1, 0), (0, a17), (1, 0), (0, a19), (1, 0), (1, 0)]) rfl ?_
        refine pv_unset (i := 17) (L1 := [(3000, 0), (9, 0), (0, a2), (0, a3), (1, 0), (0, a5), (0, a6), (1, 0), (1, 0), (0, a9), (1, 0), (1, 0), (1, 0), (1, 0), (1, 0), (1, 0), (1, 0), (1, 0), (1, 0), (0, a19), (1, 0), (1, 0)]) rfl ?_
        refine pv_unset (i := 19) (L1 := [(3000, 0), (9, 0), (0, a2), (0, a3), (1, 0), (0, a5), (0, a6), (1, 0), (1, 0), (0, a9), (1, 0), (1, 0), (1, 0), (1, 0), (1, 0), (1, 0), (1, 0), (1, 0), (1, 0), (1, 0), (1, 0), (1, 0)]) rfl ?_
        exact vjp_L_law_1493 hl0 hsc (by intros; exact hK53 _ _ _ _ _ _ (by assumption)) _ _ _ _ _ _ h
      · replace h := h.2 c62
        refine pv_aload_n (n := 1484) d_L_law_1483 rfl rfl rfl ?_
        refine pv_iload (n := 1486) d_L_law_1484 rfl rfl ?_
        refine pv_iconst (v := 2) (n := 1487) d_L_law_1486 (by decide) rfl ?_
        refine pv_callV (n := 1490) (x := 0) [(0, a15), (0, 2)] [] (con_X_square hl0 h) pw_cf7 rfl q_505 q_506 q_507 q_62 q_504 pyo_X_square (by decide) rfl rfl (by decide) d_L_law_1487 rfl (fun w63 r64 h _ => ?_) (fun _ _ h => h.elim)
        show pw_V l g cx_L_law Q X 1490 [(3000, 0), (9, 0), (0, a2), (0, a3), (1, 0), (0, a5), (0, a6), (1, 0), (1, 0), (0, a9), (1, 0), (1, 0), (1, 0), (1, 0), (1, 0), (0, a15), (1, 0), (0, a17), (1, 0), (0, a19), (1, 0), (1, 0)] [(0, r64)] w63
        refine pv_if_ne (n := 1493) (tgt := 1497) d_L_law_1490 (by decide) rfl (fun c65 => ?_) (fun c65 => ?_)
        · replace h := h.1 c65
          refine pv_unset (i := 15) (L1 := [(3000, 0), (9, 0), (0, a2), (0, a3), (1, 0), (0, a5), (0, a6), (1, 0), (1, 0), (0, a9), (1, 0), (1, 0), (1, 0), (1, 0), (1, 0), (1, 0), (1, 0), (0, a17), (1, 0), (0, a19), (1, 0), (1, 0)]) rfl ?_
          refine pv_unset (i := 17) (L1 := [(3000, 0), (9, 0), (0, a2), (0, a3), (1, 0), (0, a5), (0, a6), (1, 0), (1, 0), (0, a9), (1, 0), (1, 0), (1, 0), (1, 0), (1, 0), (1, 0), (1, 0), (1, 0), (1, 0), (0, a19), (1, 0), (1, 0)]) rfl ?_
          refine pv_unset (i := 19) (L1 := [(3000, 0), (9, 0), (0, a2), (0, a3), (1, 0), (0, a5), (0, a6), (1, 0), (1, 0), (0, a9), (1, 0), (1, 0), (1, 0), (1, 0), (1, 0), (1, 0), (1, 0), (1, 0), (1, 0), (1, 0), (1, 0), (1, 0)]) rfl ?_
          exact vjp_L_law_1497 hl0 hsc (by intros; exact hK53 _ _ _ _ _ _ (by assumption)) _ _ _ _ _ _ h
        · replace h := h.2 c65
          refine pv_unset (i := 15) (L1 := [(3000, 0), (9, 0), (0, a2), (0, a3), (1, 0), (0, a5), (0, a6), (1, 0), (1, 0), (0, a9), (1, 0), (1, 0), (1, 0), (1, 0), (1, 0), (1, 0), (1, 0), (0, a17), (1, 0), (0, a19), (1, 0), (1, 0)]) rfl ?_
          refine pv_unset (i := 17) (L1 := [(3000, 0), (9, 0), (0, a2), (0, a3), (1, 0), (0, a5), (0, a6), (1, 0), (1, 0), (0, a9), (1, 0), (1, 0), (1, 0), (1, 0), (1, 0), (1, 0), (1, 0), (1, 0), (1, 0), (0, a19), (1, 0), (1, 0)]) rfl ?_
          refine pv_unset (i := 19) (L1 := [(3000, 0), (9, 0), (0, a2), (0, a3), (1, 0), (0, a5), (0, a6), (1, 0), (1, 0), (0, a9), (1, 0), (1, 0), (1, 0), (1, 0), (1, 0), (1, 0), (1, 0), (1, 0), (1, 0), (1, 0), (1, 0), (1, 0)]) rfl ?_
          exact vjp_L_law_1493 hl0 hsc (by intros; exact hK53 _ _ _ _ _ _ (by assumption)) _ _ _ _ _ _ h
set_option maxHeartbeats 4000000 in
set_option maxRecDepth 20000 in
def jp_L_law_1395 (Ln : Nat) (xs : Nat → Int32) (Q : pw_W → Int32 → Prop) (X : pw_W → Nat → Prop) (K53 : Int32 → Int32 → Int32 → Int32 → Int32 → pw_W → Prop) (a2 a3 a5 a6 a9 a10 a15 a18 a19 a20 s0 : Int32) (w : pw_W) : Prop := wp_L_on w s0 a10 a15 a20 0 (fun w66 r67 => (¬ r67 = (-13) → (a19 = 0 → ((5 : Int32) ≤ a18 → jp_L_law_1463 Ln xs Q X K53 a2 a3 a5 a6 a9 a15 r67 a19 (a18 - 5) r67 w66) ∧ (¬ (5 : Int32) ≤ a18 → jp_L_law_1463 Ln xs Q X K53 a2 a3 a5 a6 a9 a15 r67 a19 0 r67 w66)) ∧ (¬ a19 = 0 → jp_L_law_1463 Ln xs Q X K53 a2 a3 a5 a6 a9 a15 r67 a19 (a18 - a20) r67 w66)) ∧ (r67 = (-13) → wp_X_square w66 a15 0 (fun w71 r72 => (¬ r72 = a18 → jp_L_law_1498 Ln xs Q X K53 a2 a3 a5 a6 a9 0 w71) ∧ (r72 = a18 → jp_L_law_1498 Ln xs Q X K53 a2 a3 a5 a6 a9 1 w71)) (fun _ _ => False))) (fun _ _ => False)
set_option maxHeartbeats 4000000 in
set_option maxRecDepth 20000 in
theorem vjp_L_law_1395 {l : Launch} {g : pw_G} {Q : pw_W → Int32 → Prop} {X : pw_W → Nat → Prop} {Ln : Nat} {xs : Nat → Int32} (hl0 : l.stackTraces = false) (hsc : pw_sc g Ln xs) {K53 : Int32 → Int32 → Int32 → Int32 → Int32 → pw_W → Prop} (hK53 : ∀ (a2 a3 a4 a5 a6 : Int32) (w : pw_W), K53 a2 a3 a4 a5 a6 w → pw_V l g cx_L_law Q X 53 [(3000, 0), (9, 0), (0, a2), (0, a3), (0, a4), (0, a5), (0, a6), (1, 0), (1, 0), (1, 0), (1, 0), (1, 0), (1, 0), (1, 0), (1, 0), (1, 0), (1, 0), (1, 0), (1, 0), (1, 0), (1, 0), (1, 0)] [] w) (a2 a3 a5 a6 a9 a10 a15 a18 a19 a20 s0 : Int32) (w : pw_W) (h : jp_L_law_1395 Ln xs Q X K53 a2 a3 a5 a6 a9 a10 a15 a18 a19 a20 s0 w) : pw_V l g cx_L_law Q X 1395 [(3000, 0), (9, 0), (0, a2), (0, a3), (1, 0), (0, a5), (0, a6), (1, 0), (1, 0), (0, a9), (0, a10), (1, 0), (1, 0), (1, 0), (1, 0), (0, a15), (1, 0), (1, 0), (0, a18), (0, a19), (0, a20), (1, 0)] [(0, s0), (9, 0)] w := by
  unfold jp_L_law_1395 at h
  refine pv_iload (n := 1397) d_L_law_1395 rfl rfl ?_
  refine pv_iload (n := 1399) d_L_law_1397 rfl rfl ?_
  refine pv_iload (n := 1401) d_L_law_1399 rfl rfl ?_
  refine pv_iconst (v := 0) (n := 1402) d_L_law_1401 (by decide) rfl ?_
  refine pv_callSH (n := 1405) [(9, 0), (0, s0), (0, a10), (0, a15), (0, a20), (0, 0)] [] (con_L_on hl0 h) q_541 q_542 q_483 q_540 pyo_L_on (by decide) rfl rfl d_L_law_1402 rfl (fun w66 r67 h _ => ?_) (fun _ _ h => h.elim)
  show pw_V l g cx_L_law Q X 1405 [(3000, 0), (9, 0), (0, a2), (0, a3), (1, 0), (0, a5), (0, a6), (1, 0), (1, 0), (0, a9), (0, a10), (1, 0), (1, 0), (1, 0), (1, 0), (0, a15), (1, 0), (1, 0), (0, a18), (0, a19), (0, a20), (1, 0)] [(0, r67)] w66
  refine pv_istore (n := 1407) (L' := [(3000, 0), (9, 0), (0, a2), (0, a3), (1, 0), (0, a5), (0, a6), (1, 0), (1, 0), (0, a9), (0, a10), (1, 0), (1, 0), (1, 0), (1, 0), (0, a15), (1, 0), (0, r67), (0, a18), (0, a19), (0, a20), (1, 0)]) d_L_law_1405 (by decide) rfl rfl ?_
  refine pv_iload (n := 1409) d_L_law_1407 rfl rfl ?_
  refine pv_bipush (v := -13) (n := 1411) d_L_law_1409 (by decide) rfl ?_
  refine pv_icmp_ne (n := 1414) (tgt := 1434) d_L_law_1411 (by decide) rfl (fun c68 => ?_) (fun c68 => ?_)
  · replace h := h.1 c68
    refine pv_iload (n := 1436) d_L_law_1434 rfl rfl ?_
    refine pv_iload (n := 1438) d_L_law_1436 rfl rfl ?_
    refine pv_if_eq (n := 1441) (tgt := 1449) d_L_law_1438 (by decide) rfl (fun c69 => ?_) (fun c69 => ?_)
    · replace h := h.1 c69
      refine pv_iload (n := 1451) d_L_law_1449 rfl rfl ?_
      refine pv_iconst (v := 5) (n := 1452) d_L_law_1451 (by decide) rfl ?_
      refine pv_icmp_ge (n := 1455) (tgt := 1459) d_L_law_1452 (by decide) rfl (fun c70 => ?_) (fun c70 => ?_)
      · replace h := h.1 c70
        refine pv_iload (n := 1461) d_L_law_1459 rfl rfl ?_
        refine pv_iconst (v := 5) (n := 1462) d_L_law_1461 (by decide) rfl ?_
        refine pv_isub (n := 1463) d_L_law_1462 rfl ?_
        refine pv_unset (i := 10) (L1 := [(3000, 0), (9, 0), (0, a2), (0, a3), (1, 0), (0, a5), (0, a6), (1, 0), (1, 0), (0, a9), (1, 0), (1, 0), (1, 0), (1, 0), (1, 0), (0, a15), (1, 0), (0, r67), (0, a18), (0, a19), (0, a20), (1, 0)]) rfl ?_
        refine pv_unset (i := 18) (L1 := [(3000, 0), (9, 0), (0, a2), (0, a3), (1, 0), (0, a5), (0, a6), (1, 0), (1, 0), (0, a9), (1, 0), (1, 0), (1, 0), (1, 0), (1, 0), (0, a15), (1, 0), (0, r67), (1, 0), (0, a19), (0, a20), (1, 0)]) rfl ?_
        refine pv_unset (i := 20) (L1 := [(3000, 0), (9, 0), (0, a2), (0, a3), (1, 0), (0, a5), (0, a6), (1, 0), (1, 0), (0, a9), (1, 0), (1, 0), (1, 0), (1, 0), (1, 0), (0, a15), (1, 0), (0, r67), (1, 0), (0, a19), (1, 0), (1, 0)]) rfl ?_
        exact vjp_L_law_1463 hl0 hsc (by intros; exact hK53 _ _ _ _ _ _ (by assumption)) _ _ _ _ _ _ _ _ _ _ _ h
      · replace h := h.2 c70
        refine pv_iconst (v := 0) (n := 1456) d_L_law_1455 (by decide) rfl ?_
        refine pv_goto (tgt := 1463) d_L_law_1456 (by decide) ?_
        refine pv_unset (i := 10) (L1 := [(3000, 0), (9, 0), (0, a2), (0, a3), (1, 0), (0, a5), (0, a6), (1, 0), (1, 0), (0, a9), (1, 0), (1, 0), (1, 0), (1, 0), (1, 0), (0, a15), (1, 0), (0, r67), (0, a18), (0, a19), (0, a20), (1, 0)]) rfl ?_
        refine pv_unset (i := 18) (L1 := [(3000, 0), (9, 0), (0, a2), (0, a3), (1, 0), (0, a5), (0, a6), (1, 0), (1, 0), (0, a9), (1, 0), (1, 0), (1, 0), (1, 0), (1, 0), (0, a15), (1, 0), (0, r67), (1, 0), (0, a19), (0, a20), (1, 0)]) rfl ?_
        refine pv_unset (i := 20) (L1 := [(3000, 0), (9, 0), (0, a2), (0, a3), (1, 0), (0, a5), (0, a6), (1, 0), (1, 0), (0, a9), (1, 0), (1, 0), (1, 0), (1, 0), (1, 0), (0, a15), (1, 0), (0, r67), (1, 0), (0, a19), (1, 0), (1, 0)]) rfl ?_
        exact vjp_L_law_1463 hl0 hsc (by intros; exact hK53 _ _ _ _ _ _ (by assumption)) _ _ _ _ _ _ _ _ _ _ _ h
    · replace h := h.2 c69
      refine pv_iload (n := 1443) d_L_law_1441 rfl rfl ?_
      refine pv_iload (n := 1445) d_L_law_1443 rfl rfl ?_
      refine pv_isub (n := 1446) d_L_law_1445 rfl ?_
      refine pv_goto (tgt := 1463) d_L_law_1446 (by decide) ?_
      refine pv_unset (i := 10) (L1 := [(3000, 0), (9, 0), (0, a2), (0, a3), (1, 0), (0, a5), (0, a6), (1, 0), (1, 0), (0, a9), (1, 0), (1, 0), (1, 0), (1, 0), (1, 0), (0, a15), (1, 0), (0, r67), (0, a18), (0, a19), (0, a20), (1, 0)]) rfl ?_
      refine pv_unset (i := 18) (L1 := [(3000, 0), (9, 0), (0, a2), (0, a3), (1, 0), (0, a5), (0, a6), (1, 0), (1, 0), (0, a9), (1, 0), (1, 0), (1, 0), (1, 0), (1, 0), (0, a15), (1, 0), (0, r67), (1, 0), (0, a19), (0, a20), (1, 0)]) rfl ?_
      refine pv_unset (i := 20) (L1 := [(3000, 0), (9, 0), (0, a2), (0, a3), (1, 0), (0, a5), (0, a6), (1, 0), (1, 0), (0, a9), (1, 0), (1, 0), (1, 0), (1, 0), (1, 0), (0, a15), (1, 0), (0, r67), (1, 0), (0, a19), (1, 0), (1, 0)]) rfl ?_
      exact vjp_L_law_1463 hl0 hsc (by intros; exact hK53 _ _ _ _ _ _ (by assumption)) _ _ _ _ _ _ _ _ _ _ _ h
  · replace h := h.2 c68
    refine pv_aload_n (n := 1415) d_L_law_1414 rfl rfl rfl ?_
    refine pv_iload (n := 1417) d_L_law_1415 rfl rfl ?_
    refine pv_iconst (v := 0) (n := 1418) d_L_law_1417 (by decide) rfl ?_
    refine pv_callV (n := 1421) (x := 0) [(0, a15), (0, 0)] [] (con_X_square hl0 h) pw_cf7 rfl q_505 q_506 q_507 q_62 q_504 pyo_X_square (by decide) rfl rfl (by decide) d_L_law_1418 rfl (fun w71 r72 h _ => ?_) (fun _ _ h => h.elim)
    show pw_V l g cx_L_law Q X 1421 [(3000, 0), (9, 0), (0, a2), (0, a3), (1, 0), (0, a5), (0, a6), (1, 0), (1, 0), (0, a9), (0, a10), (1, 0), (1, 0), (1, 0), (1, 0), (0, a15), (1, 0), (0, r67), (0, a18), (0, a19), (0, a20), (1, 0)] [(0, r72)] w71
    refine pv_iload (n := 1423) d_L_law_1421 rfl rfl ?_
    refine pv_icmp_ne (n := 1426) (tgt := 1430) d_L_law_1423 (by decide) rfl (fun c73 => ?_) (fun c73 => ?_)
    · replace h := h.1 c73
      refine pv_iconst (v := 0) (n := 1431) d_L_law_1430 (by decide) rfl ?_
      refine pv_goto (tgt := 1498) d_L_law_1431 (by decide) ?_
      refine pv_unset (i := 10) (L1 := [(3000, 0), (9, 0), (0, a2), (0, a3), (1, 0), (0, a5), (0, a6), (1, 0), (1, 0), (0, a9), (1, 0), (1, 0), (1, 0), (1, 0), (1, 0), (0, a15), (1, 0), (0, r67), (0, a18), (0, a19), (0, a20), (1, 0)]) rfl ?_
      refine pv_unset (i := 15) (L1 := [(3000, 0), (9, 0), (0, a2), (0, a3), (1, 0), (0, a5), (0, a6), (1, 0), (1, 0), (0, a9), (1, 0), (1, 0), (1, 0), (1, 0), (1, 0), (1, 0), (1, 0), (0, r67), (0, a18), (0, a19), (0, a20), (1, 0)]) rfl ?_
      refine pv_unset (i := 17) (L1 := [(3000, 0), (9, 0), (0, a2), (0, a3), (1, 0), (0, a5), (0, a6), (1, 0), (1, 0), (0, a9), (1, 0), (1, 0), (1, 0), (1, 0), (1, 0), (1, 0), (1, 0), (1, 0), (0, a18), (0, a19), (0, a20), (1, 0)]) rfl ?_
      refine pv_unset (i := 18) (L1 := [(3000, 0), (9, 0), (0, a2), (0, a3), (1, 0), (0, a5), (0, a6), (1, 0), (1, 0), (0, a9), (1, 0), (1, 0), (1, 0), (1, 0), (1, 0), (1, 0), (1, 0), (1, 0), (1, 0), (0, a19), (0, a20), (1, 0)]) rfl ?_
      refine pv_unset (i := 19) (L1 := [(3000, 0), (9, 0), (0, a2), (0, a3), (1, 0), (0, a5), (0, a6), (1, 0), (1, 0), (0, a9), (1, 0), (1, 0), (1, 0), (1, 0), (1, 0), (1, 0), (1, 0), (1, 0), (1, 0), (1, 0), (0, a20), (1, 0)]) rfl ?_
      refine pv_unset (i := 20) (L1 := [(3000, 0), (9, 0), (0, a2), (0, a3), (1, 0), (0, a5), (0, a6), (1, 0), (1, 0), (0, a9), (1, 0), (1, 0), (1, 0), (1, 0), (1, 0), (1, 0), (1, 0), (1, 0), (1, 0), (1, 0), (1, 0), (1, 0)]) rfl ?_
      exact vjp_L_law_1498 hl0 hsc (by intros; exact hK53 _ _ _ _ _ _ (by assumption)) _ _ _ _ _ _ _ h
    · replace h := h.2 c73
      refine pv_iconst (v := 1) (n := 1427) d_L_law_1426 (by decide) rfl ?_
      refine pv_goto (tgt := 1498) d_L_law_1427 (by decide) ?_
      refine pv_unset (i := 10) (L1 := [(3000, 0), (9, 0), (0, a2), (0, a3), (1, 0), (0, a5), (0, a6), (1, 0), (1, 0), (0, a9), (1, 0), (1, 0), (1, 0), (1, 0), (1, 0), (0, a15), (1, 0), (0, r67), (0, a18), (0, a19), (0, a20), (1, 0)]) rfl ?_
      refine pv_unset (i := 15) (L1 := [(3000, 0), (9, 0), (0, a2), (0, a3), (1, 0), (0, a5), (0, a6), (1, 0), (1, 0), (0, a9), (1, 0), (1, 0), (1, 0), (1, 0), (1, 0), (1, 0), (1, 0), (0, r67), (0, a18), (0, a19), (0, a20), (1, 0)]) rfl ?_
      refine pv_unset (i := 17) (L1 := [(3000, 0), (9, 0), (0, a2), (0, a3), (1, 0), (0, a5), (0, a6), (1, 0), (1, 0), (0, a9), (1, 0), (1, 0), (1, 0), (1, 0), (1, 0), (1, 0), (1, 0), (1, 0), (0, a18), (0, a19), (0, a20), (1, 0)]) rfl ?_
      refine pv_unset (i := 18) (L1 := [(3000, 0), (9, 0), (0, a2), (0, a3), (1, 0), (0, a5), (0, a6), (1, 0), (1, 0), (0, a9), (1, 0), (1, 0), (1, 0), (1, 0), (1, 0), (1, 0), (1, 0), (1, 0), (1, 0), (0, a19), (0, a20), (1, 0)]) rfl ?_
      refine pv_unset (i := 19) (L1 := [(3000, 0), (9, 0), (0, a2), (0, a3), (1, 0), (0, a5), (0, a6), (1, 0), (1, 0), (0, a9), (1, 0), (1, 0), (1, 0), (1, 0), (1, 0), (1, 0), (1, 0), (1, 0), (1, 0), (1, 0), (0, a20), (1, 0)]) rfl ?_
      refine pv_unset (i := 20) (L1 := [(3000, 0), (9, 0), (0, a2), (0, a3), (1, 0), (0, a5), (0, a6), (1, 0), (1, 0), (0, a9), (1, 0), (1, 0), (1, 0), (1, 0), (1, 0), (1, 0), (1, 0), (1, 0), (1, 0), (1, 0), (1, 0), (1, 0)]) rfl ?_
      exact vjp_L_law_1498 hl0 hsc (by intros; exact hK53 _ _ _ _ _ _ (by assumption)) _ _ _ _ _ _ _ h
set_option maxHeartbeats 4000000 in
set_option maxRecDepth 20000 in
def jp_L_law_1369 (Ln : Nat) (xs : Nat → Int32) (Q : pw_W → Int32 → Prop) (X : pw_W → Nat → Prop) (K53 : Int32 → Int32 → Int32 → Int32 → Int32 → pw_W → Prop) (a2 a3 a5 a6 a8 a9 a10 a15 a18 s0 : Int32) (w : pw_W) : Prop := ∀ v74, v74 = ((1 : Int32) + ((a8 >>> (4 &&& 31)) - (a8 >>> (4 &&& 31)) / 20 * 20)) → (s0 = 0 → jp_L_law_1395 Ln xs Q X K53 a2 a3 a5 a6 a9 a10 a15 a18 s0 v74 12 w) ∧ (¬ s0 = 0 → jp_L_law_1395 Ln xs Q X K53 a2 a3 a5 a6 a9 a10 a15 a18 s0 v74 11 w)
set_option maxHeartbeats 4000000 in
set_option maxRecDepth 20000 in
theorem vjp_L_law_1369 {l : Launch} {g : pw_G} {Q : pw_W → Int32 → Prop} {X : pw_W → Nat → Prop} {Ln : Nat} {xs : Nat → Int32} (hl0 : l.stackTraces = false) (hsc : pw_sc g Ln xs) {K53 : Int32 → Int32 → Int32 → Int32 → Int32 → pw_W → Prop} (hK53 : ∀ (a2 a3 a4 a5 a6 : Int32) (w : pw_W), K53 a2 a3 a4 a5 a6 w → pw_V l g cx_L_law Q X 53 [(3000, 0), (9, 0), (0, a2), (0, a3), (0, a4), (0, a5), (0, a6), (1, 0), (1, 0), (1, 0), (1, 0), (1, 0), (1, 0), (1, 0), (1, 0), (1, 0), (1, 0), (1, 0), (1, 0), (1, 0), (1, 0), (1, 0)] [] w) (a2 a3 a5 a6 a8 a9 a10 a15 a18 s0 : Int32) (w : pw_W) (h : jp_L_law_1369 Ln xs Q X K53 a2 a3 a5 a6 a8 a9 a10 a15 a18 s0 w) : pw_V l g cx_L_law Q X 1369 [(3000, 0), (9, 0), (0, a2), (0, a3), (1, 0), (0, a5), (0, a6), (1, 0), (0, a8), (0, a9), (0, a10), (1, 0), (1, 0), (1, 0), (1, 0), (0, a15), (1, 0), (1, 0), (0, a18), (1, 0), (1, 0), (1, 0)] [(0, s0)] w := by
  unfold jp_L_law_1369 at h
  refine pv_istore (n := 1371) (L' := [(3000, 0), (9, 0), (0, a2), (0, a3), (1, 0), (0, a5), (0, a6), (1, 0), (0, a8), (0, a9), (0, a10), (1, 0), (1, 0), (1, 0), (1, 0), (0, a15), (1, 0), (1, 0), (0, a18), (0, s0), (1, 0), (1, 0)]) d_L_law_1369 (by decide) rfl rfl ?_
  refine pv_iconst (v := 1) (n := 1372) d_L_law_1371 (by decide) rfl ?_
  refine pv_iload (n := 1374) d_L_law_1372 rfl rfl ?_
  refine pv_iconst (v := 4) (n := 1375) d_L_law_1374 (by decide) rfl ?_
  refine pv_ishr (n := 1376) d_L_law_1375 rfl ?_
  refine pv_bipush (v := 20) (n := 1378) d_L_law_1376 (by decide) rfl ?_
  refine pv_irem (n := 1379) d_L_law_1378 (by decide) rfl ?_
  refine pv_iadd (n := 1380) d_L_law_1379 rfl ?_
  refine pv_nm (fun v74 e75 => ?_)
  replace h := h v74 e75
  refine pv_istore (n := 1382) (L' := [(3000, 0), (9, 0), (0, a2), (0, a3), (1, 0), (0, a5), (0, a6), (1, 0), (0, a8), (0, a9), (0, a10), (1, 0), (1, 0), (1, 0), (1, 0), (0, a15), (1, 0), (1, 0), (0, a18), (0, s0), (0, v74), (1, 0)]) d_L_law_1380 (by decide) rfl rfl ?_
  refine pv_aload_n (n := 1383) d_L_law_1382 rfl rfl rfl ?_
  refine pv_iload (n := 1385) d_L_law_1383 rfl rfl ?_
  refine pv_if_eq (n := 1388) (tgt := 1393) d_L_law_1385 (by decide) rfl (fun c76 => ?_) (fun c76 => ?_)
  · replace h := h.1 c76
    refine pv_bipush (v := 12) (n := 1395) d_L_law_1393 (by decide) rfl ?_
    refine pv_unset (i := 8) (L1 := [(3000, 0), (9, 0), (0, a2), (0, a3), (1, 0), (0, a5), (0, a6), (1, 0), (1, 0), (0, a9), (0, a10), (1, 0), (1, 0), (1, 0), (1, 0), (0, a15), (1, 0), (1, 0), (0, a18), (0, s0), (0, v74), (1, 0)]) rfl ?_
    exact vjp_L_law_1395 hl0 hsc (by intros; exact hK53 _ _ _ _ _ _ (by assumption)) _ _ _ _ _ _ _ _ _ _ _ _ h
  · replace h := h.2 c76
    refine pv_bipush (v := 11) (n := 1390) d_L_law_1388 (by decide) rfl ?_
    refine pv_goto (tgt := 1395) d_L_law_1390 (by decide) ?_
    refine pv_unset (i := 8) (L1 := [(3000, 0), (9, 0), (0, a2), (0, a3), (1, 0), (0, a5), (0, a6), (1, 0), (1, 0), (0, a9), (0, a10), (1, 0), (1, 0), (1, 0), (1, 0), (0, a15), (1, 0), (1, 0), (0, a18), (0, s0), (0, v74), (1, 0)]) rfl ?_
    exact vjp_L_law_1395 hl0 hsc (by intros; exact hK53 _ _ _ _ _ _ (by assumption)) _ _ _ _ _ _ _ _ _ _ _ _ h
set_option maxHeartbeats 4000000 in
set_option maxRecDepth 20000 in
def jp_L_law_1334 (Ln : Nat) (xs : Nat → Int32) (Q : pw_W → Int32 → Prop) (X : pw_W → Nat → Prop) (K53 : Int32 → Int32 → Int32 → Int32 → Int32 → pw_W → Prop) (a2 a3 a5 a6 a9 s0 : Int32) (w : pw_W) : Prop := ∃ k77, lp_L_law_1781 Ln xs Q X K53 k77 a2 a3 s0 a5 a6 a9 w
set_option maxHeartbeats 4000000 in
set_option maxRecDepth 20000 in
theorem vjp_L_law_1334 {l : Launch} {g : pw_G} {Q : pw_W → Int32 → Prop} {X : pw_W → Nat → Prop} {Ln : Nat} {xs : Nat → Int32} (hl0 : l.stackTraces = false) (hsc : pw_sc g Ln xs) {K53 : Int32 → Int32 → Int32 → Int32 → Int32 → pw_W → Prop} (hK53 : ∀ (a2 a3 a4 a5 a6 : Int32) (w : pw_W), K53 a2 a3 a4 a5 a6 w → pw_V l g cx_L_law Q X 53 [(3000, 0), (9, 0), (0, a2), (0, a3), (0, a4), (0, a5), (0, a6), (1, 0), (1, 0), (1, 0), (1, 0), (1, 0), (1, 0), (1, 0), (1, 0), (1, 0), (1, 0), (1, 0), (1, 0), (1, 0), (1, 0), (1, 0)] [] w) (a2 a3 a5 a6 a9 s0 : Int32) (w : pw_W) (h : jp_L_law_1334 Ln xs Q X K53 a2 a3 a5 a6 a9 s0 w) : pw_V l g cx_L_law Q X 1334 [(3000, 0), (9, 0), (0, a2), (0, a3), (1, 0), (0, a5), (0, a6), (1, 0), (1, 0), (0, a9), (1, 0), (1, 0), (1, 0), (1, 0), (1, 0), (1, 0), (1, 0), (1, 0), (1, 0), (1, 0), (1, 0), (1, 0)] [(0, s0)] w := by
  unfold jp_L_law_1334 at h
  refine pv_istore (n := 1336) (L' := [(3000, 0), (9, 0), (0, a2), (0, a3), (0, s0), (0, a5), (0, a6), (1, 0), (1, 0), (0, a9), (1, 0), (1, 0), (1, 0), (1, 0), (1, 0), (1, 0), (1, 0), (1, 0), (1, 0), (1, 0), (1, 0), (1, 0)]) d_L_law_1334 (by decide) rfl rfl ?_
  refine pv_goto (tgt := 1781) d_L_law_1336 (by decide) ?_
  obtain ⟨k77, h⟩ := h
  exact vlp_L_law_1781 hl0 hsc (by intros; exact hK53 _ _ _ _ _ _ (by assumption)) _ _ _ _ _ _ _ _ h
set_option maxHeartbeats 4000000 in
set_option maxRecDepth 20000 in
def jp_L_law_1333 (Ln : Nat) (xs : Nat → Int32) (Q : pw_W → Int32 → Prop) (X : pw_W → Nat → Prop) (K53 : Int32 → Int32 → Int32 → Int32 → Int32 → pw_W → Prop) (a2 a3 a5 a6 a9 : Int32) (w : pw_W) : Prop := jp_L_law_1334 Ln xs Q X K53 a2 a3 a5 a6 a9 0 w
set_option maxHeartbeats 4000000 in
set_option maxRecDepth 20000 in
theorem vjp_L_law_1333 {l : Launch} {g : pw_G} {Q : pw_W → Int32 → Prop} {X : pw_W → Nat → Prop} {Ln : Nat} {xs : Nat → Int32} (hl0 : l.stackTraces = false) (hsc : pw_sc g Ln xs) {K53 : Int32 → Int32 → Int32 → Int32 → Int32 → pw_W → Prop} (hK53 : ∀ (a2 a3 a4 a5 a6 : Int32) (w : pw_W), K53 a2 a3 a4 a5 a6 w → pw_V l g cx_L_law Q X 53 [(3000, 0), (9, 0), (0, a2), (0, a3), (0, a4), (0, a5), (0, a6), (1, 0), (1, 0), (1, 0), (1, 0), (1, 0), (1, 0), (1, 0), (1, 0), (1, 0), (1, 0), (1, 0), (1, 0), (1, 0), (1, 0), (1, 0)] [] w) (a2 a3 a5 a6 a9 : Int32) (w : pw_W) (h : jp_L_law_1333 Ln xs Q X K53 a2 a3 a5 a6 a9 w) : pw_V l g cx_L_law Q X 1333 [(3000, 0), (9, 0), (0, a2), (0, a3), (1, 0), (0, a5), (0, a6), (1, 0), (1, 0), (0, a9), (1, 0), (1, 0), (1, 0), (1, 0), (1, 0), (1, 0), (1, 0), (1, 0), (1, 0), (1, 0), (1, 0), (1, 0)] [] w := by
  unfold jp_L_law_1333 at h
  refine pv_iconst (v := 0) (n := 1334) d_L_law_1333 (by decide) rfl ?_
  exact vjp_L_law_1334 hl0 hsc (by intros; exact hK53 _ _ _ _ _ _ (by assumption)) _ _ _ _ _ _ _ h
set_option maxHeartbeats 4000000 in
set_option maxRecDepth 20000 in
def jp_L_law_1329 (Ln : Nat) (xs : Nat → Int32) (Q : pw_W → Int32 → Prop) (X : pw_W → Nat → Prop) (K53 : Int32 → Int32 → Int32 → Int32 → Int32 → pw_W → Prop) (a2 a3 a5 a6 a9 : Int32) (w : pw_W) : Prop := jp_L_law_1334 Ln xs Q X K53 a2 a3 a5 a6 a9 1 w
set_option maxHeartbeats 4000000 in
set_option maxRecDepth 20000 in
theorem vjp_L_law_1329 {l : Launch} {g : pw_G} {Q : pw_W → Int32 → Prop} {X : pw_W → Nat → Prop} {Ln : Nat} {xs : Nat → Int32} (hl0 : l.stackTraces = false) (hsc : pw_sc g Ln xs) {K53 : Int32 → Int32 → Int32 → Int32 → Int32 → pw_W → Prop} (hK53 : ∀ (a2 a3 a4 a5 a6 : Int32) (w : pw_W), K53 a2 a3 a4 a5 a6 w → pw_V l g cx_L_law Q X 53 [(3000, 0), (9, 0), (0, a2), (0, a3), (0, a4), (0, a5), (0, a6), (1, 0), (1, 0), (1, 0), (1, 0), (1, 0), (1, 0), (1, 0), (1, 0), (1, 0), (1, 0), (1, 0), (1, 0), (1, 0), (1, 0), (1, 0)] [] w) (a2 a3 a5 a6 a9 : Int32) (w : pw_W) (h : jp_L_law_1329 Ln xs Q X K53 a2 a3 a5 a6 a9 w) : pw_V l g cx_L_law Q X 1329 [(3000, 0), (9, 0), (0, a2), (0, a3), (1, 0), (0, a5), (0, a6), (1, 0), (1, 0), (0, a9), (1, 0), (1, 0), (1, 0), (1, 0), (1, 0), (1, 0), (1, 0), (1, 0), (1, 0), (1, 0), (1, 0), (1, 0)] [] w := by
  unfold jp_L_law_1329 at h
  refine pv_iconst (v := 1) (n := 1330) d_L_law_1329 (by decide) rfl ?_
  refine pv_goto (tgt := 1334) d_L_law_1330 (by decide) ?_
  exact vjp_L_law_1334 hl0 hsc (by intros; exact hK53 _ _ _ _ _ _ (by assumption)) _ _ _ _ _ _ _ h
set_option maxHeartbeats 4000000 in
set_option maxRecDepth 20000 in
def jp_L_law_1315 (Ln : Nat) (xs : Nat → Int32) (Q : pw_W → Int32 → Prop) (X : pw_W → Nat → Prop) (K53 : Int32 → Int32 → Int32 → Int32 → Int32 → pw_W → Prop) (a2 a3 a5 a6 a9 a15 a17 : Int32) (w : pw_W) : Prop := (¬ a17 = (-11) → jp_L_law_1333 Ln xs Q X K53 a2 a3 a5 a6 a9 w) ∧ (a17 = (-11) → (¬ a15 = 99 → jp_L_law_1333 Ln xs Q X K53 a2 a3 a5 a6 a9 w) ∧ (a15 = 99 → jp_L_law_1329 Ln xs Q X K53 a2 a3 a5 a6 a9 w))
set_option maxHeartbeats 4000000 in
set_option maxRecDepth 20000 in
theorem vjp_L_law_1315 {l : Launch} {g : pw_G} {Q : pw_W → Int32 → Prop} {X : pw_W → Nat → Prop} {Ln : Nat} {xs : Nat → Int32} (hl0 : l.stackTraces = false) (hsc : pw_sc g Ln xs) {K53 : Int32 → Int32 → Int32 → Int32 → Int32 → pw_W → Prop} (hK53 : ∀ (a2 a3 a4 a5 a6 : Int32) (w : pw_W), K53 a2 a3 a4 a5 a6 w → pw_V l g cx_L_law Q X 53 [(3000, 0), (9, 0), (0, a2), (0, a3), (0, a4), (0, a5), (0, a6), (1, 0), (1, 0), (1, 0), (1, 0), (1, 0), (1, 0), (1, 0), (1, 0), (1, 0), (1, 0), (1, 0), (1, 0), (1, 0), (1, 0), (1, 0)] [] w) (a2 a3 a5 a6 a9 a15 a17 : Int32) (w : pw_W) (h : jp_L_law_1315 Ln xs Q X K53 a2 a3 a5 a6 a9 a15 a17 w) : pw_V l g cx_L_law Q X 1315 [(3000, 0), (9, 0), (0, a2), (0, a3), (1, 0), (0, a5), (0, a6), (1, 0), (1, 0), (0, a9), (1, 0), (1, 0), (1, 0), (1, 0), (1, 0), (0, a15), (1, 0), (0, a17), (1, 0), (1, 0), (1, 0), (1, 0)] [] w := by
  unfold jp_L_law_1315 at h
  refine pv_iload (n := 1317) d_L_law_1315 rfl rfl ?_
  refine pv_bipush (v := -11) (n := 1319) d_L_law_1317 (by decide) rfl ?_
  refine pv_icmp_ne (n := 1322) (tgt := 1333) d_L_law_1319 (by decide) rfl (fun c78 => ?_) (fun c78 => ?_)
  · replace h := h.1 c78
    refine pv_unset (i := 15) (L1 := [(3000, 0), (9, 0), (0, a2), (0, a3), (1, 0), (0, a5), (0, a6), (1, 0), (1, 0), (0, a9), (1, 0), (1, 0), (1, 0), (1, 0), (1, 0), (1, 0), (1, 0), (0, a17), (1, 0), (1, 0), (1, 0), (1, 0)]) rfl ?_
    refine pv_unset (i := 17) (L1 := [(3000, 0), (9, 0), (0, a2), (0, a3), (1, 0), (0, a5), (0, a6), (1, 0), (1, 0), (0, a9), (1, 0), (1, 0), (1, 0), (1, 0), (1, 0), (1, 0), (1, 0), (1, 0), (1, 0), (1, 0), (1, 0), (1, 0)]) rfl ?_
    exact vjp_L_law_1333 hl0 hsc (by intros; exact hK53 _ _ _ _ _ _ (by assumption)) _ _ _ _ _ _ h
  · replace h := h.2 c78
    refine pv_iload (n := 1324) d_L_law_1322 rfl rfl ?_
    refine pv_bipush (v := 99) (n := 1326) d_L_law_1324 (by decide) rfl ?_
    refine pv_icmp_ne (n := 1329) (tgt := 1333) d_L_law_1326 (by decide) rfl (fun c79 => ?_) (fun c79 => ?_)
    · replace h := h.1 c79
      refine pv_unset (i := 15) (L1 := [(3000, 0), (9, 0), (0, a2), (0, a3), (1, 0), (0, a5), (0, a6), (1, 0), (1, 0), (0, a9), (1, 0), (1, 0), (1, 0), (1, 0), (1, 0), (1, 0), (1, 0), (0, a17), (1, 0), (1, 0), (1, 0), (1, 0)]) rfl ?_
      refine pv_unset (i := 17) (L1 := [(3000, 0), (9, 0), (0, a2), (0, a3), (1, 0), (0, a5), (0, a6), (1, 0), (1, 0), (0, a9), (1, 0), (1, 0), (1, 0), (1, 0), (1, 0), (1, 0), (1, 0), (1, 0), (1, 0), (1, 0), (1, 0), (1, 0)]) rfl ?_
      exact vjp_L_law_1333 hl0 hsc (by intros; exact hK53 _ _ _ _ _ _ (by assumption)) _ _ _ _ _ _ h
    · replace h := h.2 c79
      refine pv_unset (i := 15) (L1 := [(3000, 0), (9, 0), (0, a2), (0, a3), (1, 0), (0, a5), (0, a6), (1, 0), (1, 0), (0, a9), (1, 0), (1, 0), (1, 0), (1, 0), (1, 0), (1, 0), (1, 0), (0, a17), (1, 0), (1, 0), (1, 0), (1, 0)]) rfl ?_
      refine pv_unset (i := 17) (L1 := [(3000, 0), (9, 0), (0, a2), (0, a3), (1, 0), (0, a5), (0, a6), (1, 0), (1, 0), (0, a9), (1, 0), (1, 0), (1, 0), (1, 0), (1, 0), (1, 0), (1, 0), (1, 0), (1, 0), (1, 0), (1, 0), (1, 0)]) rfl ?_
      exact vjp_L_law_1329 hl0 hsc (by intros; exact hK53 _ _ _ _ _ _ (by assumption)) _ _ _ _ _ _ h
set_option maxHeartbeats 4000000 in
set_option maxRecDepth 20000 in
def jp_L_law_1301 (Ln : Nat) (xs : Nat → Int32) (Q : pw_W → Int32 → Prop) (X : pw_W → Nat → Prop) (K53 : Int32 → Int32 → Int32 → Int32 → Int32 → pw_W → Prop) (a2 a3 a5 a6 a9 a14 a15 a17 : Int32) (w : pw_W) : Prop := (¬ a17 = (-11) → jp_L_law_1315 Ln xs Q X K53 a2 a3 a5 a6 a9 a15 a17 w) ∧ (a17 = (-11) → (a14 = 9 → jp_L_law_1329 Ln xs Q X K53 a2 a3 a5 a6 a9 w) ∧ (¬ a14 = 9 → jp_L_law_1315 Ln xs Q X K53 a2 a3 a5 a6 a9 a15 a17 w))
set_option maxHeartbeats 4000000 in
set_option maxRecDepth 20000 in
theorem vjp_L_law_1301 {l : Launch} {g : pw_G} {Q : pw_W → Int32 → Prop} {X : pw_W → Nat → Prop} {Ln : Nat} {xs : Nat → Int32} (hl0 : l.stackTraces = false) (hsc : pw_sc g Ln xs) {K53 : Int32 → Int32 → Int32 → Int32 → Int32 → pw_W → Prop} (hK53 : ∀ (a2 a3 a4 a5 a6 : Int32) (w : pw_W), K53 a2 a3 a4 a5 a6 w → pw_V l g cx_L_law Q X 53 [(3000, 0), (9, 0), (0, a2), (0, a3), (0, a4), (0, a5), (0, a6), (1, 0), (1, 0), (1, 0), (1, 0), (1, 0), (1, 0), (1, 0), (1, 0), (1, 0), (1, 0), (1, 0), (1, 0), (1, 0), (1, 0), (1, 0)] [] w) (a2 a3 a5 a6 a9 a14 a15 a17 : Int32) (w : pw_W) (h : jp_L_law_1301 Ln xs Q X K53 a2 a3 a5 a6 a9 a14 a15 a17 w) : pw_V l g cx_L_law Q X 1301 [(3000, 0), (9, 0), (0, a2), (0, a3), (1, 0), (0, a5), (0, a6), (1, 0), (1, 0), (0, a9), (1, 0), (1, 0), (1, 0), (1, 0), (0, a14), (0, a15), (1, 0), (0, a17), (1, 0), (1, 0), (1, 0), (1, 0)] [] w := by
  unfold jp_L_law_1301 at h
  refine pv_iload (n := 1303) d_L_law_1301 rfl rfl ?_
  refine pv_bipush (v := -11) (n := 1305) d_L_law_1303 (by decide) rfl ?_
  refine pv_icmp_ne (n := 1308) (tgt := 1315) d_L_law_1305 (by decide) rfl (fun c80 => ?_) (fun c80 => ?_)
  · replace h := h.1 c80
    refine pv_unset (i := 14) (L1 := [(3000, 0), (9, 0), (0, a2), (0, a3), (1, 0), (0, a5), (0, a6), (1, 0), (1, 0), (0, a9), (1, 0), (1, 0), (1, 0), (1, 0), (1, 0), (0, a15), (1, 0), (0, a17), (1, 0), (1, 0), (1, 0), (1, 0)]) rfl ?_
    exact vjp_L_law_1315 hl0 hsc (by intros; exact hK53 _ _ _ _ _ _ (by assumption)) _ _ _ _ _ _ _ _ h
  · replace h := h.2 c80
    refine pv_iload (n := 1310) d_L_law_1308 rfl rfl ?_
    refine pv_bipush (v := 9) (n := 1312) d_L_law_1310 (by decide) rfl ?_
    refine pv_icmp_eq (n := 1315) (tgt := 1329) d_L_law_1312 (by decide) rfl (fun c81 => ?_) (fun c81 => ?_)
    · replace h := h.1 c81
      refine pv_unset (i := 14) (L1 := [(3000, 0), (9, 0), (0, a2), (0, a3), (1, 0), (0, a5), (0, a6), (1, 0), (1, 0), (0, a9), (1, 0), (1, 0), (1, 0), (1, 0), (1, 0), (0, a15), (1, 0), (0, a17), (1, 0), (1, 0), (1, 0), (1, 0)]) rfl ?_
      refine pv_unset (i := 15) (L1 := [(3000, 0), (9, 0), (0, a2), (0, a3), (1, 0), (0, a5), (0, a6), (1, 0), (1, 0), (0, a9), (1, 0), (1, 0), (1, 0), (1, 0), (1, 0), (1, 0), (1, 0), (0, a17), (1, 0), (1, 0), (1, 0), (1, 0)]) rfl ?_
      refine pv_unset (i := 17) (L1 := [(3000, 0), (9, 0), (0, a2), (0, a3), (1, 0), (0, a5), (0, a6), (1, 0), (1, 0), (0, a9), (1, 0), (1, 0), (1, 0), (1, 0), (1, 0), (1, 0), (1, 0), (1, 0), (1, 0), (1, 0), (1, 0), (1, 0)]) rfl ?_
      exact vjp_L_law_1329 hl0 hsc (by intros; exact hK53 _ _ _ _ _ _ (by assumption)) _ _ _ _ _ _ h
    · replace h := h.2 c81
      refine pv_unset (i := 14) (L1 := [(3000, 0), (9, 0), (0, a2), (0, a3), (1, 0), (0, a5), (0, a6), (1, 0), (1, 0), (0, a9), (1, 0), (1, 0), (1, 0), (1, 0), (1, 0), (0, a15), (1, 0), (0, a17), (1, 0), (1, 0), (1, 0), (1, 0)]) rfl ?_
      exact vjp_L_law_1315 hl0 hsc (by intros; exact hK53 _ _ _ _ _ _ (by assumption)) _ _ _ _ _ _ _ _ h
set_option maxHeartbeats 4000000 in
set_option maxRecDepth 20000 in
def jp_L_law_1280 (Ln : Nat) (xs : Nat → Int32) (Q : pw_W → Int32 → Prop) (X : pw_W → Nat → Prop) (K53 : Int32 → Int32 → Int32 → Int32 → Int32 → pw_W → Prop) (a2 a3 a5 a6 a9 a13 a14 a15 a17 : Int32) (w : pw_W) : Prop := (a17 = (-13) → jp_L_law_1329 Ln xs Q X K53 a2 a3 a5 a6 a9 w) ∧ (¬ a17 = (-13) → (¬ a17 = (-12) → jp_L_law_1301 Ln xs Q X K53 a2 a3 a5 a6 a9 a14 a15 a17 w) ∧ (a17 = (-12) → (a13 = 9 → jp_L_law_1329 Ln xs Q X K53 a2 a3 a5 a6 a9 w) ∧ (¬ a13 = 9 → jp_L_law_1301 Ln xs Q X K53 a2 a3 a5 a6 a9 a14 a15 a17 w)))
set_option maxHeartbeats 4000000 in
set_option maxRecDepth 20000 in
theorem vjp_L_law_1280 {l : Launch} {g : pw_G} {Q : pw_W → Int32 → Prop} {X : pw_W → Nat → Prop} {Ln : Nat} {xs : Nat → Int32} (hl0 : l.stackTraces = false) (hsc : pw_sc g Ln xs) {K53 : Int32 → Int32 → Int32 → Int32 → Int32 → pw_W → Prop} (hK53 : ∀ (a2 a3 a4 a5 a6 : Int32) (w : pw_W), K53 a2 a3 a4 a5 a6 w → pw_V l g cx_L_law Q X 53 [(3000, 0), (9, 0), (0, a2), (0, a3), (0, a4), (0, a5), (0, a6), (1, 0), (1, 0), (1, 0), (1, 0), (1, 0), (1, 0), (1, 0), (1, 0), (1, 0), (1, 0), (1, 0), (1, 0), (1, 0), (1, 0), (1, 0)] [] w) (a2 a3 a5 a6 a9 a13 a14 a15 a17 : Int32) (w : pw_W) (h : jp_L_law_1280 Ln xs Q X K53 a2 a3 a5 a6 a9 a13 a14 a15 a17 w) : pw_V l g cx_L_law Q X 1280 [(3000, 0), (9, 0), (0, a2), (0, a3), (1, 0), (0, a5), (0, a6), (1, 0), (1, 0), (0, a9), (1, 0), (1, 0), (1, 0), (0, a13), (0, a14), (0, a15), (1, 0), (0, a17), (1, 0), (1, 0), (1, 0), (1, 0)] [] w := by
  unfold jp_L_law_1280 at h
  refine pv_iload (n := 1282) d_L_law_1280 rfl rfl ?_
  refine pv_bipush (v := -13) (n := 1284) d_L_law_1282 (by decide) rfl ?_
  refine pv_icmp_eq (n := 1287) (tgt := 1329) d_L_law_1284 (by decide) rfl (fun c82 => ?_) (fun c82 => ?_)
  · replace h := h.1 c82
    refine pv_unset (i := 13) (L1 := [(3000, 0), (9, 0), (0, a2), (0, a3), (1, 0), (0, a5), (0, a6), (1, 0), (1, 0), (0, a9), (1, 0), (1, 0), (1, 0), (1, 0), (0, a14), (0, a15), (1, 0), (0, a17), (1, 0), (1, 0), (1, 0), (1, 0)]) rfl ?_
    refine pv_unset (i := 14) (L1 := [(3000, 0), (9, 0), (0, a2), (0, a3), (1, 0), (0, a5), (0, a6), (1, 0), (1, 0), (0, a9), (1, 0), (1, 0), (1, 0), (1, 0), (1, 0), (0, a15), (1, 0), (0, a17), (1, 0), (1, 0), (1, 0), (1, 0)]) rfl ?_
    refine pv_unset (i := 15) (L1 := [(3000, 0), (9, 0), (0, a2), (0, a3), (1, 0), (0, a5), (0, a6), (1, 0), (1, 0), (0, a9), (1, 0), (1, 0), (1, 0), (1, 0), (1, 0), (1, 0), (1, 0), (0, a17), (1, 0), (1, 0), (1, 0), (1, 0)]) rfl ?_
    refine pv_unset (i := 17) (L1 := [(3000, 0), (9, 0), (0, a2), (0, a3), (1, 0), (0, a5), (0, a6), (1, 0), (1, 0), (0, a9), (1, 0), (1, 0), (1, 0), (1, 0), (1, 0), (1, 0), (1, 0), (1, 0), (1, 0), (1, 0), (1, 0), (1, 0)]) rfl ?_
    exact vjp_L_law_1329 hl0 hsc (by intros; exact hK53 _ _ _ _ _ _ (by assumption)) _ _ _ _ _ _ h
  · replace h := h.2 c82
    refine pv_iload (n := 1289) d_L_law_1287 rfl rfl ?_
    refine pv_bipush (v := -12) (n := 1291) d_L_law_1289 (by decide) rfl ?_
    refine pv_icmp_ne (n := 1294) (tgt := 1301) d_L_law_1291 (by decide) rfl (fun c83 => ?_) (fun c83 => ?_)
    · replace h := h.1 c83
      refine pv_unset (i := 13) (L1 := [(3000, 0), (9, 0), (0, a2), (0, a3), (1, 0), (0, a5), (0, a6), (1, 0), (1, 0), (0, a9), (1, 0), (1, 0), (1, 0), (1, 0), (0, a14), (0, a15), (1, 0), (0, a17), (1, 0), (1, 0), (1, 0), (1, 0)]) rfl ?_
      exact vjp_L_law_1301 hl0 hsc (by intros; exact hK53 _ _ _ _ _ _ (by assumption)) _ _ _ _ _ _ _ _ _ h
    · replace h := h.2 c83
      refine pv_iload (n := 1296) d_L_law_1294 rfl rfl ?_
      refine pv_bipush (v := 9) (n := 1298) d_L_law_1296 (by decide) rfl ?_
      refine pv_icmp_eq (n := 1301) (tgt := 1329) d_L_law_1298 (by decide) rfl (fun c84 => ?_) (fun c84 => ?_)
      · replace h := h.1 c84
        refine pv_unset (i := 13) (L1 := [(3000, 0), (9, 0), (0, a2), (0, a3), (1, 0), (0, a5), (0, a6), (1, 0), (1, 0), (0, a9), (1, 0), (1, 0), (1, 0), (1, 0), (0, a14), (0, a15), (1, 0), (0, a17), (1, 0), (1, 0), (1, 0), (1, 0)]) rfl ?_
        refine pv_unset (i := 14) (L1 := [(3000, 0), (9, 0), (0, a2), (0, a3), (1, 0), (0, a5), (0, a6), (1, 0), (1, 0), (0, a9), (1, 0), (1, 0), (1, 0), (1, 0), (1, 0), (0, a15), (1, 0), (0, a17), (1, 0), (1, 0), (1, 0), (1, 0)]) rfl ?_
        refine pv_unset (i := 15) (L1 := [(3000, 0), (9, 0), (0, a2), (0, a3), (1, 0), (0, a5), (0, a6), (1, 0), (1, 0), (0, a9), (1, 0), (1, 0), (1, 0), (1, 0), (1, 0), (1, 0), (1, 0), (0, a17), (1, 0), (1, 0), (1, 0), (1, 0)]) rfl ?_
        refine pv_unset (i := 17) (L1 := [(3000, 0), (9, 0), (0, a2), (0, a3), (1, 0), (0, a5), (0, a6), (1, 0), (1, 0), (0, a9), (1, 0), (1, 0), (1, 0), (1, 0), (1, 0), (1, 0), (1, 0), (1, 0), (1, 0), (1, 0), (1, 0), (1, 0)]) rfl ?_
        exact vjp_L_law_1329 hl0 hsc (by intros; exact hK53 _ _ _ _ _ _ (by assumption)) _ _ _ _ _ _ h
      · replace h := h.2 c84
        refine pv_unset (i := 13) (L1 := [(3000, 0), (9, 0), (0, a2), (0, a3), (1, 0), (0, a5), (0, a6), (1, 0), (1, 0), (0, a9), (1, 0), (1, 0), (1, 0), (1, 0), (0, a14), (0, a15), (1, 0), (0, a17), (1, 0), (1, 0), (1, 0), (1, 0)]) rfl ?_
        exact vjp_L_law_1301 hl0 hsc (by intros; exact hK53 _ _ _ _ _ _ (by assumption)) _ _ _ _ _ _ _ _ _ h
set_option maxHeartbeats 4000000 in
set_option maxRecDepth 20000 in
def jp_L_law_1261 (Ln : Nat) (xs : Nat → Int32) (Q : pw_W → Int32 → Prop) (X : pw_W → Nat → Prop) (K53 : Int32 → Int32 → Int32 → Int32 → Int32 → pw_W → Prop) (a2 a3 a5 a6 a9 a13 a14 a15 s0 s1 s2 : Int32) (w : pw_W) : Prop := wp_L_on w s2 s1 s0 0 0 (fun w85 r86 => (r86 ≤ 0 → jp_L_law_1280 Ln xs Q X K53 a2 a3 a5 a6 a9 a13 a14 a15 r86 w85) ∧ (¬ r86 ≤ 0 → (r86 ≤ 20 → jp_L_law_1329 Ln xs Q X K53 a2 a3 a5 a6 a9 w85) ∧ (¬ r86 ≤ 20 → jp_L_law_1280 Ln xs Q X K53 a2 a3 a5 a6 a9 a13 a14 a15 r86 w85))) (fun _ _ => False)
set_option maxHeartbeats 4000000 in
set_option maxRecDepth 20000 in
theorem vjp_L_law_1261 {l : Launch} {g : pw_G} {Q : pw_W → Int32 → Prop} {X : pw_W → Nat → Prop} {Ln : Nat} {xs : Nat → Int32} (hl0 : l.stackTraces = false) (hsc : pw_sc g Ln xs) {K53 : Int32 → Int32 → Int32 → Int32 → Int32 → pw_W → Prop} (hK53 : ∀ (a2 a3 a4 a5 a6 : Int32) (w : pw_W), K53 a2 a3 a4 a5 a6 w → pw_V l g cx_L_law Q X 53 [(3000, 0), (9, 0), (0, a2), (0, a3), (0, a4), (0, a5), (0, a6), (1, 0), (1, 0), (1, 0), (1, 0), (1, 0), (1, 0), (1, 0), (1, 0), (1, 0), (1, 0), (1, 0), (1, 0), (1, 0), (1, 0), (1, 0)] [] w) (a2 a3 a5 a6 a9 a13 a14 a15 s0 s1 s2 : Int32) (w : pw_W) (h : jp_L_law_1261 Ln xs Q X K53 a2 a3 a5 a6 a9 a13 a14 a15 s0 s1 s2 w) : pw_V l g cx_L_law Q X 1261 [(3000, 0), (9, 0), (0, a2), (0, a3), (1, 0), (0, a5), (0, a6), (1, 0), (1, 0), (0, a9), (1, 0), (1, 0), (1, 0), (0, a13), (0, a14), (0, a15), (1, 0), (1, 0), (1, 0), (1, 0), (1, 0), (1, 0)] [(0, s0), (0, s1), (0, s2), (9, 0)] w := by
  unfold jp_L_law_1261 at h
  refine pv_iconst (v := 0) (n := 1262) d_L_law_1261 (by decide) rfl ?_
  refine pv_iconst (v := 0) (n := 1263) d_L_law_1262 (by decide) rfl ?_
  refine pv_callSH (n := 1266) [(9, 0), (0, s2), (0, s1), (0, s0), (0, 0), (0, 0)] [] (con_L_on hl0 h) q_541 q_542 q_483 q_540 pyo_L_on (by decide) rfl rfl d_L_law_1263 rfl (fun w85 r86 h _ => ?_) (fun _ _ h => h.elim)
  show pw_V l g cx_L_law Q X 1266 [(3000, 0), (9, 0), (0, a2), (0, a3), (1, 0), (0, a5), (0, a6), (1, 0), (1, 0), (0, a9), (1, 0), (1, 0), (1, 0), (0, a13), (0, a14), (0, a15), (1, 0), (1, 0), (1, 0), (1, 0), (1, 0), (1, 0)] [(0, r86)] w85
  refine pv_istore (n := 1268) (L' := [(3000, 0), (9, 0), (0, a2), (0, a3), (1, 0), (0, a5), (0, a6), (1, 0), (1, 0), (0, a9), (1, 0), (1, 0), (1, 0), (0, a13), (0, a14), (0, a15), (1, 0), (0, r86), (1, 0), (1, 0), (1, 0), (1, 0)]) d_L_law_1266 (by decide) rfl rfl ?_
  refine pv_iload (n := 1270) d_L_law_1268 rfl rfl ?_
  refine pv_if_le (n := 1273) (tgt := 1280) d_L_law_1270 (by decide) rfl (fun c87 => ?_) (fun c87 => ?_)
  · replace h := h.1 c87
    exact vjp_L_law_1280 hl0 hsc (by intros; exact hK53 _ _ _ _ _ _ (by assumption)) _ _ _ _ _ _ _ _ _ _ h
  · replace h := h.2 c87
    refine pv_iload (n := 1275) d_L_law_1273 rfl rfl ?_
    refine pv_bipush (v := 20) (n := 1277) d_L_law_1275 (by decide) rfl ?_
    refine pv_icmp_le (n := 1280) (tgt := 1329) d_L_law_1277 (by decide) rfl (fun c88 => ?_) (fun c88 => ?_)
    · replace h := h.1 c88
      refine pv_unset (i := 13) (L1 := [(3000, 0), (9, 0), (0, a2), (0, a3), (1, 0), (0, a5), (0, a6), (1, 0), (1, 0), (0, a9), (1, 0), (1, 0), (1, 0), (1, 0), (0, a14), (0, a15), (1, 0), (0, r86), (1, 0), (1, 0), (1, 0), (1, 0)]) rfl ?_
      refine pv_unset (i := 14) (L1 := [(3000, 0), (9, 0), (0, a2), (0, a3), (1, 0), (0, a5), (0, a6), (1, 0), (1, 0), (0, a9), (1, 0), (1, 0), (1, 0), (1, 0), (1, 0), (0, a15), (1, 0), (0, r86), (1, 0), (1, 0), (1, 0), (1, 0)]) rfl ?_
      refine pv_unset (i := 15) (L1 := [(3000, 0), (9, 0), (0, a2), (0, a3), (1, 0), (0, a5), (0, a6), (1, 0), (1, 0), (0, a9), (1, 0), (1, 0), (1, 0), (1, 0), (1, 0), (1, 0), (1, 0), (0, r86), (1, 0), (1, 0), (1, 0), (1, 0)]) rfl ?_
      refine pv_unset (i := 17) (L1 := [(3000, 0), (9, 0), (0, a2), (0, a3), (1, 0), (0, a5), (0, a6), (1, 0), (1, 0), (0, a9), (1, 0), (1, 0), (1, 0), (1, 0), (1, 0), (1, 0), (1, 0), (1, 0), (1, 0), (1, 0), (1, 0), (1, 0)]) rfl ?_
      exact vjp_L_law_1329 hl0 hsc (by intros; exact hK53 _ _ _ _ _ _ (by assumption)) _ _ _ _ _ _ h
    · replace h := h.2 c88
      exact vjp_L_law_1280 hl0 hsc (by intros; exact hK53 _ _ _ _ _ _ (by assumption)) _ _ _ _ _ _ _ _ _ _ h
set_option maxHeartbeats 4000000 in
set_option maxRecDepth 20000 in
def jp_L_law_1223 (Ln : Nat) (xs : Nat → Int32) (Q : pw_W → Int32 → Prop) (X : pw_W → Nat → Prop) (K53 : Int32 → Int32 → Int32 → Int32 → Int32 → pw_W → Prop) (a2 a3 a5 a6 a9 s0 : Int32) (w : pw_W) : Prop := ∃ k89, lp_L_law_1781 Ln xs Q X K53 k89 a2 a3 s0 a5 a6 a9 w
set_option maxHeartbeats 4000000 in
set_option maxRecDepth 20000 in
theorem vjp_L_law_1223 {l : Launch} {g : pw_G} {Q : pw_W → Int32 → Prop} {X : pw_W → Nat → Prop} {Ln : Nat} {xs : Nat → Int32} (hl0 : l.stackTraces = false) (hsc : pw_sc g Ln xs) {K53 : Int32 → Int32 → Int32 → Int32 → Int32 → pw_W → Prop} (hK53 : ∀ (a2 a3 a4 a5 a6 : Int32) (w : pw_W), K53 a2 a3 a4 a5 a6 w → pw_V l g cx_L_law Q X 53 [(3000, 0), (9, 0), (0, a2), (0, a3), (0, a4), (0, a5), (0, a6), (1, 0), (1, 0), (1, 0), (1, 0), (1, 0), (1, 0), (1, 0), (1, 0), (1, 0), (1, 0), (1, 0), (1, 0), (1, 0), (1, 0), (1, 0)] [] w) (a2 a3 a5 a6 a9 s0 : Int32) (w : pw_W) (h : jp_L_law_1223 Ln xs Q X K53 a2 a3 a5 a6 a9 s0 w) : pw_V l g cx_L_law Q X 1223 [(3000, 0), (9, 0), (0, a2), (0, a3), (1, 0), (0, a5), (0, a6), (1, 0), (1, 0), (0, a9), (1, 0), (1, 0), (1, 0), (1, 0), (1, 0), (1, 0), (1, 0), (1, 0), (1, 0), (1, 0), (1, 0), (1, 0)] [(0, s0)] w := by
  unfold jp_L_law_1223 at h
  refine pv_istore (n := 1225) (L' := [(3000, 0), (9, 0), (0, a2), (0, a3), (0, s0), (0, a5), (0, a6), (1, 0), (1, 0), (0, a9), (1, 0), (1, 0), (1, 0), (1, 0), (1, 0), (1, 0), (1, 0), (1, 0), (1, 0), (1, 0), (1, 0), (1, 0)]) d_L_law_1223 (by decide) rfl rfl ?_
  refine pv_goto (tgt := 1781) d_L_law_1225 (by decide) ?_
  obtain ⟨k89, h⟩ := h
  exact vlp_L_law_1781 hl0 hsc (by intros; exact hK53 _ _ _ _ _ _ (by assumption)) _ _ _ _ _ _ _ _ h
set_option maxHeartbeats 4000000 in
set_option maxRecDepth 20000 in
def jp_L_law_1222 (Ln : Nat) (xs : Nat → Int32) (Q : pw_W → Int32 → Prop) (X : pw_W → Nat → Prop) (K53 : Int32 → Int32 → Int32 → Int32 → Int32 → pw_W → Prop) (a2 a3 a5 a6 a9 : Int32) (w : pw_W) : Prop := jp_L_law_1223 Ln xs Q X K53 a2 a3 a5 a6 a9 0 w
set_option maxHeartbeats 4000000 in
set_option maxRecDepth 20000 in
theorem vjp_L_law_1222 {l : Launch} {g : pw_G} {Q : pw_W → Int32 → Prop} {X : pw_W → Nat → Prop} {Ln : Nat} {xs : Nat → Int32} (hl0 : l.stackTraces = false) (hsc : pw_sc g Ln xs) {K53 : Int32 → Int32 → Int32 → Int32 → Int32 → pw_W → Prop} (hK53 : ∀ (a2 a3 a4 a5 a6 : Int32) (w : pw_W), K53 a2 a3 a4 a5 a6 w → pw_V l g cx_L_law Q X 53 [(3000, 0), (9, 0), (0, a2), (0, a3), (0, a4), (0, a5), (0, a6), (1, 0), (1, 0), (1, 0), (1, 0), (1, 0), (1, 0), (1, 0), (1, 0), (1, 0), (1, 0), (1, 0), (1, 0), (1, 0), (1, 0), (1, 0)] [] w) (a2 a3 a5 a6 a9 : Int32) (w : pw_W) (h : jp_L_law_1222 Ln xs Q X K53 a2 a3 a5 a6 a9 w) : pw_V l g cx_L_law Q X 1222 [(3000, 0), (9, 0), (0, a2), (0, a3), (1, 0), (0, a5), (0, a6), (1, 0), (1, 0), (0, a9), (1, 0), (1, 0), (1, 0), (1, 0), (1, 0), (1, 0), (1, 0), (1, 0), (1, 0), (1, 0), (1, 0), (1, 0)] [] w := by
  unfold jp_L_law_1222 at h
  refine pv_iconst (v := 0) (n := 1223) d_L_law_1222 (by decide) rfl ?_
  exact vjp_L_law_1223 hl0 hsc (by intros; exact hK53 _ _ _ _ _ _ (by assumption)) _ _ _ _ _ _ _ h
set_option maxHeartbeats 4000000 in
set_option maxRecDepth 20000 in
def jp_L_law_1127 (Ln : Nat) (xs : Nat → Int32) (Q : pw_W → Int32 → Prop) (X : pw_W → Nat → Prop) (K53 : Int32 → Int32 → Int32 → Int32 → Int32 → pw_W → Prop) (a2 a3 a5 a6 a9 s0 : Int32) (w : pw_W) : Prop := ∃ k90, lp_L_law_1781 Ln xs Q X K53 k90 a2 a3 s0 a5 a6 a9 w
set_option maxHeartbeats 4000000 in
set_option maxRecDepth 20000 in
theorem vjp_L_law_1127 {l : Launch} {g : pw_G} {Q : pw_W → Int32 → Prop} {X : pw_W → Nat → Prop} {Ln : Nat} {xs : Nat → Int32} (hl0 : l.stackTraces = false) (hsc : pw_sc g Ln xs) {K53 : Int32 → Int32 → Int32 → Int32 → Int32 → pw_W → Prop} (hK53 : ∀ (a2 a3 a4 a5 a6 : Int32) (w : pw_W), K53 a2 a3 a4 a5 a6 w → pw_V l g cx_L_law Q X 53 [(3000, 0), (9, 0), (0, a2), (0, a3), (0, a4), (0, a5), (0, a6), (1, 0), (1, 0), (1, 0), (1, 0), (1, 0), (1, 0), (1, 0), (1, 0), (1, 0), (1, 0), (1, 0), (1, 0), (1, 0), (1, 0), (1, 0)] [] w) (a2 a3 a5 a6 a9 s0 : Int32) (w : pw_W) (h : jp_L_law_1127 Ln xs Q X K53 a2 a3 a5 a6 a9 s0 w) : pw_V l g cx_L_law Q X 1127 [(3000, 0), (9, 0), (0, a2), (0, a3), (1, 0), (0, a5), (0, a6), (1, 0), (1, 0), (0, a9), (1, 0), (1, 0), (1, 0), (1, 0), (1, 0), (1, 0), (1, 0), (1, 0), (1, 0), (1, 0), (1, 0), (1, 0)] [(0, s0)] w := by
  unfold jp_L_law_1127 at h
  refine pv_istore (n := 1129) (L' := [(3000, 0), (9, 0), (0, a2), (0, a3), (0, s0), (0, a5), (0, a6), (1, 0), (1, 0), (0, a9), (1, 0), (1, 0), (1, 0), (1, 0), (1, 0), (1, 0), (1, 0), (1, 0), (1, 0), (1, 0), (1, 0), (1, 0)]) d_L_law_1127 (by decide) rfl rfl ?_
  refine pv_goto (tgt := 1781) d_L_law_1129 (by decide) ?_
  obtain ⟨k90, h⟩ := h
  exact vlp_L_law_1781 hl0 hsc (by intros; exact hK53 _ _ _ _ _ _ (by assumption)) _ _ _ _ _ _ _ _ h
set_option maxHeartbeats 4000000 in
set_option maxRecDepth 20000 in
def jp_L_law_1126 (Ln : Nat) (xs : Nat → Int32) (Q : pw_W → Int32 → Prop) (X : pw_W → Nat → Prop) (K53 : Int32 → Int32 → Int32 → Int32 → Int32 → pw_W → Prop) (a2 a3 a5 a6 a9 : Int32) (w : pw_W) : Prop := jp_L_law_1127 Ln xs Q X K53 a2 a3 a5 a6 a9 0 w
set_option maxHeartbeats 4000000 in
set_option maxRecDepth 20000 in
theorem vjp_L_law_1126 {l : Launch} {g : pw_G} {Q : pw_W → Int32 → Prop} {X : pw_W → Nat → Prop} {Ln : Nat} {xs : Nat → Int32} (hl0 : l.stackTraces = false) (hsc : pw_sc g Ln xs) {K53 : Int32 → Int32 → Int32 → Int32 → Int32 → pw_W → Prop} (hK53 : ∀ (a2 a3 a4 a5 a6 : Int32) (w : pw_W), K53 a2 a3 a4 a5 a6 w → pw_V l g cx_L_law Q X 53 [(3000, 0), (9, 0), (0, a2), (0, a3), (0, a4), (0, a5), (0, a6), (1, 0), (1, 0), (1, 0), (1, 0), (1, 0), (1, 0), (1, 0), (1, 0), (1, 0), (1, 0), (1, 0), (1, 0), (1, 0), (1, 0), (1, 0)] [] w) (a2 a3 a5 a6 a9 : Int32) (w : pw_W) (h : jp_L_law_1126 Ln xs Q X K53 a2 a3 a5 a6 a9 w) : pw_V l g cx_L_law Q X 1126 [(3000, 0), (9, 0), (0, a2), (0, a3), (1, 0), (0, a5), (0, a6), (1, 0), (1, 0), (0, a9), (1, 0), (1, 0), (1, 0), (1, 0), (1, 0), (1, 0), (1, 0), (1, 0), (1, 0), (1, 0), (1, 0), (1, 0)] [] w := by
  unfold jp_L_law_1126 at h
  refine pv_iconst (v := 0) (n := 1127) d_L_law_1126 (by decide) rfl ?_
  exact vjp_L_law_1127 hl0 hsc (by intros; exact hK53 _ _ _ _ _ _ (by assumption)) _ _ _ _ _ _ _ h
set_option maxHeartbeats 4000000 in
set_option maxRecDepth 20000 in
def jp_L_law_1015 (Ln : Nat) (xs : Nat → Int32) (Q : pw_W → Int32 → Prop) (X : pw_W → Nat → Prop) (K53 : Int32 → Int32 → Int32 → Int32 → Int32 → pw_W → Prop) (a2 a3 a5 a6 a9 s0 : Int32) (w : pw_W) : Prop := ∃ k91, lp_L_law_1781 Ln xs Q X K53 k91 a2 a3 s0 a5 a6 a9 w
set_option maxHeartbeats 4000000 in
set_option maxRecDepth 20000 in
theorem vjp_L_law_1015 {l : Launch} {g : pw_G} {Q : pw_W → Int32 → Prop} {X : pw_W → Nat → Prop} {Ln : Nat} {xs : Nat → Int32} (hl0 : l.stackTraces = false) (hsc : pw_sc g Ln xs) {K53 : Int32 → Int32 → Int32 → Int32 → Int32 → pw_W → Prop} (hK53 : ∀ (a2 a3 a4 a5 a6 : Int32) (w : pw_W), K53 a2 a3 a4 a5 a6 w → pw_V l g cx_L_law Q X 53 [(3000, 0), (9, 0), (0, a2), (0, a3), (0, a4), (0, a5), (0, a6), (1, 0), (1, 0), (1, 0), (1, 0), (1, 0), (1, 0), (1, 0), (1, 0), (1, 0), (1, 0), (1, 0), (1, 0), (1, 0), (1, 0), (1, 0)] [] w) (a2 a3 a5 a6 a9 s0 : Int32) (w : pw_W) (h : jp_L_law_1015 Ln xs Q X K53 a2 a3 a5 a6 a9 s0 w) : pw_V l g cx_L_law Q X 1015 [(3000, 0), (9, 0), (0, a2), (0, a3), (1, 0), (0, a5), (0, a6), (1, 0), (1, 0), (0, a9), (1, 0), (1, 0), (1, 0), (1, 0), (1, 0), (1, 0), (1, 0), (1, 0), (1, 0), (1, 0), (1, 0), (1, 0)] [(0, s0)] w := by
  unfold jp_L_law_1015 at h
  refine pv_istore (n := 1017) (L' := [(3000, 0), (9, 0), (0, a2), (0, a3), (0, s0), (0, a5), (0, a6), (1, 0), (1, 0), (0, a9), (1, 0), (1, 0), (1, 0), (1, 0), (1, 0), (1, 0), (1, 0), (1, 0), (1, 0), (1, 0), (1, 0), (1, 0)]) d_L_law_1015 (by decide) rfl rfl ?_
  refine pv_goto (tgt := 1781) d_L_law_1017 (by decide) ?_
  obtain ⟨k91, h⟩ := h
  exact vlp_L_law_1781 hl0 hsc (by intros; exact hK53 _ _ _ _ _ _ (by assumption)) _ _ _ _ _ _ _ _ h
set_option maxHeartbeats 4000000 in
set_option maxRecDepth 20000 in
def jp_L_law_1014 (Ln : Nat) (xs : Nat → Int32) (Q : pw_W → Int32 → Prop) (X : pw_W → Nat → Prop) (K53 : Int32 → Int32 → Int32 → Int32 → Int32 → pw_W → Prop) (a2 a3 a5 a6 a9 : Int32) (w : pw_W) : Prop := jp_L_law_1015 Ln xs Q X K53 a2 a3 a5 a6 a9 0 w
set_option maxHeartbeats 4000000 in
set_option maxRecDepth 20000 in
theorem vjp_L_law_1014 {l : Launch} {g : pw_G} {Q : pw_W → Int32 → Prop} {X : pw_W → Nat → Prop} {Ln : Nat} {xs : Nat → Int32} (hl0 : l.stackTraces = false) (hsc : pw_sc g Ln xs) {K53 : Int32 → Int32 → Int32 → Int32 → Int32 → pw_W → Prop} (hK53 : ∀ (a2 a3 a4 a5 a6 : Int32) (w : pw_W), K53 a2 a3 a4 a5 a6 w → pw_V l g cx_L_law Q X 53 [(3000, 0), (9, 0), (0, a2), (0, a3), (0, a4), (0, a5), (0, a6), (1, 0), (1, 0), (1, 0), (1, 0), (1, 0), (1, 0), (1, 0), (1, 0), (1, 0), (1, 0), (1, 0), (1, 0), (1, 0), (1, 0), (1, 0)] [] w) (a2 a3 a5 a6 a9 : Int32) (w : pw_W) (h : jp_L_law_1014 Ln xs Q X K53 a2 a3 a5 a6 a9 w) : pw_V l g cx_L_law Q X 1014 [(3000, 0), (9, 0), (0, a2), (0, a3), (1, 0), (0, a5), (0, a6), (1, 0), (1, 0), (0, a9), (1, 0), (1, 0), (1, 0), (1, 0), (1, 0), (1, 0), (1, 0), (1, 0), (1, 0), (1, 0), (1, 0), (1, 0)] [] w := by
  unfold jp_L_law_1014 at h
  refine pv_iconst (v := 0) (n := 1015) d_L_law_1014 (by decide) rfl ?_
  exact vjp_L_law_1015 hl0 hsc (by intros; exact hK53 _ _ _ _ _ _ (by assumption)) _ _ _ _ _ _ _ h
set_option maxHeartbeats 4000000 in
set_option maxRecDepth 20000 in
def jp_L_law_1010 (Ln : Nat) (xs : Nat → Int32) (Q : pw_W → Int32 → Prop) (X : pw_W → Nat → Prop) (K53 : Int32 → Int32 → Int32 → Int32 → Int32 → pw_W → Prop) (a2 a3 a5 a6 a9 : Int32) (w : pw_W) : Prop := jp_L_law_1015 Ln xs Q X K53 a2 a3 a5 a6 a9 1 w
set_option maxHeartbeats 4000000 in
set_option maxRecDepth 20000 in
theorem vjp_L_law_1010 {l : Launch} {g : pw_G} {Q : pw_W → Int32 → Prop} {X : pw_W → Nat → Prop} {Ln : Nat} {xs : Nat → Int32} (hl0 : l.stackTraces = false) (hsc : pw_sc g Ln xs) {K53 : Int32 → Int32 → Int32 → Int32 → Int32 → pw_W → Prop} (hK53 : ∀ (a2 a3 a4 a5 a6 : Int32) (w : pw_W), K53 a2 a3 a4 a5 a6 w → pw_V l g cx_L_law Q X 53 [(3000, 0), (9, 0), (0, a2), (0, a3), (0, a4), (0, a5), (0, a6), (1, 0), (1, 0), (1, 0), (1, 0), (1, 0), (1, 0), (1, 0), (1, 0), (1, 0), (1, 0), (1, 0), (1, 0), (1, 0), (1, 0), (1, 0)] [] w) (a2 a3 a5 a6 a9 : Int32) (w : pw_W) (h : jp_L_law_1010 Ln xs Q X K53 a2 a3 a5 a6 a9 w) : pw_V l g cx_L_law Q X 1010 [(3000, 0), (9, 0), (0, a2), (0, a3), (1, 0), (0, a5), (0, a6), (1, 0), (1, 0), (0, a9), (1, 0), (1, 0), (1, 0), (1, 0), (1, 0), (1, 0), (1, 0), (1, 0), (1, 0), (1, 0), (1, 0), (1, 0)] [] w := by
  unfold jp_L_law_1010 at h
  refine pv_iconst (v := 1) (n := 1011) d_L_law_1010 (by decide) rfl ?_
  refine pv_goto (tgt := 1015) d_L_law_1011 (by decide) ?_
  exact vjp_L_law_1015 hl0 hsc (by intros; exact hK53 _ _ _ _ _ _ (by assumption)) _ _ _ _ _ _ _ h
set_option maxHeartbeats 4000000 in
set_option maxRecDepth 20000 in
def jp_L_law_939 (Ln : Nat) (xs : Nat → Int32) (Q : pw_W → Int32 → Prop) (X : pw_W → Nat → Prop) (K53 : Int32 → Int32 → Int32 → Int32 → Int32 → pw_W → Prop) (a2 a3 a5 a6 a8 a9 a10 a12 a13 a14 a15 : Int32) (w : pw_W) : Prop := (¬ a9 = 8 → (¬ a9 = 9 → (¬ a9 = 10 → (¬ a9 = 11 → (¬ a9 = 12 → (¬ a9 = 13 → jp_L_law_1593 Ln xs Q X K53 a2 a3 a5 a6 a8 a9 a10 w) ∧ (a9 = 13 → (¬ ((a8 >>> (20 &&& 31)) &&& 1) = 0 → jp_L_law_1593 Ln xs Q X K53 a2 a3 a5 a6 a8 a9 a10 w) ∧ (((a8 >>> (20 &&& 31)) &&& 1) = 0 → (¬ ((a8 >>> (21 &&& 31)) &&& 7) = 0 → wp_L_on w 13 a10 ((a8 >>> (3 &&& 31)) - (a8 >>> (3 &&& 31)) / 12 * 12) 0 0 (fun w100 r101 => jp_L_law_1562 Ln xs Q X K53 a2 a3 a5 a6 a9 r101 w100) (fun _ _ => False)) ∧ (((a8 >>> (21 &&& 31)) &&& 7) = 0 → wp_L_on w 14 a10 0 0 0 (fun w102 r103 => jp_L_law_1562 Ln xs Q X K53 a2 a3 a5 a6 a9 r103 w102) (fun _ _ => False))))) ∧ (a9 = 12 → wp_X_square w a15 0 (fun w104 r105 => (¬ ((a8 >>> (3 &&& 31)) &&& 1) = 0 → jp_L_law_1369 Ln xs Q X K53 a2 a3 a5 a6 a8 a9 a10 a15 r105 0 w104) ∧ (((a8 >>> (3 &&& 31)) &&& 1) = 0 → jp_L_law_1369 Ln xs Q X K53 a2 a3 a5 a6 a8 a9 a10 a15 r105 1 w104)) (fun _ _ => False))) ∧ (a9 = 11 → (¬ ((a8 >>> (3 &&& 31)) &&& 1) = 0 → jp_L_law_1261 Ln xs Q X K53 a2 a3 a5 a6 a9 a13 a14 a15 (a15 + 10) a15 10 w) ∧ (((a8 >>> (3 &&& 31)) &&& 1) = 0 → jp_L_law_1261 Ln xs Q X K53 a2 a3 a5 a6 a9 a13 a14 a15 (a15 + 1) a15 10 w))) ∧ (a9 = 10 → ∀ v108, v108 = ((1 : Int32) + ((a8 >>> (3 &&& 31)) - (a8 >>> (3 &&& 31)) / 60 * 60)) → wp_X_water w 1 (fun w110 r111 => wp_X_water w110 2 (fun w112 r113 => wp_X_rain w112 v108 (fun w114 r115 => (r115 < 0 → jp_L_law_1222 Ln xs Q X K53 a2 a3 a5 a6 a9 w114) ∧ (¬ r115 < 0 → wp_X_water w114 1 (fun w117 r118 => (¬ r118 = (r111 + ((100 : Int32) * v108)) → jp_L_law_1222 Ln xs Q X K53 a2 a3 a5 a6 a9 w117) ∧ (r118 = (r111 + ((100 : Int32) * v108)) → wp_X_water w117 2 (fun w120 r121 => (¬ r121 = (r113 + r115) → jp_L_law_1222 Ln xs Q X K53 a2 a3 a5 a6 a9 w120) ∧ (r121 = (r113 + r115) → wp_X_square w120 a15 1 (fun w123 r124 => (r124 < v108 → jp_L_law_1222 Ln xs Q X K53 a2 a3 a5 a6 a9 w123) ∧ (¬ r124 < v108 → jp_L_law_1223 Ln xs Q X K53 a2 a3 a5 a6 a9 1 w123)) (fun _ _ => False))) (fun _ _ => False))) (fun _ _ => False))) (fun _ _ => False)) (fun _ _ => False)) (fun _ _ => False))) ∧ (a9 = 9 → wp_X_sheep w a10 a12 (fun w126 r127 => ∀ v128, v128 = ((a8 >>> (3 &&& 31)) - (a8 >>> (3 &&& 31)) / 40 * 40) → wp_L_on w126 9 a10 a12 v128 0 (fun w130 r131 => (¬ r131 = (-13) → (¬ r131 = r127 → jp_L_law_1126 Ln xs Q X K53 a2 a3 a5 a6 a9 w130) ∧ (r131 = r127 → wp_X_sheep w130 a10 a12 (fun w134 r135 => (¬ r135 = v128 → jp_L_law_1126 Ln xs Q X K53 a2 a3 a5 a6 a9 w134) ∧ (r135 = v128 → wp_X_area w134 a12 (fun w137 r138 => (((2 : Int32) * r138) < v128 → jp_L_law_1126 Ln xs Q X K53 a2 a3 a5 a6 a9 w137) ∧ (¬ ((2 : Int32) * r138) < v128 → jp_L_law_1127 Ln xs Q X K53 a2 a3 a5 a6 a9 1 w137)) (fun _ _ => False))) (fun _ _ => False))) ∧ (r131 = (-13) → wp_X_sheep w130 a10 a12 (fun w140 r141 => (¬ r141 = r127 → jp_L_law_1127 Ln xs Q X K53 a2 a3 a5 a6 a9 0 w140) ∧ (r141 = r127 → jp_L_law_1127 Ln xs Q X K53 a2 a3 a5 a6 a9 1 w140)) (fun _ _ => False))) (fun _ _ => False)) (fun _ _ => False))) ∧ (a9 = 8 → wp_L_on w 8 ((a8 >>> (3 &&& 31)) - (a8 >>> (3 &&& 31)) / 3 * 3) a12 a10 ((1 : Int32) + ((a8 >>> (9 &&& 31)) - (a8 >>> (9 &&& 31)) / 99 * 99)) (fun w143 r144 => (r144 = (-13) → jp_L_law_1010 Ln xs Q X K53 a2 a3 a5 a6 a9 w143) ∧ (¬ r144 = (-13) → (r144 < a2 → jp_L_law_1014 Ln xs Q X K53 a2 a3 a5 a6 a9 w143) ∧ (¬ r144 < a2 → wp_X_rightAt w143 r144 2 (fun w147 r148 => (¬ r148 = a10 → jp_L_law_1014 Ln xs Q X K53 a2 a3 a5 a6 a9 w147) ∧ (r148 = a10 → wp_X_rightAt w147 r144 4 (fun w150 r151 => (¬ r151 = (-1) → jp_L_law_1014 Ln xs Q X K53 a2 a3 a5 a6 a9 w150) ∧ (r151 = (-1) → jp_L_law_1010 Ln xs Q X K53 a2 a3 a5 a6 a9 w150)) (fun _ _ => False))) (fun _ _ => False)))) (fun _ _ => False))
set_option maxHeartbeats 4000000 in
set_option maxRecDepth 20000 in
theorem vjp_L_law_939 {l : Launch} {g : pw_G} {Q : pw_W → Int32 → Prop} {X : pw_W → Nat → Prop} {Ln : Nat} {xs : Nat → Int32} (hl0 : l.stackTraces = false) (hsc : pw_sc g Ln xs) {K53 : Int32 → Int32 → Int32 → Int32 → Int32 → pw_W → Prop} (hK53 : ∀ (a2 a3 a4 a5 a6 : Int32) (w : pw_W), K53 a2 a3 a4 a5 a6 w → pw_V l g cx_L_law Q X 53 [(3000, 0), (9, 0), (0, a2), (0, a3), (0, a4), (0, a5), (0, a6), (1, 0), (1, 0), (1, 0), (1, 0), (1, 0), (1, 0), (1, 0), (1, 0), (1, 0), (1, 0), (1, 0), (1, 0), (1, 0), (1, 0), (1, 0)] [] w) (a2 a3 a5 a6 a8 a9 a10 a12 a13 a14 a15 : Int32) (w : pw_W) (h : jp_L_law_939 Ln xs Q X K53 a2 a3 a5 a6 a8 a9 a10 a12 a13 a14 a15 w) : pw_V l g cx_L_law Q X 939 [(3000, 0), (9, 0), (0, a2), (0, a3), (1, 0), (0, a5), (0, a6), (1, 0), (0, a8), (0, a9), (0, a10), (1, 0), (0, a12), (0, a13), (0, a14), (0, a15), (1, 0), (1, 0), (1, 0), (1, 0), (1, 0), (1, 0)] [] w := by
  unfold jp_L_law_939 at h
  refine pv_iload (n := 941) d_L_law_939 rfl rfl ?_
  refine pv_bipush (v := 8) (n := 943) d_L_law_941 (by decide) rfl ?_
  refine pv_icmp_ne (n := 946) (tgt := 1020) d_L_law_943 (by decide) rfl (fun c92 => ?_) (fun c92 => ?_)
  · replace h := h.1 c92
    refine pv_iload (n := 1022) d_L_law_1020 rfl rfl ?_
    refine pv_bipush (v := 9) (n := 1024) d_L_law_1022 (by decide) rfl ?_
    refine pv_icmp_ne (n := 1027) (tgt := 1132) d_L_law_1024 (by decide) rfl (fun c93 => ?_) (fun c93 => ?_)
    · replace h := h.1 c93
      refine pv_iload (n := 1134) d_L_law_1132 rfl rfl ?_
      refine pv_bipush (v := 10) (n := 1136) d_L_law_1134 (by decide) rfl ?_
      refine pv_icmp_ne (n := 1139) (tgt := 1228) d_L_law_1136 (by decide) rfl (fun c94 => ?_) (fun c94 => ?_)
      · replace h := h.1 c94
        refine pv_iload (n := 1230) d_L_law_1228 rfl rfl ?_
        refine pv_bipush (v := 11) (n := 1232) d_L_law_1230 (by decide) rfl ?_
        refine pv_icmp_ne (n := 1235) (tgt := 1339) d_L_law_1232 (by decide) rfl (fun c95 => ?_) (fun c95 => ?_)
        · replace h := h.1 c95
          refine pv_iload (n := 1341) d_L_law_1339 rfl rfl ?_
          refine pv_bipush (v := 12) (n := 1343) d_L_law_1341 (by decide) rfl ?_
          refine pv_icmp_ne (n := 1346) (tgt := 1503) d_L_law_1343 (by decide) rfl (fun c96 => ?_) (fun c96 => ?_)
          · replace h := h.1 c96
            refine pv_iload (n := 1505) d_L_law_1503 rfl rfl ?_
            refine pv_bipush (v := 13) (n := 1507) d_L_law_1505 (by decide) rfl ?_
            refine pv_icmp_ne (n := 1510) (tgt := 1593) d_L_law_1507 (by decide) rfl (fun c97 => ?_) (fun c97 => ?_)
            · replace h := h.1 c97
              refine pv_unset (i := 12) (L1 := [(3000, 0), (9, 0), (0, a2), (0, a3), (1, 0), (0, a5), (0, a6), (1, 0), (0, a8), (0, a9), (0, a10), (1, 0), (1, 0), (0, a13), (0, a14), (0, a15), (1, 0), (1, 0), (1, 0), (1, 0), (1, 0), (1, 0)]) rfl ?_
              refine pv_unset (i := 13) (L1 := [(3000, 0), (9, 0), (0, a2), (0, a3), (1, 0), (0, a5), (0, a6), (1, 0), (0, a8), (0, a9), (0, a10), (1, 0), (1, 0), (1, 0), (0, a14), (0, a15), (1, 0), (1, 0), (1, 0), (1, 0), (1, 0), (1, 0)]) rfl ?_
              refine pv_unset (i := 14) (L1 := [(3000, 0), (9, 0), (0, a2), (0, a3), (1, 0), (0, a5), (0, a6), (1, 0), (0, a8), (0, a9), (0, a10), (1, 0), (1, 0), (1, 0), (1, 0), (0, a15), (1, 0), (1, 0), (1, 0), (1, 0), (1, 0), (1, 0)]) rfl ?_
              refine pv_unset (i := 15) (L1 := [(3000, 0), (9, 0), (0, a2), (0, a3), (1, 0), (0, a5), (0, a6), (1, 0), (0, a8), (0, a9), (0, a10), (1, 0), (1, 0), (1, 0), (1, 0), (1, 0), (1, 0), (1, 0), (1, 0), (1, 0), (1, 0), (1, 0)]) rfl ?_
              exact vjp_L_law_1593 hl0 hsc (by intros; exact hK53 _ _ _ _ _ _ (by assumption)) _ _ _ _ _ _ _ _ h
            · replace h := h.2 c97
              refine pv_iload (n := 1512) d_L_law_1510 rfl rfl ?_
              refine pv_bipush (v := 20) (n := 1514) d_L_law_1512 (by decide) rfl ?_
              refine pv_ishr (n := 1515) d_L_law_1514 rfl ?_
              refine pv_iconst (v := 1) (n := 1516) d_L_law_1515 (by decide) rfl ?_
              refine pv_iand (n := 1517) d_L_law_1516 rfl ?_
              refine pv_if_ne (n := 1520) (tgt := 1593) d_L_law_1517 (by decide) rfl (fun c98 => ?_) (fun c98 => ?_)
              · replace h := h.1 c98
                refine pv_unset (i := 12) (L1 := [(3000, 0), (9, 0), (0, a2), (0, a3), (1, 0), (0, a5), (0, a6), (1, 0), (0, a8), (0, a9), (0, a10), (1, 0), (1, 0), (0, a13), (0, a14), (0, a15), (1, 0), (1, 0), (1, 0), (1, 0), (1, 0), (1, 0)]) rfl ?_
                refine pv_unset (i := 13) (L1 := [(3000, 0), (9, 0), (0, a2), (0, a3), (1, 0), (0, a5), (0, a6), (1, 0), (0, a8), (0, a9), (0, a10), (1, 0), (1, 0), (1, 0), (0, a14), (0, a15), (1, 0), (1, 0), (1, 0), (1, 0), (1, 0), (1, 0)]) rfl ?_
                refine pv_unset (i := 14) (L1 := [(3000, 0), (9, 0), (0, a2), (0, a3), (1, 0), (0, a5), (0, a6), (1, 0), (0, a8), (0, a9), (0, a10), (1, 0), (1, 0), (1, 0), (1, 0), (0, a15), (1, 0), (1, 0), (1, 0), (1, 0), (1, 0), (1, 0)]) rfl ?_
                refine pv_unset (i := 15) (L1 := [(3000, 0), (9, 0), (0, a2), (0, a3), (1, 0), (0, a5), (0, a6), (1, 0), (0, a8), (0, a9), (0, a10), (1, 0), (1, 0), (1, 0), (1, 0), (1, 0), (1, 0), (1, 0), (1, 0), (1, 0), (1, 0), (1, 0)]) rfl ?_
                exact vjp_L_law_1593 hl0 hsc (by intros; exact hK53 _ _ _ _ _ _ (by assumption)) _ _ _ _ _ _ _ _ h
              · replace h := h.2 c98
                refine pv_iload (n := 1522) d_L_law_1520 rfl rfl ?_
                refine pv_bipush (v := 21) (n := 1524) d_L_law_1522 (by decide) rfl ?_
                refine pv_ishr (n := 1525) d_L_law_1524 rfl ?_
                refine pv_bipush (v := 7) (n := 1527) d_L_law_1525 (by decide) rfl ?_
                refine pv_iand (n := 1528) d_L_law_1527 rfl ?_
                refine pv_if_ne (n := 1531) (tgt := 1545) d_L_law_1528 (by decide) rfl (fun c99 => ?_) (fun c99 => ?_)
                · replace h := h.1 c99
                  refine pv_aload_n (n := 1546) d_L_law_1545 rfl rfl rfl ?_
                  refine pv_bipush (v := 13) (n := 1548) d_L_law_1546 (by decide) rfl ?_
                  refine pv_iload (n := 1550) d_L_law_1548 rfl rfl ?_
                  refine pv_iload (n := 1552) d_L_law_1550 rfl rfl ?_
                  refine pv_iconst (v := 3) (n := 1553) d_L_law_1552 (by decide) rfl ?_
                  refine pv_ishr (n := 1554) d_L_law_1553 rfl ?_
                  refine pv_bipush (v := 12) (n := 1556) d_L_law_1554 (by decide) rfl ?_
                  refine pv_irem (n := 1557) d_L_law_1556 (by decide) rfl ?_
                  refine pv_iconst (v := 0) (n := 1558) d_L_law_1557 (by decide) rfl ?_
                  refine pv_iconst (v := 0) (n := 1559) d_L_law_1558 (by decide) rfl ?_
                  refine pv_callSH (n := 1562) [(9, 0), (0, 13), (0, a10), (0, ((a8 >>> (3 &&& 31)) - (a8 >>> (3 &&& 31)) / 12 * 12)), (0, 0), (0, 0)] [] (con_L_on hl0 h) q_541 q_542 q_483 q_540 pyo_L_on (by decide) rfl rfl d_L_law_1559 rfl (fun w100 r101 h _ => ?_) (fun _ _ h => h.elim)
                  show pw_V l g cx_L_law Q X 1562 [(3000, 0), (9, 0), (0, a2), (0, a3), (1, 0), (0, a5), (0, a6), (1, 0), (0, a8), (0, a9), (0, a10), (1, 0), (0, a12), (0, a13), (0, a14), (0, a15), (1, 0), (1, 0), (1, 0), (1, 0), (1, 0), (1, 0)] [(0, r101)] w100
                  refine pv_unset (i := 8) (L1 := [(3000, 0), (9, 0), (0, a2), (0, a3), (1, 0), (0, a5), (0, a6), (1, 0), (1, 0), (0, a9), (0, a10), (1, 0), (0, a12), (0, a13), (0, a14), (0, a15), (1, 0), (1, 0), (1, 0), (1, 0), (1, 0), (1, 0)]) rfl ?_
                  refine pv_unset (i := 10) (L1 := [(3000, 0), (9, 0), (0, a2), (0, a3), (1, 0), (0, a5), (0, a6), (1, 0), (1, 0), (0, a9), (1, 0), (1, 0), (0, a12), (0, a13), (0, a14), (0, a15), (1, 0), (1, 0), (1, 0), (1, 0), (1, 0), (1, 0)]) rfl ?_
                  refine pv_unset (i := 12) (L1 := [(3000, 0), (9, 0), (0, a2), (0, a3), (1, 0), (0, a5), (0, a6), (1, 0), (1, 0), (0, a9), (1, 0), (1, 0), (1, 0), (0, a13), (0, a14), (0, a15), (1, 0), (1, 0), (1, 0), (1, 0), (1, 0), (1, 0)]) rfl ?_
                  refine pv_unset (i := 13) (L1 := [(3000, 0), (9, 0), (0, a2), (0, a3), (1, 0), (0, a5), (0, a6), (1, 0), (1, 0), (0, a9), (1, 0), (1, 0), (1, 0), (1, 0), (0, a14), (0, a15), (1, 0), (1, 0), (1, 0), (1, 0), (1, 0), (1, 0)]) rfl ?_
                  refine pv_unset (i := 14) (L1 := [(3000, 0), (9, 0), (0, a2), (0, a3), (1, 0), (0, a5), (0, a6), (1, 0), (1, 0), (0, a9), (1, 0), (1, 0), (1, 0), (1, 0), (1, 0), (0, a15), (1, 0), (1, 0), (1, 0), (1, 0), (1, 0), (1, 0)]) rfl ?_
                  refine pv_unset (i := 15) (L1 := [(3000, 0), (9, 0), (0, a2), (0, a3), (1, 0), (0, a5), (0, a6), (1, 0), (1, 0), (0, a9), (1, 0), (1, 0), (1, 0), (1, 0), (1, 0), (1, 0), (1, 0), (1, 0), (1, 0), (1, 0), (1, 0), (1, 0)]) rfl ?_
                  exact vjp_L_law_1562 hl0 hsc (by intros; exact hK53 _ _ _ _ _ _ (by assumption)) _ _ _ _ _ _ _ h
                · replace h := h.2 c99
                  refine pv_aload_n (n := 1532) d_L_law_1531 rfl rfl rfl ?_
                  refine pv_bipush (v := 14) (n := 1534) d_L_law_1532 (by decide) rfl ?_
                  refine pv_iload (n := 1536) d_L_law_1534 rfl rfl ?_
                  refine pv_iconst (v := 0) (n := 1537) d_L_law_1536 (by decide) rfl ?_
                  refine pv_iconst (v := 0) (n := 1538) d_L_law_1537 (by decide) rfl ?_
                  refine pv_iconst (v := 0) (n := 1539) d_L_law_1538 (by decide) rfl ?_
                  refine pv_callSH (n := 1542) [(9, 0), (0, 14), (0, a10), (0, 0), (0, 0), (0, 0)] [] (con_L_on hl0 h) q_541 q_542 q_483 q_540 pyo_L_on (by decide) rfl rfl d_L_law_1539 rfl (fun w102 r103 h _ => ?_) (fun _ _ h => h.elim)
                  show pw_V l g cx_L_law Q X 1542 [(3000, 0), (9, 0), (0, a2), (0, a3), (1, 0), (0, a5), (0, a6), (1, 0), (0, a8), (0, a9), (0, a10), (1, 0), (0, a12), (0, a13), (0, a14), (0, a15), (1, 0), (1, 0), (1, 0), (1, 0), (1, 0), (1, 0)] [(0, r103)] w102
                  refine pv_goto (tgt := 1562) d_L_law_1542 (by decide) ?_
                  refine pv_unset (i := 8) (L1 := [(3000, 0), (9, 0), (0, a2), (0, a3), (1, 0), (0, a5), (0, a6), (1, 0), (1, 0), (0, a9), (0, a10), (1, 0), (0, a12), (0, a13), (0, a14), (0, a15), (1, 0), (1, 0), (1, 0), (1, 0), (1, 0), (1, 0)]) rfl ?_
                  refine pv_unset (i := 10) (L1 := [(3000, 0), (9, 0), (0, a2), (0, a3), (1, 0), (0, a5), (0, a6), (1, 0), (1, 0), (0, a9), (1, 0), (1, 0), (0, a12), (0, a13), (0, a14), (0, a15), (1, 0), (1, 0), (1, 0), (1, 0), (1, 0), (1, 0)]) rfl ?_
                  refine pv_unset (i := 12) (L1 := [(3000, 0), (9, 0), (0, a2), (0, a3), (1, 0), (0, a5), (0, a6), (1, 0), (1, 0), (0, a9), (1, 0), (1, 0), (1, 0), (0, a13), (0, a14), (0, a15), (1, 0), (1, 0), (1, 0), (1, 0), (1, 0), (1, 0)]) rfl ?_
                  refine pv_unset (i := 13) (L1 := [(3000, 0), (9, 0), (0, a2), (0, a3), (1, 0), (0, a5), (0, a6), (1, 0), (1, 0), (0, a9), (1, 0), (1, 0), (1, 0), (1, 0), (0, a14), (0, a15), (1, 0), (1, 0), (1, 0), (1, 0), (1, 0), (1, 0)]) rfl ?_
                  refine pv_unset (i := 14) (L1 := [(3000, 0), (9, 0), (0, a2), (0, a3), (1, 0), (0, a5), (0, a6), (1, 0), (1, 0), (0, a9), (1, 0), (1, 0), (1, 0), (1, 0), (1, 0), (0, a15), (1, 0), (1, 0), (1, 0), (1, 0), (1, 0), (1, 0)]) rfl ?_
                  refine pv_unset (i := 15) (L1 := [(3000, 0), (9, 0), (0, a2), (0, a3), (1, 0), (0, a5), (0, a6), (1, 0), (1, 0), (0, a9), (1, 0), (1, 0), (1, 0), (1, 0), (1, 0), (1, 0), (1, 0), (1, 0), (1, 0), (1, 0), (1, 0), (1, 0)]) rfl ?_
                  exact vjp_L_law_1562 hl0 hsc (by intros; exact hK53 _ _ _ _ _ _ (by assumption)) _ _ _ _ _ _ _ h
          · replace h := h.2 c96
            refine pv_aload_n (n := 1347) d_L_law_1346 rfl rfl rfl ?_
            refine pv_iload (n := 1349) d_L_law_1347 rfl rfl ?_
            refine pv_iconst (v := 0) (n := 1350) d_L_law_1349 (by decide) rfl ?_
            refine pv_callV (n := 1353) (x := 0) [(0, a15), (0, 0)] [] (con_X_square hl0 h) pw_cf7 rfl q_505 q_506 q_507 q_62 q_504 pyo_X_square (by decide) rfl rfl (by decide) d_L_law_1350 rfl (fun w104 r105 h _ => ?_) (fun _ _ h => h.elim)
            show pw_V l g cx_L_law Q X 1353 [(3000, 0), (9, 0), (0, a2), (0, a3), (1, 0), (0, a5), (0, a6), (1, 0), (0, a8), (0, a9), (0, a10), (1, 0), (0, a12), (0, a13), (0, a14), (0, a15), (1, 0), (1, 0), (1, 0), (1, 0), (1, 0), (1, 0)] [(0, r105)] w104
            refine pv_istore (n := 1355) (L' := [(3000, 0), (9, 0), (0, a2), (0, a3), (1, 0), (0, a5), (0, a6), (1, 0), (0, a8), (0, a9), (0, a10), (1, 0), (0, a12), (0, a13), (0, a14), (0, a15), (1, 0), (1, 0), (0, r105), (1, 0), (1, 0), (1, 0)]) d_L_law_1353 (by decide) rfl rfl ?_
            refine pv_iload (n := 1357) d_L_law_1355 rfl rfl ?_
            refine pv_iconst (v := 3) (n := 1358) d_L_law_1357 (by decide) rfl ?_
            refine pv_ishr (n := 1359) d_L_law_1358 rfl ?_
            refine pv_iconst (v := 1) (n := 1360) d_L_law_1359 (by decide) rfl ?_
            refine pv_iand (n := 1361) d_L_law_1360 rfl ?_
            refine pv_if_ne (n := 1364) (tgt := 1368) d_L_law_1361 (by decide) rfl (fun c106 => ?_) (fun c106 => ?_)
            · replace h := h.1 c106
              refine pv_iconst (v := 0) (n := 1369) d_L_law_1368 (by decide) rfl ?_
              refine pv_unset (i := 12) (L1 := [(3000, 0), (9, 0), (0, a2), (0, a3), (1, 0), (0, a5), (0, a6), (1, 0), (0, a8), (0, a9), (0, a10), (1, 0), (1, 0), (0, a13), (0, a14), (0, a15), (1, 0), (1, 0), (0, r105), (1, 0), (1, 0), (1, 0)]) rfl ?_
              refine pv_unset (i := 13) (L1 := [(3000, 0), (9, 0), (0, a2), (0, a3), (1, 0), (0, a5), (0, a6), (1, 0), (0, a8), (0, a9), (0, a10), (1, 0), (1, 0), (1, 0), (0, a14), (0, a15), (1, 0), (1, 0), (0, r105), (1, 0), (1, 0), (1, 0)]) rfl ?_
              refine pv_unset (i := 14) (L1 := [(3000, 0), (9, 0), (0, a2), (0, a3), (1, 0), (0, a5), (0, a6), (1, 0), (0, a8), (0, a9), (0, a10), (1, 0), (1, 0), (1, 0), (1, 0), (0, a15), (1, 0), (1, 0), (0, r105), (1, 0), (1, 0), (1, 0)]) rfl ?_
              exact vjp_L_law_1369 hl0 hsc (by intros; exact hK53 _ _ _ _ _ _ (by assumption)) _ _ _ _ _ _ _ _ _ _ _ h
            · replace h := h.2 c106
              refine pv_iconst (v := 1) (n := 1365) d_L_law_1364 (by decide) rfl ?_
              refine pv_goto (tgt := 1369) d_L_law_1365 (by decide) ?_
              refine pv_unset (i := 12) (L1 := [(3000, 0), (9, 0), (0, a2), (0, a3), (1, 0), (0, a5), (0, a6), (1, 0), (0, a8), (0, a9), (0, a10), (1, 0), (1, 0), (0, a13), (0, a14), (0, a15), (1, 0), (1, 0), (0, r105), (1, 0), (1, 0), (1, 0)]) rfl ?_
              refine pv_unset (i := 13) (L1 := [(3000, 0), (9, 0), (0, a2), (0, a3), (1, 0), (0, a5), (0, a6), (1, 0), (0, a8), (0, a9), (0, a10), (1, 0), (1, 0), (1, 0), (0, a14), (0, a15), (1, 0), (1, 0), (0, r105), (1, 0), (1, 0), (1, 0)]) rfl ?_
              refine pv_unset (i := 14) (L1 := [(3000, 0), (9, 0), (0, a2), (0, a3), (1, 0), (0, a5), (0, a6), (1, 0), (0, a8), (0, a9), (0, a10), (1, 0), (1, 0), (1, 0), (1, 0), (0, a15), (1, 0), (1, 0), (0, r105), (1, 0), (1, 0), (1, 0)]) rfl ?_
              exact vjp_L_law_1369 hl0 hsc (by intros; exact hK53 _ _ _ _ _ _ (by assumption)) _ _ _ _ _ _ _ _ _ _ _ h
        · replace h := h.2 c95
          refine pv_aload_n (n := 1236) d_L_law_1235 rfl rfl rfl ?_
          refine pv_bipush (v := 10) (n := 1238) d_L_law_1236 (by decide) rfl ?_
          refine pv_iload (n := 1240) d_L_law_1238 rfl rfl ?_
          refine pv_iload (n := 1242) d_L_law_1240 rfl rfl ?_
          refine pv_iconst (v := 3) (n := 1243) d_L_law_1242 (by decide) rfl ?_
          refine pv_ishr (n := 1244) d_L_law_1243 rfl ?_
          refine pv_iconst (v := 1) (n := 1245) d_L_law_1244 (by decide) rfl ?_
          refine pv_iand (n := 1246) d_L_law_1245 rfl ?_
          refine pv_if_ne (n := 1249) (tgt := 1256) d_L_law_1246 (by decide) rfl (fun c107 => ?_) (fun c107 => ?_)
          · replace h := h.1 c107
            refine pv_iload (n := 1258) d_L_law_1256 rfl rfl ?_
            refine pv_bipush (v := 10) (n := 1260) d_L_law_1258 (by decide) rfl ?_
            refine pv_iadd (n := 1261) d_L_law_1260 rfl ?_
            refine pv_unset (i := 8) (L1 := [(3000, 0), (9, 0), (0, a2), (0, a3), (1, 0), (0, a5), (0, a6), (1, 0), (1, 0), (0, a9), (0, a10), (1, 0), (0, a12), (0, a13), (0, a14), (0, a15), (1, 0), (1, 0), (1, 0), (1, 0), (1, 0), (1, 0)]) rfl ?_
            refine pv_unset (i := 10) (L1 := [(3000, 0), (9, 0), (0, a2), (0, a3), (1, 0), (0, a5), (0, a6), (1, 0), (1, 0), (0, a9), (1, 0), (1, 0), (0, a12), (0, a13), (0, a14), (0, a15), (1, 0), (1, 0), (1, 0), (1, 0), (1, 0), (1, 0)]) rfl ?_
            refine pv_unset (i := 12) (L1 := [(3000, 0), (9, 0), (0, a2), (0, a3), (1, 0), (0, a5), (0, a6), (1, 0), (1, 0), (0, a9), (1, 0), (1, 0), (1, 0), (0, a13), (0, a14), (0, a15), (1, 0), (1, 0), (1, 0), (1, 0), (1, 0), (1, 0)]) rfl ?_
            exact vjp_L_law_1261 hl0 hsc (by intros; exact hK53 _ _ _ _ _ _ (by assumption)) _ _ _ _ _ _ _ _ _ _ _ _ h
          · replace h := h.2 c107
            refine pv_iload (n := 1251) d_L_law_1249 rfl rfl ?_
            refine pv_iconst (v := 1) (n := 1252) d_L_law_1251 (by decide) rfl ?_
            refine pv_iadd (n := 1253) d_L_law_1252 rfl ?_
            refine pv_goto (tgt := 1261) d_L_law_1253 (by decide) ?_
            refine pv_unset (i := 8) (L1 := [(3000, 0), (9, 0), (0, a2), (0, a3), (1, 0), (0, a5), (0, a6), (1, 0), (1, 0), (0, a9), (0, a10), (1, 0), (0, a12), (0, a13), (0, a14), (0, a15), (1, 0), (1, 0), (1, 0), (1, 0), (1, 0), (1, 0)]) rfl ?_
            refine pv_unset (i := 10) (L1 := [(3000, 0), (9, 0), (0, a2), (0, a3), (1, 0), (0, a5), (0, a6), (1, 0), (1, 0), (0, a9), (1, 0), (1, 0), (0, a12), (0, a13), (0, a14), (0, a15), (1, 0), (1, 0), (1, 0), (1, 0), (1, 0), (1, 0)]) rfl ?_
            refine pv_unset (i := 12) (L1 := [(3000, 0), (9, 0), (0, a2), (0, a3), (1, 0), (0, a5), (0, a6), (1, 0), (1, 0), (0, a9), (1, 0), (1, 0), (1, 0), (0, a13), (0, a14), (0, a15), (1, 0), (1, 0), (1, 0), (1, 0), (1, 0), (1, 0)]) rfl ?_
            exact vjp_L_law_1261 hl0 hsc (by intros; exact hK53 _ _ _ _ _ _ (by assumption)) _ _ _ _ _ _ _ _ _ _ _ _ h
      · replace h := h.2 c94
        refine pv_iconst (v := 1) (n := 1140) d_L_law_1139 (by decide) rfl ?_
        refine pv_iload (n := 1142) d_L_law_1140 rfl rfl ?_
        refine pv_iconst (v := 3) (n := 1143) d_L_law_1142 (by decide) rfl ?_
        refine pv_ishr (n := 1144) d_L_law_1143 rfl ?_
        refine pv_bipush (v := 60) (n := 1146) d_L_law_1144 (by decide) rfl ?_
        refine pv_irem (n := 1147) d_L_law_1146 (by decide) rfl ?_
        refine pv_iadd (n := 1148) d_L_law_1147 rfl ?_
        refine pv_nm (fun v108 e109 => ?_)
        replace h := h v108 e109
        refine pv_istore (n := 1150) (L' := [(3000, 0), (9, 0), (0, a2), (0, a3), (1, 0), (0, a5), (0, a6), (1, 0), (0, a8), (0, a9), (0, a10), (1, 0), (0, a12), (0, a13), (0, a14), (0, a15), (1, 0), (1, 0), (0, v108), (1, 0), (1, 0), (1, 0)]) d_L_law_1148 (by decide) rfl rfl ?_
        refine pv_aload_n (n := 1151) d_L_law_1150 rfl rfl rfl ?_
        refine pv_iconst (v := 1) (n := 1152) d_L_law_1151 (by decide) rfl ?_
        refine pv_callV (n := 1155) (x := 0) [(0, 1)] [] (con_X_water hl0 h) pw_cf7 rfl q_493 q_494 q_495 q_62 q_492 pyo_X_water (by decide) rfl rfl (by decide) d_L_law_1152 rfl (fun w110 r111 h _ => ?_) (fun _ _ h => h.elim)
        show pw_V l g cx_L_law Q X 1155 [(3000, 0), (9, 0), (0, a2), (0, a3), (1, 0), (0, a5), (0, a6), (1, 0), (0, a8), (0, a9), (0, a10), (1, 0), (0, a12), (0, a13), (0, a14), (0, a15), (1, 0), (1, 0), (0, v108), (1, 0), (1, 0), (1, 0)] [(0, r111)] w110
        refine pv_istore (n := 1157) (L' := [(3000, 0), (9, 0), (0, a2), (0, a3), (1, 0), (0, a5), (0, a6), (1, 0), (0, a8), (0, a9), (0, a10), (1, 0), (0, a12), (0, a13), (0, a14), (0, a15), (1, 0), (1, 0), (0, v108), (0, r111), (1, 0), (1, 0)]) d_L_law_1155 (by decide) rfl rfl ?_
        refine pv_aload_n (n := 1158) d_L_law_1157 rfl rfl rfl ?_
        refine pv_iconst (v := 2) (n := 1159) d_L_law_1158 (by decide) rfl ?_
        refine pv_callV (n := 1162) (x := 0) [(0, 2)] [] (con_X_water hl0 h) pw_cf7 rfl q_493 q_494 q_495 q_62 q_492 pyo_X_water (by decide) rfl rfl (by decide) d_L_law_1159 rfl (fun w112 r113 h _ => ?_) (fun _ _ h => h.elim)
        show pw_V l g cx_L_law Q X 1162 [(3000, 0), (9, 0), (0, a2), (0, a3), (1, 0), (0, a5), (0, a6), (1, 0), (0, a8), (0, a9), (0, a10), (1, 0), (0, a12), (0, a13), (0, a14), (0, a15), (1, 0), (1, 0), (0, v108), (0, r111), (1, 0), (1, 0)] [(0, r113)] w112
        refine pv_istore (n := 1164) (L' := [(3000, 0), (9, 0), (0, a2), (0, a3), (1, 0), (0, a5), (0, a6), (1, 0), (0, a8), (0, a9), (0, a10), (1, 0), (0, a12), (0, a13), (0, a14), (0, a15), (1, 0), (1, 0), (0, v108), (0, r111), (0, r113), (1, 0)]) d_L_law_1162 (by decide) rfl rfl ?_
        refine pv_aload_n (n := 1165) d_L_law_1164 rfl rfl rfl ?_
        refine pv_iload (n := 1167) d_L_law_1165 rfl rfl ?_
        refine pv_callV (n := 1170) (x := 0) [(0, v108)] [] (con_X_rain hl0 h) pw_cf7 rfl q_552 q_553 q_554 q_62 q_551 pyo_X_rain (by decide) rfl rfl (by decide) d_L_law_1167 rfl (fun w114 r115 h _ => ?_) (fun _ _ h => h.elim)
        show pw_V l g cx_L_law Q X 1170 [(3000, 0), (9, 0), (0, a2), (0, a3), (1, 0), (0, a5), (0, a6), (1, 0), (0, a8), (0, a9), (0, a10), (1, 0), (0, a12), (0, a13), (0, a14), (0, a15), (1, 0), (1, 0), (0, v108), (0, r111), (0, r113), (1, 0)] [(0, r115)] w114
        refine pv_istore (n := 1172) (L' := [(3000, 0), (9, 0), (0, a2), (0, a3), (1, 0), (0, a5), (0, a6), (1, 0), (0, a8), (0, a9), (0, a10), (1, 0), (0, a12), (0, a13), (0, a14), (0, a15), (1, 0), (0, r115), (0, v108), (0, r111), (0, r113), (1, 0)]) d_L_law_1170 (by decide) rfl rfl ?_
        refine pv_iload (n := 1174) d_L_law_1172 rfl rfl ?_
        refine pv_if_lt (n := 1177) (tgt := 1222) d_L_law_1174 (by decide) rfl (fun c116 => ?_) (fun c116 => ?_)
        · replace h := h.1 c116
          refine pv_unset (i := 8) (L1 := [(3000, 0), (9, 0), (0, a2), (0, a3), (1, 0), (0, a5), (0, a6), (1, 0), (1, 0), (0, a9), (0, a10), (1, 0), (0, a12), (0, a13), (0, a14), (0, a15), (1, 0), (0, r115), (0, v108), (0, r111), (0, r113), (1, 0)]) rfl ?_
          refine pv_unset (i := 10) (L1 := [(3000, 0), (9, 0), (0, a2), (0, a3), (1, 0), (0, a5), (0, a6), (1, 0), (1, 0), (0, a9), (1, 0), (1, 0), (0, a12), (0, a13), (0, a14), (0, a15), (1, 0), (0, r115), (0, v108), (0, r111), (0, r113), (1, 0)]) rfl ?_
          refine pv_unset (i := 12) (L1 := [(3000, 0), (9, 0), (0, a2), (0, a3), (1, 0), (0, a5), (0, a6), (1, 0), (1, 0), (0, a9), (1, 0), (1, 0), (1, 0), (0, a13), (0, a14), (0, a15), (1, 0), (0, r115), (0, v108), (0, r111), (0, r113), (1, 0)]) rfl ?_
          refine pv_unset (i := 13) (L1 := [(3000, 0), (9, 0), (0, a2), (0, a3), (1, 0), (0, a5), (0, a6), (1, 0), (1, 0), (0, a9), (1, 0), (1, 0), (1, 0), (1, 0), (0, a14), (0, a15), (1, 0), (0, r115), (0, v108), (0, r111), (0, r113), (1, 0)]) rfl ?_
          refine pv_unset (i := 14) (L1 := [(3000, 0), (9, 0), (0, a2), (0, a3), (1, 0), (0, a5), (0, a6), (1, 0), (1, 0), (0, a9), (1, 0), (1, 0), (1, 0), (1, 0), (1, 0), (0, a15), (1, 0), (0, r115), (0, v108), (0, r111), (0, r113), (1, 0)]) rfl ?_
          refine pv_unset (i := 15) (L1 := [(3000, 0), (9, 0), (0, a2), (0, a3), (1, 0), (0, a5), (0, a6), (1, 0), (1, 0), (0, a9), (1, 0), (1, 0), (1, 0), (1, 0), (1, 0), (1, 0), (1, 0), (0, r115), (0, v108), (0, r111), (0, r113), (1, 0)]) rfl ?_
          refine pv_unset (i := 17) (L1 := [(3000, 0), (9, 0), (0, a2), (0, a3), (1, 0), (0, a5), (0, a6), (1, 0), (1, 0), (0, a9), (1, 0), (1, 0), (1, 0), (1, 0), (1, 0), (1, 0), (1, 0), (1, 0), (0, v108), (0, r111), (0, r113), (1, 0)]) rfl ?_
          refine pv_unset (i := 18) (L1 := [(3000, 0), (9, 0), (0, a2), (0, a3), (1, 0), (0, a5), (0, a6), (1, 0), (1, 0), (0, a9), (1, 0), (1, 0), (1, 0), (1, 0), (1, 0), (1, 0), (1, 0), (1, 0), (1, 0), (0, r111), (0, r113), (1, 0)]) rfl ?_
          refine pv_unset (i := 19) (L1 := [(3000, 0), (9, 0), (0, a2), (0, a3), (1, 0), (0, a5), (0, a6), (1, 0), (1, 0), (0, a9), (1, 0), (1, 0), (1, 0), (1, 0), (1, 0), (1, 0), (1, 0), (1, 0), (1, 0), (1, 0), (0, r113), (1, 0)]) rfl ?_
          refine pv_unset (i := 20) (L1 := [(3000, 0), (9, 0), (0, a2), (0, a3), (1, 0), (0, a5), (0, a6), (1, 0), (1, 0), (0, a9), (1, 0), (1, 0), (1, 0), (1, 0), (1, 0), (1, 0), (1, 0), (1, 0), (1, 0), (1, 0), (1, 0), (1, 0)]) rfl ?_
          exact vjp_L_law_1222 hl0 hsc (by intros; exact hK53 _ _ _ _ _ _ (by assumption)) _ _ _ _ _ _ h
        · replace h := h.2 c116
          refine pv_aload_n (n := 1178) d_L_law_1177 rfl rfl rfl ?_
          refine pv_iconst (v := 1) (n := 1179) d_L_law_1178 (by decide) rfl ?_
          refine pv_callV (n := 1182) (x := 0) [(0, 1)] [] (con_X_water hl0 h) pw_cf7 rfl q_493 q_494 q_495 q_62 q_492 pyo_X_water (by decide) rfl rfl (by decide) d_L_law_1179 rfl (fun w117 r118 h _ => ?_) (fun _ _ h => h.elim)
          show pw_V l g cx_L_law Q X 1182 [(3000, 0), (9, 0), (0, a2), (0, a3), (1, 0), (0, a5), (0, a6), (1, 0), (0, a8), (0, a9), (0, a10), (1, 0), (0, a12), (0, a13), (0, a14), (0, a15), (1, 0), (0, r115), (0, v108), (0, r111), (0, r113), (1, 0)] [(0, r118)] w117
          refine pv_iload (n := 1184) d_L_law_1182 rfl rfl ?_
          refine pv_bipush (v := 100) (n := 1186) d_L_law_1184 (by decide) rfl ?_
          refine pv_iload (n := 1188) d_L_law_1186 rfl rfl ?_
          refine pv_imul (n := 1189) d_L_law_1188 rfl ?_
          refine pv_iadd (n := 1190) d_L_law_1189 rfl ?_
          refine pv_icmp_ne (n := 1193) (tgt := 1222) d_L_law_1190 (by decide) rfl (fun c119 => ?_) (fun c119 => ?_)
          · replace h := h.1 c119
            refine pv_unset (i := 8) (L1 := [(3000, 0), (9, 0), (0, a2), (0, a3), (1, 0), (0, a5), (0, a6), (1, 0), (1, 0), (0, a9), (0, a10), (1, 0), (0, a12), (0, a13), (0, a14), (0, a15), (1, 0), (0, r115), (0, v108), (0, r111), (0, r113), (1, 0)]) rfl ?_
            refine pv_unset (i := 10) (L1 := [(3000, 0), (9, 0), (0, a2), (0, a3), (1, 0), (0, a5), (0, a6), (1, 0), (1, 0), (0, a9), (1, 0), (1, 0), (0, a12), (0, a13), (0, a14), (0, a15), (1, 0), (0, r115), (0, v108), (0, r111), (0, r113), (1, 0)]) rfl ?_
            refine pv_unset (i := 12) (L1 := [(3000, 0), (9, 0), (0, a2), (0, a3), (1, 0), (0, a5), (0, a6), (1, 0), (1, 0), (0, a9), (1, 0), (1, 0), (1, 0), (0, a13), (0, a14), (0, a15), (1, 0), (0, r115), (0, v108), (0, r111), (0, r113), (1, 0)]) rfl ?_
            refine pv_unset (i := 13) (L1 := [(3000, 0), (9, 0), (0, a2), (0, a3), (1, 0), (0, a5), (0, a6), (1, 0), (1, 0), (0, a9), (1, 0), (1, 0), (1, 0), (1, 0), (0, a14), (0, a15), (1, 0), (0, r115), (0, v108), (0, r111), (0, r113), (1, 0)]) rfl ?_
            refine pv_unset (i := 14) (L1 := [(3000, 0), (9, 0), (0, a2), (0, a3), (1, 0), (0, a5), (0, a6), (1, 0), (1, 0), (0, a9), (1, 0), (1, 0), (1, 0), (1, 0), (1, 0), (0, a15), (1, 0), (0, r115), (0, v108), (0, r111), (0, r113), (1, 0)]) rfl ?_
            refine pv_unset (i := 15) (L1 := [(3000, 0), (9, 0), (0, a2), (0, a3), (1, 0), (0, a5), (0, a6), (1, 0), (1, 0), (0, a9), (1, 0), (1, 0), (1, 0), (1, 0), (1, 0), (1, 0), (1, 0), (0, r115), (0, v108), (0, r111), (0, r113), (1, 0)]) rfl ?_
            refine pv_unset (i := 17) (L1 := [(3000, 0), (9, 0), (0, a2), (0, a3), (1, 0), (0, a5), (0, a6), (1, 0), (1, 0), (0, a9), (1, 0), (1, 0), (1, 0), (1, 0), (1, 0), (1, 0), (1, 0), (1, 0), (0, v108), (0, r111), (0, r113), (1, 0)]) rfl ?_
            refine pv_unset (i := 18) (L1 := [(3000, 0), (9, 0), (0, a2), (0, a3), (1, 0), (0, a5), (0, a6), (1, 0), (1, 0), (0, a9), (1, 0), (1, 0), (1, 0), (1, 0), (1, 0), (1, 0), (1, 0), (1, 0), (1, 0), (0, r111), (0, r113), (1, 0)]) rfl ?_
            refine pv_unset (i := 19) (L1 := [(3000, 0), (9, 0), (0, a2), (0, a3), (1, 0), (0, a5), (0, a6), (1, 0), (1, 0), (0, a9), (1, 0), (1, 0), (1, 0), (1, 0), (1, 0), (1, 0), (1, 0), (1, 0), (1, 0), (1, 0), (0, r113), (1, 0)]) rfl ?_
            refine pv_unset (i := 20) (L1 := [(3000, 0), (9, 0), (0, a2), (0, a3), (1, 0), (0, a5), (0, a6), (1, 0), (1, 0), (0, a9), (1, 0), (1, 0), (1, 0), (1, 0), (1, 0), (1, 0), (1, 0), (1, 0), (1, 0), (1, 0), (1, 0), (1, 0)]) rfl ?_
            exact vjp_L_law_1222 hl0 hsc (by intros; exact hK53 _ _ _ _ _ _ (by assumption)) _ _ _ _ _ _ h
          · replace h := h.2 c119
            refine pv_aload_n (n := 1194) d_L_law_1193 rfl rfl rfl ?_
            refine pv_iconst (v := 2) (n := 1195) d_L_law_1194 (by decide) rfl ?_
            refine pv_callV (n := 1198) (x := 0) [(0, 2)] [] (con_X_water hl0 h) pw_cf7 rfl q_493 q_494 q_495 q_62 q_492 pyo_X_water (by decide) rfl rfl (by decide) d_L_law_1195 rfl (fun w120 r121 h _ => ?_) (fun _ _ h => h.elim)
            show pw_V l g cx_L_law Q X 1198 [(3000, 0), (9, 0), (0, a2), (0, a3), (1, 0), (0, a5), (0, a6), (1, 0), (0, a8), (0, a9), (0, a10), (1, 0), (0, a12), (0, a13), (0, a14), (0, a15), (1, 0), (0, r115), (0, v108), (0, r111), (0, r113), (1, 0)] [(0, r121)] w120
            refine pv_iload (n := 1200) d_L_law_1198 rfl rfl ?_
            refine pv_iload (n := 1202) d_L_law_1200 rfl rfl ?_
            refine pv_iadd (n := 1203) d_L_law_1202 rfl ?_
            refine pv_icmp_ne (n := 1206) (tgt := 1222) d_L_law_1203 (by decide) rfl (fun c122 => ?_) (fun c122 => ?_)
            · replace h := h.1 c122
              refine pv_unset (i := 8) (L1 := [(3000, 0), (9, 0), (0, a2), (0, a3), (1, 0), (0, a5), (0, a6), (1, 0), (1, 0), (0, a9), (0, a10), (1, 0), (0, a12), (0, a13), (0, a14), (0, a15), (1, 0), (0, r115), (0, v108), (0, r111), (0, r113), (1, 0)]) rfl ?_
              refine pv_unset (i := 10) (L1 := [(3000, 0), (9, 0), (0, a2), (0, a3), (1, 0), (0, a5), (0, a6), (1, 0), (1, 0), (0, a9), (1, 0), (1, 0), (0, a12), (0, a13), (0, a14), (0, a15), (1, 0), (0, r115), (0, v108), (0, r111), (0, r113), (1, 0)]) rfl ?_
              refine pv_unset (i := 12) (L1 := [(3000, 0), (9, 0), (0, a2), (0, a3), (1, 0), (0, a5), (0, a6), (1, 0), (1, 0), (0, a9), (1, 0), (1, 0), (1, 0), (0, a13), (0, a14), (0, a15), (1, 0), (0, r115), (0, v108), (0, r111), (0, r113), (1, 0)]) rfl ?_
              refine pv_unset (i := 13) (L1 := [(3000, 0), (9, 0), (0, a2), (0, a3), (1, 0), (0, a5), (0, a6), (1, 0), (1, 0), (0, a9), (1, 0), (1, 0), (1, 0), (1, 0), (0, a14), (0, a15), (1, 0), (0, r115), (0, v108), (0, r111), (0, r113), (1, 0)]) rfl ?_
              refine pv_unset (i := 14) (L1 := [(3000, 0), (9, 0), (0, a2), (0, a3), (1, 0), (0, a5), (0, a6), (1, 0), (1, 0), (0, a9), (1, 0), (1, 0), (1, 0), (1, 0), (1, 0), (0, a15), (1, 0), (0, r115), (0, v108), (0, r111), (0, r113), (1, 0)]) rfl ?_
              refine pv_unset (i := 15) (L1 := [(3000, 0), (9, 0), (0, a2), (0, a3), (1, 0), (0, a5), (0, a6), (1, 0), (1, 0), (0, a9), (1, 0), (1, 0), (1, 0), (1, 0), (1, 0), (1, 0), (1, 0), (0, r115), (0, v108), (0, r111), (0, r113), (1, 0)]) rfl ?_
              refine pv_unset (i := 17) (L1 := [(3000, 0), (9, 0), (0, a2), (0, a3), (1, 0), (0, a5), (0, a6), (1, 0), (1, 0), (0, a9), (1, 0), (1, 0), (1, 0), (1, 0), (1, 0), (1, 0), (1, 0), (1, 0), (0, v108), (0, r111), (0, r113), (1, 0)]) rfl ?_
              refine pv_unset (i := 18) (L1 := [(3000, 0), (9, 0), (0, a2), (0, a3), (1, 0), (0, a5), (0, a6), (1, 0), (1, 0), (0, a9), (1, 0), (1, 0), (1, 0), (1, 0), (1, 0), (1, 0), (1, 0), (1, 0), (1, 0), (0, r111), (0, r113), (1, 0)]) rfl ?_
              refine pv_unset (i := 19) (L1 := [(3000, 0), (9, 0), (0, a2), (0, a3), (1, 0), (0, a5), (0, a6), (1, 0), (1, 0), (0, a9), (1, 0), (1, 0), (1, 0), (1, 0), (1, 0), (1, 0), (1, 0), (1, 0), (1, 0), (1, 0), (0, r113), (1, 0)]) rfl ?_
              refine pv_unset (i := 20) (L1 := [(3000, 0), (9, 0), (0, a2), (0, a3), (1, 0), (0, a5), (0, a6), (1, 0), (1, 0), (0, a9), (1, 0), (1, 0), (1, 0), (1, 0), (1, 0), (1, 0), (1, 0), (1, 0), (1, 0), (1, 0), (1, 0), (1, 0)]) rfl ?_
              exact vjp_L_law_1222 hl0 hsc (by intros; exact hK53 _ _ _ _ _ _ (by assumption)) _ _ _ _ _ _ h
            · replace h := h.2 c122
              refine pv_aload_n (n := 1207) d_L_law_1206 rfl rfl rfl ?_
              refine pv_iload (n := 1209) d_L_law_1207 rfl rfl ?_
              refine pv_iconst (v := 1) (n := 1210) d_L_law_1209 (by decide) rfl ?_
              refine pv_callV (n := 1213) (x := 0) [(0, a15), (0, 1)] [] (con_X_square hl0 h) pw_cf7 rfl q_505 q_506 q_507 q_62 q_504 pyo_X_square (by decide) rfl rfl (by decide) d_L_law_1210 rfl (fun w123 r124 h _ => ?_) (fun _ _ h => h.elim)
              show pw_V l g cx_L_law Q X 1213 [(3000, 0), (9, 0), (0, a2), (0, a3), (1, 0), (0, a5), (0, a6), (1, 0), (0, a8), (0, a9), (0, a10), (1, 0), (0, a12), (0, a13), (0, a14), (0, a15), (1, 0), (0, r115), (0, v108), (0, r111), (0, r113), (1, 0)] [(0, r124)] w123
              refine pv_iload (n := 1215) d_L_law_1213 rfl rfl ?_
              refine pv_icmp_lt (n := 1218) (tgt := 1222) d_L_law_1215 (by decide) rfl (fun c125 => ?_) (fun c125 => ?_)
              · replace h := h.1 c125
                refine pv_unset (i := 8) (L1 := [(3000, 0), (9, 0), (0, a2), (0, a3), (1, 0), (0, a5), (0, a6), (1, 0), (1, 0), (0, a9), (0, a10), (1, 0), (0, a12), (0, a13), (0, a14), (0, a15), (1, 0), (0, r115), (0, v108), (0, r111), (0, r113), (1, 0)]) rfl ?_
                refine pv_unset (i := 10) (L1 := [(3000, 0), (9, 0), (0, a2), (0, a3), (1, 0), (0, a5), (0, a6), (1, 0), (1, 0), (0, a9), (1, 0), (1, 0), (0, a12), (0, a13), (0, a14), (0, a15), (1, 0), (0, r115), (0, v108), (0, r111), (0, r113), (1, 0)]) rfl ?_
                refine pv_unset (i := 12) (L1 := [(3000, 0), (9, 0), (0, a2), (0, a3), (1, 0), (0, a5), (0, a6), (1, 0), (1, 0), (0, a9), (1, 0), (1, 0), (1, 0), (0, a13), (0, a14), (0, a15), (1, 0), (0, r115), (0, v108), (0, r111), (0, r113), (1, 0)]) rfl ?_
                refine pv_unset (i := 13) (L1 := [(3000, 0), (9, 0), (0, a2), (0, a3), (1, 0), (0, a5), (0, a6), (1, 0), (1, 0), (0, a9), (1, 0), (1, 0), (1, 0), (1, 0), (0, a14), (0, a15), (1, 0), (0, r115), (0, v108), (0, r111), (0, r113), (1, 0)]) rfl ?_
                refine pv_unset (i := 14) (L1 := [(3000, 0), (9, 0), (0, a2), (0, a3), (1, 0), (0, a5), (0, a6), (1, 0), (1, 0), (0, a9), (1, 0), (1, 0), (1, 0), (1, 0), (1, 0), (0, a15), (1, 0), (0, r115), (0, v108), (0, r111), (0, r113), (1, 0)]) rfl ?_
                refine pv_unset (i := 15) (L1 := [(3000, 0), (9, 0), (0, a2), (0, a3), (1, 0), (0, a5), (0, a6), (1, 0), (1, 0), (0, a9), (1, 0), (1, 0), (1, 0), (1, 0), (1, 0), (1, 0), (1, 0), (0, r115), (0, v108), (0, r111), (0, r113), (1, 0)]) rfl ?_
                refine pv_unset (i := 17) (L1 := [(3000, 0), (9, 0), (0, a2), (0, a3), (1, 0), (0, a5), (0, a6), (1, 0), (1, 0), (0, a9), (1, 0), (1, 0), (1, 0), (1, 0), (1, 0), (1, 0), (1, 0), (1, 0), (0, v108), (0, r111), (0, r113), (1, 0)]) rfl ?_
                refine pv_unset (i := 18) (L1 := [(3000, 0), (9, 0), (0, a2), (0, a3), (1, 0), (0, a5), (0, a6), (1, 0), (1, 0), (0, a9), (1, 0), (1, 0), (1, 0), (1, 0), (1, 0), (1, 0), (1, 0), (1, 0), (1, 0), (0, r111), (0, r113), (1, 0)]) rfl ?_
                refine pv_unset (i := 19) (L1 := [(3000, 0), (9, 0), (0, a2), (0, a3), (1, 0), (0, a5), (0, a6), (1, 0), (1, 0), (0, a9), (1, 0), (1, 0), (1, 0), (1, 0), (1, 0), (1, 0), (1, 0), (1, 0), (1, 0), (1, 0), (0, r113), (1, 0)]) rfl ?_
                refine pv_unset (i := 20) (L1 := [(3000, 0), (9, 0), (0, a2), (0, a3), (1, 0), (0, a5), (0, a6), (1, 0), (1, 0), (0, a9), (1, 0), (1, 0), (1, 0), (1, 0), (1, 0), (1, 0), (1, 0), (1, 0), (1, 0), (1, 0), (1, 0), (1, 0)]) rfl ?_
                exact vjp_L_law_1222 hl0 hsc (by intros; exact hK53 _ _ _ _ _ _ (by assumption)) _ _ _ _ _ _ h
              · replace h := h.2 c125
                refine pv_iconst (v := 1) (n := 1219) d_L_law_1218 (by decide) rfl ?_
                refine pv_goto (tgt := 1223) d_L_law_1219 (by decide) ?_
                refine pv_unset (i := 8) (L1 := [(3000, 0), (9, 0), (0, a2), (0, a3), (1, 0), (0, a5), (0, a6), (1, 0), (1, 0), (0, a9), (0, a10), (1, 0), (0, a12), (0, a13), (0, a14), (0, a15), (1, 0), (0, r115), (0, v108), (0, r111), (0, r113), (1, 0)]) rfl ?_
                refine pv_unset (i := 10) (L1 := [(3000, 0), (9, 0), (0, a2), (0, a3), (1, 0), (0, a5), (0, a6), (1, 0), (1, 0), (0, a9), (1, 0), (1, 0), (0, a12), (0, a13), (0, a14), (0, a15), (1, 0), (0, r115), (0, v108), (0, r111), (0, r113), (1, 0)]) rfl ?_
                refine pv_unset (i := 12) (L1 := [(3000, 0), (9, 0), (0, a2), (0, a3), (1, 0), (0, a5), (0, a6), (1, 0), (1, 0), (0, a9), (1, 0), (1, 0), (1, 0), (0, a13), (0, a14), (0, a15), (1, 0), (0, r115), (0, v108), (0, r111), (0, r113), (1, 0)]) rfl ?_
                refine pv_unset (i := 13) (L1 := [(3000, 0), (9, 0), (0, a2), (0, a3), (1, 0), (0, a5), (0, a6), (1, 0), (1, 0), (0, a9), (1, 0), (1, 0), (1, 0), (1, 0), (0, a14), (0, a15), (1, 0), (0, r115), (0, v108), (0, r111), (0, r113), (1, 0)]) rfl ?_
                refine pv_unset (i := 14) (L1 := [(3000, 0), (9, 0), (0, a2), (0, a3), (1, 0), (0, a5), (0, a6), (1, 0), (1, 0), (0, a9), (1, 0), (1, 0), (1, 0), (1, 0), (1, 0), (0, a15), (1, 0), (0, r115), (0, v108), (0, r111), (0, r113), (1, 0)]) rfl ?_
                refine pv_unset (i := 15) (L1 := [(3000, 0), (9, 0), (0, a2), (0, a3), (1, 0), (0, a5), (0, a6), (1, 0), (1, 0), (0, a9), (1, 0), (1, 0), (1, 0), (1, 0), (1, 0), (1, 0), (1, 0), (0, r115), (0, v108), (0, r111), (0, r113), (1, 0)]) rfl ?_
                refine pv_unset (i := 17) (L1 := [(3000, 0), (9, 0), (0, a2), (0, a3), (1, 0), (0, a5), (0, a6), (1, 0), (1, 0), (0, a9), (1, 0), (1, 0), (1, 0), (1, 0), (1, 0), (1, 0), (1, 0), (1, 0), (0, v108), (0, r111), (0, r113), (1, 0)]) rfl ?_
                refine pv_unset (i := 18) (L1 := [(3000, 0), (9, 0), (0, a2), (0, a3), (1, 0), (0, a5), (0, a6), (1, 0), (1, 0), (0, a9), (1, 0), (1, 0), (1, 0), (1, 0), (1, 0), (1, 0), (1, 0), (1, 0), (1, 0), (0, r111), (0, r113), (1, 0)]) rfl ?_
                refine pv_unset (i := 19) (L1 := [(3000, 0), (9, 0), (0, a2), (0, a3), (1, 0), (0, a5), (0, a6), (1, 0), (1, 0), (0, a9), (1, 0), (1, 0), (1, 0), (1, 0), (1, 0), (1, 0), (1, 0), (1, 0), (1, 0), (1, 0), (0, r113), (1, 0)]) rfl ?_
                refine pv_unset (i := 20) (L1 := [(3000, 0), (9, 0), (0, a2), (0, a3), (1, 0), (0, a5), (0, a6), (1, 0), (1, 0), (0, a9), (1, 0), (1, 0), (1, 0), (1, 0), (1, 0), (1, 0), (1, 0), (1, 0), (1, 0), (1, 0), (1, 0), (1, 0)]) rfl ?_
                exact vjp_L_law_1223 hl0 hsc (by intros; exact hK53 _ _ _ _ _ _ (by assumption)) _ _ _ _ _ _ _ h
    · replace h := h.2 c93
      refine pv_aload_n (n := 1028) d_L_law_1027 rfl rfl rfl ?_
      refine pv_iload (n := 1030) d_L_law_1028 rfl rfl ?_
      refine pv_iload (n := 1032) d_L_law_1030 rfl rfl ?_
      refine pv_callV (n := 1035) (x := 0) [(0, a10), (0, a12)] [] (con_X_sheep hl0 h) pw_cf7 rfl q_556 q_557 q_558 q_62 q_555 pyo_X_sheep (by decide) rfl rfl (by decide) d_L_law_1032 rfl (fun w126 r127 h _ => ?_) (fun _ _ h => h.elim)
      show pw_V l g cx_L_law Q X 1035 [(3000, 0), (9, 0), (0, a2), (0, a3), (1, 0), (0, a5), (0, a6), (1, 0), (0, a8), (0, a9), (0, a10), (1, 0), (0, a12), (0, a13), (0, a14), (0, a15), (1, 0), (1, 0), (1, 0), (1, 0), (1, 0), (1, 0)] [(0, r127)] w126
      refine pv_istore (n := 1037) (L' := [(3000, 0), (9, 0), (0, a2), (0, a3), (1, 0), (0, a5), (0, a6), (1, 0), (0, a8), (0, a9), (0, a10), (1, 0), (0, a12), (0, a13), (0, a14), (0, a15), (1, 0), (1, 0), (0, r127), (1, 0), (1, 0), (1, 0)]) d_L_law_1035 (by decide) rfl rfl ?_
      refine pv_iload (n := 1039) d_L_law_1037 rfl rfl ?_
      refine pv_iconst (v := 3) (n := 1040) d_L_law_1039 (by decide) rfl ?_
      refine pv_ishr (n := 1041) d_L_law_1040 rfl ?_
      refine pv_bipush (v := 40) (n := 1043) d_L_law_1041 (by decide) rfl ?_
      refine pv_irem (n := 1044) d_L_law_1043 (by decide) rfl ?_
      refine pv_nm (fun v128 e129 => ?_)
      replace h := h v128 e129
      refine pv_istore (n := 1046) (L' := [(3000, 0), (9, 0), (0, a2), (0, a3), (1, 0), (0, a5), (0, a6), (1, 0), (0, a8), (0, a9), (0, a10), (1, 0), (0, a12), (0, a13), (0, a14), (0, a15), (1, 0), (1, 0), (0, r127), (0, v128), (1, 0), (1, 0)]) d_L_law_1044 (by decide) rfl rfl ?_
      refine pv_aload_n (n := 1047) d_L_law_1046 rfl rfl rfl ?_
      refine pv_bipush (v := 9) (n := 1049) d_L_law_1047 (by decide) rfl ?_
      refine pv_iload (n := 1051) d_L_law_1049 rfl rfl ?_
      refine pv_iload (n := 1053) d_L_law_1051 rfl rfl ?_
      refine pv_iload (n := 1055) d_L_law_1053 rfl rfl ?_
      refine pv_iconst (v := 0) (n := 1056) d_L_law_1055 (by decide) rfl ?_
      refine pv_callSH (n := 1059) [(9, 0), (0, 9), (0, a10), (0, a12), (0, v128), (0, 0)] [] (con_L_on hl0 h) q_541 q_542 q_483 q_540 pyo_L_on (by decide) rfl rfl d_L_law_1056 rfl (fun w130 r131 h _ => ?_) (fun _ _ h => h.elim)
      show pw_V l g cx_L_law Q X 1059 [(3000, 0), (9, 0), (0, a2), (0, a3), (1, 0), (0, a5), (0, a6), (1, 0), (0, a8), (0, a9), (0, a10), (1, 0), (0, a12), (0, a13), (0, a14), (0, a15), (1, 0), (1, 0), (0, r127), (0, v128), (1, 0), (1, 0)] [(0, r131)] w130
      refine pv_istore (n := 1061) (L' := [(3000, 0), (9, 0), (0, a2), (0, a3), (1, 0), (0, a5), (0, a6), (1, 0), (0, a8), (0, a9), (0, a10), (1, 0), (0, a12), (0, a13), (0, a14), (0, a15), (1, 0), (0, r131), (0, r127), (0, v128), (1, 0), (1, 0)]) d_L_law_1059 (by decide) rfl rfl ?_
      refine pv_iload (n := 1063) d_L_law_1061 rfl rfl ?_
      refine pv_bipush (v := -13) (n := 1065) d_L_law_1063 (by decide) rfl ?_
      refine pv_icmp_ne (n := 1068) (tgt := 1089) d_L_law_1065 (by decide) rfl (fun c132 => ?_) (fun c132 => ?_)
      · replace h := h.1 c132
        refine pv_iload (n := 1091) d_L_law_1089 rfl rfl ?_
        refine pv_iload (n := 1093) d_L_law_1091 rfl rfl ?_
        refine pv_icmp_ne (n := 1096) (tgt := 1126) d_L_law_1093 (by decide) rfl (fun c133 => ?_) (fun c133 => ?_)
        · replace h := h.1 c133
          refine pv_unset (i := 8) (L1 := [(3000, 0), (9, 0), (0, a2), (0, a3), (1, 0), (0, a5), (0, a6), (1, 0), (1, 0), (0, a9), (0, a10), (1, 0), (0, a12), (0, a13), (0, a14), (0, a15), (1, 0), (0, r131), (0, r127), (0, v128), (1, 0), (1, 0)]) rfl ?_
          refine pv_unset (i := 10) (L1 := [(3000, 0), (9, 0), (0, a2), (0, a3), (1, 0), (0, a5), (0, a6), (1, 0), (1, 0), (0, a9), (1, 0), (1, 0), (0, a12), (0, a13), (0, a14), (0, a15), (1, 0), (0, r131), (0, r127), (0, v128), (1, 0), (1, 0)]) rfl ?_
          refine pv_unset (i := 12) (L1 := [(3000, 0), (9, 0), (0, a2), (0, a3), (1, 0), (0, a5), (0, a6), (1, 0), (1, 0), (0, a9), (1, 0), (1, 0), (1, 0), (0, a13), (0, a14), (0, a15), (1, 0), (0, r131), (0, r127), (0, v128), (1, 0), (1, 0)]) rfl ?_
          refine pv_unset (i := 13) (L1 := [(3000, 0), (9, 0), (0, a2), (0, a3), (1, 0), (0, a5), (0, a6), (1, 0), (1, 0), (0, a9), (1, 0), (1, 0), (1, 0), (1, 0), (0, a14), (0, a15), (1, 0), (0, r131), (0, r127), (0, v128), (1, 0), (1, 0)]) rfl ?_
          refine pv_unset (i := 14) (L1 := [(3000, 0), (9, 0), (0, a2), (0, a3), (1, 0), (0, a5), (0, a6), (1, 0), (1, 0), (0, a9), (1, 0), (1, 0), (1, 0), (1, 0), (1, 0), (0, a15), (1, 0), (0, r131), (0, r127), (0, v128), (1, 0), (1, 0)]) rfl ?_
          refine pv_unset (i := 15) (L1 := [(3000, 0), (9, 0), (0, a2), (0, a3), (1, 0), (0, a5), (0, a6), (1, 0), (1, 0), (0, a9), (1, 0), (1, 0), (1, 0), (1, 0), (1, 0), (1, 0), (1, 0), (0, r131), (0, r127), (0, v128), (1, 0), (1, 0)]) rfl ?_
          refine pv_unset (i := 17) (L1 := [(3000, 0), (9, 0), (0, a2), (0, a3), (1, 0), (0, a5), (0, a6), (1, 0), (1, 0), (0, a9), (1, 0), (1, 0), (1, 0), (1, 0), (1, 0), (1, 0), (1, 0), (1, 0), (0, r127), (0, v128), (1, 0), (1, 0)]) rfl ?_
          refine pv_unset (i := 18) (L1 := [(3000, 0), (9, 0), (0, a2), (0, a3), (1, 0), (0, a5), (0, a6), (1, 0), (1, 0), (0, a9), (1, 0), (1, 0), (1, 0), (1, 0), (1, 0), (1, 0), (1, 0), (1, 0), (1, 0), (0, v128), (1, 0), (1, 0)]) rfl ?_
          refine pv_unset (i := 19) (L1 := [(3000, 0), (9, 0), (0, a2), (0, a3), (1, 0), (0, a5), (0, a6), (1, 0), (1, 0), (0, a9), (1, 0), (1, 0), (1, 0), (1, 0), (1, 0), (1, 0), (1, 0), (1, 0), (1, 0), (1, 0), (1, 0), (1, 0)]) rfl ?_
          exact vjp_L_law_1126 hl0 hsc (by intros; exact hK53 _ _ _ _ _ _ (by assumption)) _ _ _ _ _ _ h
        · replace h := h.2 c133
          refine pv_aload_n (n := 1097) d_L_law_1096 rfl rfl rfl ?_
          refine pv_iload (n := 1099) d_L_law_1097 rfl rfl ?_
          refine pv_iload (n := 1101) d_L_law_1099 rfl rfl ?_
          refine pv_callV (n := 1104) (x := 0) [(0, a10), (0, a12)] [] (con_X_sheep hl0 h) pw_cf7 rfl q_556 q_557 q_558 q_62 q_555 pyo_X_sheep (by decide) rfl rfl (by decide) d_L_law_1101 rfl (fun w134 r135 h _ => ?_) (fun _ _ h => h.elim)
          show pw_V l g cx_L_law Q X 1104 [(3000, 0), (9, 0), (0, a2), (0, a3), (1, 0), (0, a5), (0, a6), (1, 0), (0, a8), (0, a9), (0, a10), (1, 0), (0, a12), (0, a13), (0, a14), (0, a15), (1, 0), (0, r131), (0, r127), (0, v128), (1, 0), (1, 0)] [(0, r135)] w134
          refine pv_iload (n := 1106) d_L_law_1104 rfl rfl ?_
          refine pv_icmp_ne (n := 1109) (tgt := 1126) d_L_law_1106 (by decide) rfl (fun c136 => ?_) (fun c136 => ?_)
          · replace h := h.1 c136
            refine pv_unset (i := 8) (L1 := [(3000, 0), (9, 0), (0, a2), (0, a3), (1, 0), (0, a5), (0, a6), (1, 0), (1, 0), (0, a9), (0, a10), (1, 0), (0, a12), (0, a13), (0, a14), (0, a15), (1, 0), (0, r131), (0, r127), (0, v128), (1, 0), (1, 0)]) rfl ?_
            refine pv_unset (i := 10) (L1 := [(3000, 0), (9, 0), (0, a2), (0, a3), (1, 0), (0, a5), (0, a6), (1, 0), (1, 0), (0, a9), (1, 0), (1, 0), (0, a12), (0, a13), (0, a14), (0, a15), (1, 0), (0, r131), (0, r127), (0, v128), (1, 0), (1, 0)]) rfl ?_
            refine pv_unset (i := 12) (L1 := [(3000, 0), (9, 0), (0, a2), (0, a3), (1, 0), (0, a5), (0, a6), (1, 0), (1, 0), (0, a9), (1, 0), (1, 0), (1, 0), (0, a13), (0, a14), (0, a15), (1, 0), (0, r131), (0, r127), (0, v128), (1, 0), (1, 0)]) rfl ?_
            refine pv_unset (i := 13) (L1 := [(3000, 0), (9, 0), (0, a2), (0, a3), (1, 0), (0, a5), (0, a6), (1, 0), (1, 0), (0, a9), (1, 0), (1, 0), (1, 0), (1, 0), (0, a14), (0, a15), (1, 0), (0, r131), (0, r127), (0, v128), (1, 0), (1, 0)]) rfl ?_
            refine pv_unset (i := 14) (L1 := [(3000, 0), (9, 0), (0, a2), (0, a3), (1, 0), (0, a5), (0, a6), (1, 0), (1, 0), (0, a9), (1, 0), (1, 0), (1, 0), (1, 0), (1, 0), (0, a15), (1, 0), (0, r131), (0, r127), (0, v128), (1, 0), (1, 0)]) rfl ?_
            refine pv_unset (i := 15) (L1 := [(3000, 0), (9, 0), (0, a2), (0, a3), (1, 0), (0, a5), (0, a6), (1, 0), (1, 0), (0, a9), (1, 0), (1, 0), (1, 0), (1, 0), (1, 0), (1, 0), (1, 0), (0, r131), (0, r127), (0, v128), (1, 0), (1, 0)]) rfl ?_
            refine pv_unset (i := 17) (L1 := [(3000, 0), (9, 0), (0, a2), (0, a3), (1, 0), (0, a5), (0, a6), (1, 0), (1, 0), (0, a9), (1, 0), (1, 0), (1, 0), (1, 0), (1, 0), (1, 0), (1, 0), (1, 0), (0, r127), (0, v128), (1, 0), (1, 0)]) rfl ?_
            refine pv_unset (i := 18) (L1 := [(3000, 0), (9, 0), (0, a2), (0, a3), (1, 0), (0, a5), (0, a6), (1, 0), (1, 0), (0, a9), (1, 0), (1, 0), (1, 0), (1, 0), (1, 0), (1, 0), (1, 0), (1, 0), (1, 0), (0, v128), (1, 0), (1, 0)]) rfl ?_
            refine pv_unset (i := 19) (L1 := [(3000, 0), (9, 0), (0, a2), (0, a3), (1, 0), (0, a5), (0, a6), (1, 0), (1, 0), (0, a9), (1, 0), (1, 0), (1, 0), (1, 0), (1, 0), (1, 0), (1, 0), (1, 0), (1, 0), (1, 0), (1, 0), (1, 0)]) rfl ?_
            exact vjp_L_law_1126 hl0 hsc (by intros; exact hK53 _ _ _ _ _ _ (by assumption)) _ _ _ _ _ _ h
          · replace h := h.2 c136
            refine pv_iload (n := 1111) d_L_law_1109 rfl rfl ?_
            refine pv_iconst (v := 2) (n := 1112) d_L_law_1111 (by decide) rfl ?_
            refine pv_aload_n (n := 1113) d_L_law_1112 rfl rfl rfl ?_
            refine pv_iload (n := 1115) d_L_law_1113 rfl rfl ?_
            refine pv_callV (n := 1118) (x := 0) [(0, a12)] [(0, 2), (0, v128)] (con_X_area hl0 h) pw_cf7 rfl q_497 q_498 q_499 q_62 q_496 pyo_X_area (by decide) rfl rfl (by decide) d_L_law_1115 rfl (fun w137 r138 h _ => ?_) (fun _ _ h => h.elim)
            show pw_V l g cx_L_law Q X 1118 [(3000, 0), (9, 0), (0, a2), (0, a3), (1, 0), (0, a5), (0, a6), (1, 0), (0, a8), (0, a9), (0, a10), (1, 0), (0, a12), (0, a13), (0, a14), (0, a15), (1, 0), (0, r131), (0, r127), (0, v128), (1, 0), (1, 0)] [(0, r138), (0, 2), (0, v128)] w137
            refine pv_imul (n := 1119) d_L_law_1118 rfl ?_
            refine pv_icmp_gt (n := 1122) (tgt := 1126) d_L_law_1119 (by decide) rfl (fun c139 => ?_) (fun c139 => ?_)
            · replace h := h.1 c139
              refine pv_unset (i := 8) (L1 := [(3000, 0), (9, 0), (0, a2), (0, a3), (1, 0), (0, a5), (0, a6), (1, 0), (1, 0), (0, a9), (0, a10), (1, 0), (0, a12), (0, a13), (0, a14), (0, a15), (1, 0), (0, r131), (0, r127), (0, v128), (1, 0), (1, 0)]) rfl ?_
              refine pv_unset (i := 10) (L1 := [(3000, 0), (9, 0), (0, a2), (0, a3), (1, 0), (0, a5), (0, a6), (1, 0), (1, 0), (0, a9), (1, 0), (1, 0), (0, a12), (0, a13), (0, a14), (0, a15), (1, 0), (0, r131), (0, r127), (0, v128), (1, 0), (1, 0)]) rfl ?_
              refine pv_unset (i := 12) (L1 := [(3000, 0), (9, 0), (0, a2), (0, a3), (1, 0), (0, a5), (0, a6), (1, 0), (1, 0), (0, a9), (1, 0), (1, 0), (1, 0), (0, a13), (0, a14), (0, a15), (1, 0), (0, r131), (0, r127), (0, v128), (1, 0), (1, 0)]) rfl ?_
              refine pv_unset (i := 13) (L1 := [(3000, 0), (9, 0), (0, a2), (0, a3), (1, 0), (0, a5), (0, a6), (1, 0), (1, 0), (0, a9), (1, 0), (1, 0), (1, 0), (1, 0), (0, a14), (0, a15), (1, 0), (0, r131), (0, r127), (0, v128), (1, 0), (1, 0)]) rfl ?_
              refine pv_unset (i := 14) (L1 := [(3000, 0), (9, 0), (0, a2), (0, a3), (1, 0), (0, a5), (0, a6), (1, 0), (1, 0), (0, a9), (1, 0), (1, 0), (1, 0), (1, 0), (1, 0), (0, a15), (1, 0), (0, r131), (0, r127), (0, v128), (1, 0), (1, 0)]) rfl ?_
              refine pv_unset (i := 15) (L1 := [(3000, 0), (9, 0), (0, a2), (0, a3), (1, 0), (0, a5), (0, a6), (1, 0), (1, 0), (0, a9), (1, 0), (1, 0), (1, 0), (1, 0), (1, 0), (1, 0), (1, 0), (0, r131), (0, r127), (0, v128), (1, 0), (1, 0)]) rfl ?_
              refine pv_unset (i := 17) (L1 := [(3000, 0), (9, 0), (0, a2), (0, a3), (1, 0), (0, a5), (0, a6), (1, 0), (1, 0), (0, a9), (1, 0), (1, 0), (1, 0), (1, 0), (1, 0), (1, 0), (1, 0), (1, 0), (0, r127), (0, v128), (1, 0), (1, 0)]) rfl ?_
              refine pv_unset (i := 18) (L1 := [(3000, 0), (9, 0), (0, a2), (0, a3), (1, 0), (0, a5), (0, a6), (1, 0), (1, 0), (0, a9), (1, 0), (1, 0), (1, 0), (1, 0), (1, 0), (1, 0), (1, 0), (1, 0), (1, 0), (0, v128), (1, 0), (1, 0)]) rfl ?_
              refine pv_unset (i := 19) (L1 := [(3000, 0), (9, 0), (0, a2), (0, a3), (1, 0), (0, a5), (0, a6), (1, 0), (1, 0), (0, a9), (1, 0), (1, 0), (1, 0), (1, 0), (1, 0), (1, 0), (1, 0), (1, 0), (1, 0), (1, 0), (1, 0), (1, 0)]) rfl ?_
              exact vjp_L_law_1126 hl0 hsc (by intros; exact hK53 _ _ _ _ _ _ (by assumption)) _ _ _ _ _ _ h
            · replace h := h.2 c139
              refine pv_iconst (v := 1) (n := 1123) d_L_law_1122 (by decide) rfl ?_
              refine pv_goto (tgt := 1127) d_L_law_1123 (by decide) ?_
              refine pv_unset (i := 8) (L1 := [(3000, 0), (9, 0), (0, a2), (0, a3), (1, 0), (0, a5), (0, a6), (1, 0), (1, 0), (0, a9), (0, a10), (1, 0), (0, a12), (0, a13), (0, a14), (0, a15), (1, 0), (0, r131), (0, r127), (0, v128), (1, 0), (1, 0)]) rfl ?_
              refine pv_unset (i := 10) (L1 := [(3000, 0), (9, 0), (0, a2), (0, a3), (1, 0), (0, a5), (0, a6), (1, 0), (1, 0), (0, a9), (1, 0), (1, 0), (0, a12), (0, a13), (0, a14), (0, a15), (1, 0), (0, r131), (0, r127), (0, v128), (1, 0), (1, 0)]) rfl ?_
              refine pv_unset (i := 12) (L1 := [(3000, 0), (9, 0), (0, a2), (0, a3), (1, 0), (0, a5), (0, a6), (1, 0), (1, 0), (0, a9), (1, 0), (1, 0), (1, 0), (0, a13), (0, a14), (0, a15), (1, 0), (0, r131), (0, r127), (0, v128), (1, 0), (1, 0)]) rfl ?_
              refine pv_unset (i := 13) (L1 := [(3000, 0), (9, 0), (0, a2), (0, a3), (1, 0), (0, a5), (0, a6), (1, 0), (1, 0), (0, a9), (1, 0), (1, 0), (1, 0), (1, 0), (0, a14), (0, a15), (1, 0), (0, r131), (0, r127), (0, v128), (1, 0), (1, 0)]) rfl ?_
              refine pv_unset (i := 14) (L1 := [(3000, 0), (9, 0), (0, a2), (0, a3), (1, 0), (0, a5), (0, a6), (1, 0), (1, 0), (0, a9), (1, 0), (1, 0), (1, 0), (1, 0), (1, 0), (0, a15), (1, 0), (0, r131), (0, r127), (0, v128), (1, 0), (1, 0)]) rfl ?_
              refine pv_unset (i := 15) (L1 := [(3000, 0), (9, 0), (0, a2), (0, a3), (1, 0), (0, a5), (0, a6), (1, 0), (1, 0), (0, a9), (1, 0), (1, 0), (1, 0), (1, 0), (1, 0), (1, 0), (1, 0), (0, r131), (0, r127), (0, v128), (1, 0), (1, 0)]) rfl ?_
              refine pv_unset (i := 17) (L1 := [(3000, 0), (9, 0), (0, a2), (0, a3), (1, 0), (0, a5), (0, a6), (1, 0), (1, 0), (0, a9), (1, 0), (1, 0), (1, 0), (1, 0), (1, 0), (1, 0), (1, 0), (1, 0), (0, r127), (0, v128), (1, 0), (1, 0)]) rfl ?_
              refine pv_unset (i := 18) (L1 := [(3000, 0), (9, 0), (0, a2), (0, a3), (1, 0), (0, a5), (0, a6), (1, 0), (1, 0), (0, a9), (1, 0), (1, 0), (1, 0), (1, 0), (1, 0), (1, 0), (1, 0), (1, 0), (1, 0), (0, v128), (1, 0), (1, 0)]) rfl ?_
              refine pv_unset (i := 19) (L1 := [(3000, 0), (9, 0), (0, a2), (0, a3), (1, 0), (0, a5), (0, a6), (1, 0), (1, 0), (0, a9), (1, 0), (1, 0), (1, 0), (1, 0), (1, 0), (1, 0), (1, 0), (1, 0), (1, 0), (1, 0), (1, 0), (1, 0)]) rfl ?_
              exact vjp_L_law_1127 hl0 hsc (by intros; exact hK53 _ _ _ _ _ _ (by assumption)) _ _ _ _ _ _ _ h
      · replace h := h.2 c132
        refine pv_aload_n (n := 1069) d_L_law_1068 rfl rfl rfl ?_
        refine pv_iload (n := 1071) d_L_law_1069 rfl rfl ?_
        refine pv_iload (n := 1073) d_L_law_1071 rfl rfl ?_
        refine pv_callV (n := 1076) (x := 0) [(0, a10), (0, a12)] [] (con_X_sheep hl0 h) pw_cf7 rfl q_556 q_557 q_558 q_62 q_555 pyo_X_sheep (by decide) rfl rfl (by decide) d_L_law_1073 rfl (fun w140 r141 h _ => ?_) (fun _ _ h => h.elim)
        show pw_V l g cx_L_law Q X 1076 [(3000, 0), (9, 0), (0, a2), (0, a3), (1, 0), (0, a5), (0, a6), (1, 0), (0, a8), (0, a9), (0, a10), (1, 0), (0, a12), (0, a13), (0, a14), (0, a15), (1, 0), (0, r131), (0, r127), (0, v128), (1, 0), (1, 0)] [(0, r141)] w140
        refine pv_iload (n := 1078) d_L_law_1076 rfl rfl ?_
        refine pv_icmp_ne (n := 1081) (tgt := 1085) d_L_law_1078 (by decide) rfl (fun c142 => ?_) (fun c142 => ?_)
        · replace h := h.1 c142
          refine pv_iconst (v := 0) (n := 1086) d_L_law_1085 (by decide) rfl ?_
          refine pv_goto (tgt := 1127) d_L_law_1086 (by decide) ?_
          refine pv_unset (i := 8) (L1 := [(3000, 0), (9, 0), (0, a2), (0, a3), (1, 0), (0, a5), (0, a6), (1, 0), (1, 0), (0, a9), (0, a10), (1, 0), (0, a12), (0, a13), (0, a14), (0, a15), (1, 0), (0, r131), (0, r127), (0, v128), (1, 0), (1, 0)]) rfl ?_
          refine pv_unset (i := 10) (L1 := [(3000, 0), (9, 0), (0, a2), (0, a3), (1, 0), (0, a5), (0, a6), (1, 0), (1, 0), (0, a9), (1, 0), (1, 0), (0, a12), (0, a13), (0, a14), (0, a15), (1, 0), (0, r131), (0, r127), (0, v128), (1, 0), (1, 0)]) rfl ?_
          refine pv_unset (i := 12) (L1 := [(3000, 0), (9, 0), (0, a2), (0, a3), (1, 0), (0, a5), (0, a6), (1, 0), (1, 0), (0, a9), (1, 0), (1, 0), (1, 0), (0, a13), (0, a14), (0, a15), (1, 0), (0, r131), (0, r127), (0, v128), (1, 0), (1, 0)]) rfl ?_
          refine pv_unset (i := 13) (L1 := [(3000, 0), (9, 0), (0, a2), (0, a3), (1, 0), (0, a5), (0, a6), (1, 0), (1, 0), (0, a9), (1, 0), (1, 0), (1, 0), (1, 0), (0, a14), (0, a15), (1, 0), (0, r131), (0, r127), (0, v128), (1, 0), (1, 0)]) rfl ?_
          refine pv_unset (i := 14) (L1 := [(3000, 0), (9, 0), (0, a2), (0, a3), (1, 0), (0, a5), (0, a6), (1, 0), (1, 0), (0, a9), (1, 0), (1, 0), (1, 0), (1, 0), (1, 0), (0, a15), (1, 0), (0, r131), (0, r127), (0, v128), (1, 0), (1, 0)]) rfl ?_
          refine pv_unset (i := 15) (L1 := [(3000, 0), (9, 0), (0, a2), (0, a3), (1, 0), (0, a5), (0, a6), (1, 0), (1, 0), (0, a9), (1, 0), (1, 0), (1, 0), (1, 0), (1, 0), (1, 0), (1, 0), (0, r131), (0, r127), (0, v128), (1, 0), (1, 0)]) rfl ?_
          refine pv_unset (i := 17) (L1 := [(3000, 0), (9, 0), (0, a2), (0, a3), (1, 0), (0, a5), (0, a6), (1, 0), (1, 0), (0, a9), (1, 0), (1, 0), (1, 0), (1, 0), (1, 0), (1, 0), (1, 0), (1, 0), (0, r127), (0, v128), (1, 0), (1, 0)]) rfl ?_
          refine pv_unset (i := 18) (L1 := [(3000, 0), (9, 0), (0, a2), (0, a3), (1, 0), (0, a5), (0, a6), (1, 0), (1, 0), (0, a9), (1, 0), (1, 0), (1, 0), (1, 0), (1, 0), (1, 0), (1, 0), (1, 0), (1, 0), (0, v128), (1, 0), (1, 0)]) rfl ?_
          refine pv_unset (i := 19) (L1 := [(3000, 0), (9, 0), (0, a2), (0, a3), (1, 0), (0, a5), (0, a6), (1, 0), (1, 0), (0, a9), (1, 0), (1, 0), (1, 0), (1, 0), (1, 0), (1, 0), (1, 0), (1, 0), (1, 0), (1, 0), (1, 0), (1, 0)]) rfl ?_
          exact vjp_L_law_1127 hl0 hsc (by intros; exact hK53 _ _ _ _ _ _ (by assumption)) _ _ _ _ _ _ _ h
        · replace h := h.2 c142
          refine pv_iconst (v := 1) (n := 1082) d_L_law_1081 (by decide) rfl ?_
          refine pv_goto (tgt := 1127) d_L_law_1082 (by decide) ?_
          refine pv_unset (i := 8) (L1 := [(3000, 0), (9, 0), (0, a2), (0, a3), (1, 0), (0, a5), (0, a6), (1, 0), (1, 0), (0, a9), (0, a10), (1, 0), (0, a12), (0, a13), (0, a14), (0, a15), (1, 0), (0, r131), (0, r127), (0, v128), (1, 0), (1, 0)]) rfl ?_
          refine pv_unset (i := 10) (L1 := [(3000, 0), (9, 0), (0, a2), (0, a3), (1, 0), (0, a5), (0, a6), (1, 0), (1, 0), (0, a9), (1, 0), (1, 0), (0, a12), (0, a13), (0, a14), (0, a15), (1, 0), (0, r131), (0, r127), (0, v128), (1, 0), (1, 0)]) rfl ?_
          refine pv_unset (i := 12) (L1 := [(3000, 0), (9, 0), (0, a2), (0, a3), (1, 0), (0, a5), (0, a6), (1, 0), (1, 0), (0, a9), (1, 0), (1, 0), (1, 0), (0, a13), (0, a14), (0, a15), (1, 0), (0, r131), (0, r127), (0, v128), (1, 0), (1, 0)]) rfl ?_
          refine pv_unset (i := 13) (L1 := [(3000, 0), (9, 0), (0, a2), (0, a3), (1, 0), (0, a5), (0, a6), (1, 0), (1, 0), (0, a9), (1, 0), (1, 0), (1, 0), (1, 0), (0, a14), (0, a15), (1, 0), (0, r131), (0, r127), (0, v128), (1, 0), (1, 0)]) rfl ?_
          refine pv_unset (i := 14) (L1 := [(3000, 0), (9, 0), (0, a2), (0, a3), (1, 0), (0, a5), (0, a6), (1, 0), (1, 0), (0, a9), (1, 0), (1, 0), (1, 0), (1, 0), (1, 0), (0, a15), (1, 0), (0, r131), (0, r127), (0, v128), (1, 0), (1, 0)]) rfl ?_
          refine pv_unset (i := 15) (L1 := [(3000, 0), (9, 0), (0, a2), (0, a3), (1, 0), (0, a5), (0, a6), (1, 0), (1, 0), (0, a9), (1, 0), (1, 0), (1, 0), (1, 0), (1, 0), (1, 0), (1, 0), (0, r131), (0, r127), (0, v128), (1, 0), (1, 0)]) rfl ?_
          refine pv_unset (i := 17) (L1 := [(3000, 0), (9, 0), (0, a2), (0, a3), (1, 0), (0, a5), (0, a6), (1, 0), (1, 0), (0, a9), (1, 0), (1, 0), (1, 0), (1, 0), (1, 0), (1, 0), (1, 0), (1, 0), (0, r127), (0, v128), (1, 0), (1, 0)]) rfl ?_
          refine pv_unset (i := 18) (L1 := [(3000, 0), (9, 0), (0, a2), (0, a3), (1, 0), (0, a5), (0, a6), (1, 0), (1, 0), (0, a9), (1, 0), (1, 0), (1, 0), (1, 0), (1, 0), (1, 0), (1, 0), (1, 0), (1, 0), (0, v128), (1, 0), (1, 0)]) rfl ?_
          refine pv_unset (i := 19) (L1 := [(3000, 0), (9, 0), (0, a2), (0, a3), (1, 0), (0, a5), (0, a6), (1, 0), (1, 0), (0, a9), (1, 0), (1, 0), (1, 0), (1, 0), (1, 0), (1, 0), (1, 0), (1, 0), (1, 0), (1, 0), (1, 0), (1, 0)]) rfl ?_
          exact vjp_L_law_1127 hl0 hsc (by intros; exact hK53 _ _ _ _ _ _ (by assumption)) _ _ _ _ _ _ _ h
  · replace h := h.2 c92
    refine pv_aload_n (n := 947) d_L_law_946 rfl rfl rfl ?_
    refine pv_bipush (v := 8) (n := 949) d_L_law_947 (by decide) rfl ?_
    refine pv_iload (n := 951) d_L_law_949 rfl rfl ?_
    refine pv_iconst (v := 3) (n := 952) d_L_law_951 (by decide) rfl ?_
    refine pv_ishr (n := 953) d_L_law_952 rfl ?_
    refine pv_iconst (v := 3) (n := 954) d_L_law_953 (by decide) rfl ?_
    refine pv_irem (n := 955) d_L_law_954 (by decide) rfl ?_
    refine pv_iload (n := 957) d_L_law_955 rfl rfl ?_
    refine pv_iload (n := 959) d_L_law_957 rfl rfl ?_
    refine pv_iconst (v := 1) (n := 960) d_L_law_959 (by decide) rfl ?_
    refine pv_iload (n := 962) d_L_law_960 rfl rfl ?_
    refine pv_bipush (v := 9) (n := 964) d_L_law_962 (by decide) rfl ?_
    refine pv_ishr (n := 965) d_L_law_964 rfl ?_
    refine pv_bipush (v := 99) (n := 967) d_L_law_965 (by decide) rfl ?_
    refine pv_irem (n := 968) d_L_law_967 (by decide) rfl ?_
    refine pv_iadd (n := 969) d_L_law_968 rfl ?_
    refine pv_callSH (n := 972) [(9, 0), (0, 8), (0, ((a8 >>> (3 &&& 31)) - (a8 >>> (3 &&& 31)) / 3 * 3)), (0, a12), (0, a10), (0, ((1 : Int32) + ((a8 >>> (9 &&& 31)) - (a8 >>> (9 &&& 31)) / 99 * 99)))] [] (con_L_on hl0 h) q_541 q_542 q_483 q_540 pyo_L_on (by decide) rfl rfl d_L_law_969 rfl (fun w143 r144 h _ => ?_) (fun _ _ h => h.elim)
    show pw_V l g cx_L_law Q X 972 [(3000, 0), (9, 0), (0, a2), (0, a3), (1, 0), (0, a5), (0, a6), (1, 0), (0, a8), (0, a9), (0, a10), (1, 0), (0, a12), (0, a13), (0, a14), (0, a15), (1, 0), (1, 0), (1, 0), (1, 0), (1, 0), (1, 0)] [(0, r144)] w143
    refine pv_istore (n := 974) (L' := [(3000, 0), (9, 0), (0, a2), (0, a3), (1, 0), (0, a5), (0, a6), (1, 0), (0, a8), (0, a9), (0, a10), (1, 0), (0, a12), (0, a13), (0, a14), (0, a15), (1, 0), (0, r144), (1, 0), (1, 0), (1, 0), (1, 0)]) d_L_law_972 (by decide) rfl rfl ?_
    refine pv_iload (n := 976) d_L_law_974 rfl rfl ?_
    refine pv_bipush (v := -13) (n := 978) d_L_law_976 (by decide) rfl ?_
    refine pv_icmp_eq (n := 981) (tgt := 1010) d_L_law_978 (by decide) rfl (fun c145 => ?_) (fun c145 => ?_)
    · replace h := h.1 c145
      refine pv_unset (i := 8) (L1 := [(3000, 0), (9, 0), (0, a2), (0, a3), (1, 0), (0, a5), (0, a6), (1, 0), (1, 0), (0, a9), (0, a10), (1, 0), (0, a12), (0, a13), (0, a14), (0, a15), (1, 0), (0, r144), (1, 0), (1, 0), (1, 0), (1, 0)]) rfl ?_
      refine pv_unset (i := 10) (L1 := [(3000, 0), (9, 0), (0, a2), (0, a3), (1, 0), (0, a5), (0, a6), (1, 0), (1, 0), (0, a9), (1, 0), (1, 0), (0, a12), (0, a13), (0, a14), (0, a15), (1, 0), (0, r144), (1, 0), (1, 0), (1, 0), (1, 0)]) rfl ?_
      refine pv_unset (i := 12) (L1 := [(3000, 0), (9, 0), (0, a2), (0, a3), (1, 0), (0, a5), (0, a6), (1, 0), (1, 0), (0, a9), (1, 0), (1, 0), (1, 0), (0, a13), (0, a14), (0, a15), (1, 0), (0, r144), (1, 0), (1, 0), (1, 0), (1, 0)]) rfl ?_
      refine pv_unset (i := 13) (L1 := [(3000, 0), (9, 0), (0, a2), (0, a3), (1, 0), (0, a5), (0, a6), (1, 0), (1, 0), (0, a9), (1, 0), (1, 0), (1, 0), (1, 0), (0, a14), (0, a15), (1, 0), (0, r144), (1, 0), (1, 0), (1, 0), (1, 0)]) rfl ?_
      refine pv_unset (i := 14) (L1 := [(3000, 0), (9, 0), (0, a2), (0, a3), (1, 0), (0, a5), (0, a6), (1, 0), (1, 0), (0, a9), (1, 0), (1, 0), (1, 0), (1, 0), (1, 0), (0, a15), (1, 0), (0, r144), (1, 0), (1, 0), (1, 0), (1, 0)]) rfl ?_
      refine pv_unset (i := 15) (L1 := [(3000, 0), (9, 0), (0, a2), (0, a3), (1, 0), (0, a5), (0, a6), (1, 0), (1, 0), (0, a9), (1, 0), (1, 0), (1, 0), (1, 0), (1, 0), (1, 0), (1, 0), (0, r144), (1, 0), (1, 0), (1, 0), (1, 0)]) rfl ?_
      refine pv_unset (i := 17) (L1 := [(3000, 0), (9, 0), (0, a2), (0, a3), (1, 0), (0, a5), (0, a6), (1, 0), (1, 0), (0, a9), (1, 0), (1, 0), (1, 0), (1, 0), (1, 0), (1, 0), (1, 0), (1, 0), (1, 0), (1, 0), (1, 0), (1, 0)]) rfl ?_
      exact vjp_L_law_1010 hl0 hsc (by intros; exact hK53 _ _ _ _ _ _ (by assumption)) _ _ _ _ _ _ h
    · replace h := h.2 c145
      refine pv_iload (n := 983) d_L_law_981 rfl rfl ?_
      refine pv_iload_n (n := 984) d_L_law_983 rfl rfl rfl ?_
      refine pv_icmp_lt (n := 987) (tgt := 1014) d_L_law_984 (by decide) rfl (fun c146 => ?_) (fun c146 => ?_)
      · replace h := h.1 c146
        refine pv_unset (i := 8) (L1 := [(3000, 0), (9, 0), (0, a2), (0, a3), (1, 0), (0, a5), (0, a6), (1, 0), (1, 0), (0, a9), (0, a10), (1, 0), (0, a12), (0, a13), (0, a14), (0, a15), (1, 0), (0, r144), (1, 0), (1, 0), (1, 0), (1, 0)]) rfl ?_
        refine pv_unset (i := 10) (L1 := [(3000, 0), (9, 0), (0, a2), (0, a3), (1, 0), (0, a5), (0, a6), (1, 0), (1, 0), (0, a9), (1, 0), (1, 0), (0, a12), (0, a13), (0, a14), (0, a15), (1, 0), (0, r144), (1, 0), (1, 0), (1, 0), (1, 0)]) rfl ?_
        refine pv_unset (i := 12) (L1 := [(3000, 0), (9, 0), (0, a2), (0, a3), (1, 0), (0, a5), (0, a6), (1, 0), (1, 0), (0, a9), (1, 0), (1, 0), (1, 0), (0, a13), (0, a14), (0, a15), (1, 0), (0, r144), (1, 0), (1, 0), (1, 0), (1, 0)]) rfl ?_
        refine pv_unset (i := 13) (L1 := [(3000, 0), (9, 0), (0, a2), (0, a3), (1, 0), (0, a5), (0, a6), (1, 0), (1, 0), (0, a9), (1, 0), (1, 0), (1, 0), (1, 0), (0, a14), (0, a15), (1, 0), (0, r144), (1, 0), (1, 0), (1, 0), (1, 0)]) rfl ?_
        refine pv_unset (i := 14) (L1 := [(3000, 0), (9, 0), (0, a2), (0, a3), (1, 0), (0, a5), (0, a6), (1, 0), (1, 0), (0, a9), (1, 0), (1, 0), (1, 0), (1, 0), (1, 0), (0, a15), (1, 0), (0, r144), (1, 0), (1, 0), (1, 0), (1, 0)]) rfl ?_
        refine pv_unset (i := 15) (L1 := [(3000, 0), (9, 0), (0, a2), (0, a3), (1, 0), (0, a5), (0, a6), (1, 0), (1, 0), (0, a9), (1, 0), (1, 0), (1, 0), (1, 0), (1, 0), (1, 0), (1, 0), (0, r144), (1, 0), (1, 0), (1, 0), (1, 0)]) rfl ?_
        refine pv_unset (i := 17) (L1 := [(3000, 0), (9, 0), (0, a2), (0, a3), (1, 0), (0, a5), (0, a6), (1, 0), (1, 0), (0, a9), (1, 0), (1, 0), (1, 0), (1, 0), (1, 0), (1, 0), (1, 0), (1, 0), (1, 0), (1, 0), (1, 0), (1, 0)]) rfl ?_
        exact vjp_L_law_1014 hl0 hsc (by intros; exact hK53 _ _ _ _ _ _ (by assumption)) _ _ _ _ _ _ h
      · replace h := h.2 c146
        refine pv_aload_n (n := 988) d_L_law_987 rfl rfl rfl ?_
        refine pv_iload (n := 990) d_L_law_988 rfl rfl ?_
        refine pv_iconst (v := 2) (n := 991) d_L_law_990 (by decide) rfl ?_
        refine pv_callV (n := 994) (x := 0) [(0, r144), (0, 2)] [] (con_X_rightAt hl0 h) pw_cf7 rfl q_517 q_518 q_519 q_62 q_516 pyo_X_rightAt (by decide) rfl rfl (by decide) d_L_law_991 rfl (fun w147 r148 h _ => ?_) (fun _ _ h => h.elim)
        show pw_V l g cx_L_law Q X 994 [(3000, 0), (9, 0), (0, a2), (0, a3), (1, 0), (0, a5), (0, a6), (1, 0), (0, a8), (0, a9), (0, a10), (1, 0), (0, a12), (0, a13), (0, a14), (0, a15), (1, 0), (0, r144), (1, 0), (1, 0), (1, 0), (1, 0)] [(0, r148)] w147
        refine pv_iload (n := 996) d_L_law_994 rfl rfl ?_
        refine pv_icmp_ne (n := 999) (tgt := 1014) d_L_law_996 (by decide) rfl (fun c149 => ?_) (fun c149 => ?_)
        · replace h := h.1 c149
          refine pv_unset (i := 8) (L1 := [(3000, 0), (9, 0), (0, a2), (0, a3), (1, 0), (0, a5), (0, a6), (1, 0), (1, 0), (0, a9), (0, a10), (1, 0), (0, a12), (0, a13), (0, a14), (0, a15), (1, 0), (0, r144), (1, 0), (1, 0), (1, 0), (1, 0)]) rfl ?_
          refine pv_unset (i := 10) (L1 := [(3000, 0), (9, 0), (0, a2), (0, a3), (1, 0), (0, a5), (0, a6), (1, 0), (1, 0), (0, a9), (1, 0), (1, 0), (0, a12), (0, a13), (0, a14), (0, a15), (1, 0), (0, r144), (1, 0), (1, 0), (1, 0), (1, 0)]) rfl ?_
          refine pv_unset (i := 12) (L1 := [(3000, 0), (9, 0), (0, a2), (0, a3), (1, 0), (0, a5), (0, a6), (1, 0), (1, 0), (0, a9), (1, 0), (1, 0), (1, 0), (0, a13), (0, a14), (0, a15), (1, 0), (0, r144), (1, 0), (1, 0), (1, 0), (1, 0)]) rfl ?_
          refine pv_unset (i := 13) (L1 := [(3000, 0), (9, 0), (0, a2), (0, a3), (1, 0), (0, a5), (0, a6), (1, 0), (1, 0), (0, a9), (1, 0), (1, 0), (1, 0), (1, 0), (0, a14), (0, a15), (1, 0), (0, r144), (1, 0), (1, 0), (1, 0), (1, 0)]) rfl ?_
          refine pv_unset (i := 14) (L1 := [(3000, 0), (9, 0), (0, a2), (0, a3), (1, 0), (0, a5), (0, a6), (1, 0), (1, 0), (0, a9), (1, 0), (1, 0), (1, 0), (1, 0), (1, 0), (0, a15), (1, 0), (0, r144), (1, 0), (1, 0), (1, 0), (1, 0)]) rfl ?_
          refine pv_unset (i := 15) (L1 := [(3000, 0), (9, 0), (0, a2), (0, a3), (1, 0), (0, a5), (0, a6), (1, 0), (1, 0), (0, a9), (1, 0), (1, 0), (1, 0), (1, 0), (1, 0), (1, 0), (1, 0), (0, r144), (1, 0), (1, 0), (1, 0), (1, 0)]) rfl ?_
          refine pv_unset (i := 17) (L1 := [(3000, 0), (9, 0), (0, a2), (0, a3), (1, 0), (0, a5), (0, a6), (1, 0), (1, 0), (0, a9), (1, 0), (1, 0), (1, 0), (1, 0), (1, 0), (1, 0), (1, 0), (1, 0), (1, 0), (1, 0), (1, 0), (1, 0)]) rfl ?_
          exact vjp_L_law_1014 hl0 hsc (by intros; exact hK53 _ _ _ _ _ _ (by assumption)) _ _ _ _ _ _ h
        · replace h := h.2 c149
          refine pv_aload_n (n := 1000) d_L_law_999 rfl rfl rfl ?_
          refine pv_iload (n := 1002) d_L_law_1000 rfl rfl ?_
          refine pv_iconst (v := 4) (n := 1003) d_L_law_1002 (by decide) rfl ?_
          refine pv_callV (n := 1006) (x := 0) [(0, r144), (0, 4)] [] (con_X_rightAt hl0 h) pw_cf7 rfl q_517 q_518 q_519 q_62 q_516 pyo_X_rightAt (by decide) rfl rfl (by decide) d_L_law_1003 rfl (fun w150 r151 h _ => ?_) (fun _ _ h => h.elim)
          show pw_V l g cx_L_law Q X 1006 [(3000, 0), (9, 0), (0, a2), (0, a3), (1, 0), (0, a5), (0, a6), (1, 0), (0, a8), (0, a9), (0, a10), (1, 0), (0, a12), (0, a13), (0, a14), (0, a15), (1, 0), (0, r144), (1, 0), (1, 0), (1, 0), (1, 0)] [(0, r151)] w150
          refine pv_iconst (v := -1) (n := 1007) d_L_law_1006 (by decide) rfl ?_
          refine pv_icmp_ne (n := 1010) (tgt := 1014) d_L_law_1007 (by decide) rfl (fun c152 => ?_) (fun c152 => ?_)
          · replace h := h.1 c152
            refine pv_unset (i := 8) (L1 := [(3000, 0), (9, 0), (0, a2), (0, a3), (1, 0), (0, a5), (0, a6), (1, 0), (1, 0), (0, a9), (0, a10), (1, 0), (0, a12), (0, a13), (0, a14), (0, a15), (1, 0), (0, r144), (1, 0), (1, 0), (1, 0), (1, 0)]) rfl ?_
            refine pv_unset (i := 10) (L1 := [(3000, 0), (9, 0), (0, a2), (0, a3), (1, 0), (0, a5), (0, a6), (1, 0), (1, 0), (0, a9), (1, 0), (1, 0), (0, a12), (0, a13), (0, a14), (0, a15), (1, 0), (0, r144), (1, 0), (1, 0), (1, 0), (1, 0)]) rfl ?_
            refine pv_unset (i := 12) (L1 := [(3000, 0), (9, 0), (0, a2), (0, a3), (1, 0), (0, a5), (0, a6), (1, 0), (1, 0), (0, a9), (1, 0), (1, 0), (1, 0), (0, a13), (0, a14), (0, a15), (1, 0), (0, r144), (1, 0), (1, 0), (1, 0), (1, 0)]) rfl ?_
            refine pv_unset (i := 13) (L1 := [(3000, 0), (9, 0), (0, a2), (0, a3), (1, 0), (0, a5), (0, a6), (1, 0), (1, 0), (0, a9), (1, 0), (1, 0), (1, 0), (1, 0), (0, a14), (0, a15), (1, 0), (0, r144), (1, 0), (1, 0), (1, 0), (1, 0)]) rfl ?_
            refine pv_unset (i := 14) (L1 := [(3000, 0), (9, 0), (0, a2), (0, a3), (1, 0), (0, a5), (0, a6), (1, 0), (1, 0), (0, a9), (1, 0), (1, 0), (1, 0), (1, 0), (1, 0), (0, a15), (1, 0), (0, r144), (1, 0), (1, 0), (1, 0), (1, 0)]) rfl ?_
            refine pv_unset (i := 15) (L1 := [(3000, 0), (9, 0), (0, a2), (0, a3), (1, 0), (0, a5), (0, a6), (1, 0), (1, 0), (0, a9), (1, 0), (1, 0), (1, 0), (1, 0), (1, 0), (1, 0), (1, 0), (0, r144), (1, 0), (1, 0), (1, 0), (1, 0)]) rfl ?_
            refine pv_unset (i := 17) (L1 := [(3000, 0), (9, 0), (0, a2), (0, a3), (1, 0), (0, a5), (0, a6), (1, 0), (1, 0), (0, a9), (1, 0), (1, 0), (1, 0), (1, 0), (1, 0), (1, 0), (1, 0), (1, 0), (1, 0), (1, 0), (1, 0), (1, 0)]) rfl ?_
            exact vjp_L_law_1014 hl0 hsc (by intros; exact hK53 _ _ _ _ _ _ (by assumption)) _ _ _ _ _ _ h
          · replace h := h.2 c152
            refine pv_unset (i := 8) (L1 := [(3000, 0), (9, 0), (0, a2), (0, a3), (1, 0), (0, a5), (0, a6), (1, 0), (1, 0), (0, a9), (0, a10), (1, 0), (0, a12), (0, a13), (0, a14), (0, a15), (1, 0), (0, r144), (1, 0), (1, 0), (1, 0), (1, 0)]) rfl ?_
            refine pv_unset (i := 10) (L1 := [(3000, 0), (9, 0), (0, a2), (0, a3), (1, 0), (0, a5), (0, a6), (1, 0), (1, 0), (0, a9), (1, 0), (1, 0), (0, a12), (0, a13), (0, a14), (0, a15), (1, 0), (0, r144), (1, 0), (1, 0), (1, 0), (1, 0)]) rfl ?_
            refine pv_unset (i := 12) (L1 := [(3000, 0), (9, 0), (0, a2), (0, a3), (1, 0), (0, a5), (0, a6), (1, 0), (1, 0), (0, a9), (1, 0), (1, 0), (1, 0), (0, a13), (0, a14), (0, a15), (1, 0), (0, r144), (1, 0), (1, 0), (1, 0), (1, 0)]) rfl ?_
            refine pv_unset (i := 13) (L1 := [(3000, 0), (9, 0), (0, a2), (0, a3), (1, 0), (0, a5), (0, a6), (1, 0), (1, 0), (0, a9), (1, 0), (1, 0), (1, 0), (1, 0), (0, a14), (0, a15), (1, 0), (0, r144), (1, 0), (1, 0), (1, 0), (1, 0)]) rfl ?_
            refine pv_unset (i := 14) (L1 := [(3000, 0), (9, 0), (0, a2), (0, a3), (1, 0), (0, a5), (0, a6), (1, 0), (1, 0), (0, a9), (1, 0), (1, 0), (1, 0), (1, 0), (1, 0), (0, a15), (1, 0), (0, r144), (1, 0), (1, 0), (1, 0), (1, 0)]) rfl ?_
            refine pv_unset (i := 15) (L1 := [(3000, 0), (9, 0), (0, a2), (0, a3), (1, 0), (0, a5), (0, a6), (1, 0), (1, 0), (0, a9), (1, 0), (1, 0), (1, 0), (1, 0), (1, 0), (1, 0), (1, 0), (0, r144), (1, 0), (1, 0), (1, 0), (1, 0)]) rfl ?_
            refine pv_unset (i := 17) (L1 := [(3000, 0), (9, 0), (0, a2), (0, a3), (1, 0), (0, a5), (0, a6), (1, 0), (1, 0), (0, a9), (1, 0), (1, 0), (1, 0), (1, 0), (1, 0), (1, 0), (1, 0), (1, 0), (1, 0), (1, 0), (1, 0), (1, 0)]) rfl ?_
            exact vjp_L_law_1010 hl0 hsc (by intros; exact hK53 _ _ _ _ _ _ (by assumption)) _ _ _ _ _ _ h
set_option maxHeartbeats 4000000 in
set_option maxRecDepth 20000 in
def jp_L_law_934 (Ln : Nat) (xs : Nat → Int32) (Q : pw_W → Int32 → Prop) (X : pw_W → Nat → Prop) (K53 : Int32 → Int32 → Int32 → Int32 → Int32 → pw_W → Prop) (a2 a3 a5 a6 a9 s0 : Int32) (w : pw_W) : Prop := ∃ k153, lp_L_law_1781 Ln xs Q X K53 k153 a2 a3 s0 a5 a6 a9 w
set_option maxHeartbeats 4000000 in
set_option maxRecDepth 20000 in
theorem vjp_L_law_934 {l : Launch} {g : pw_G} {Q : pw_W → Int32 → Prop} {X : pw_W → Nat → Prop} {Ln : Nat} {xs : Nat → Int32} (hl0 : l.stackTraces = false) (hsc : pw_sc g Ln xs) {K53 : Int32 → Int32 → Int32 → Int32 → Int32 → pw_W → Prop} (hK53 : ∀ (a2 a3 a4 a5 a6 : Int32) (w : pw_W), K53 a2 a3 a4 a5 a6 w → pw_V l g cx_L_law Q X 53 [(3000, 0), (9, 0), (0, a2), (0, a3), (0, a4), (0, a5), (0, a6), (1, 0), (1, 0), (1, 0), (1, 0), (1, 0), (1, 0), (1, 0), (1, 0), (1, 0), (1, 0), (1, 0), (1, 0), (1, 0), (1, 0), (1, 0)] [] w) (a2 a3 a5 a6 a9 s0 : Int32) (w : pw_W) (h : jp_L_law_934 Ln xs Q X K53 a2 a3 a5 a6 a9 s0 w) : pw_V l g cx_L_law Q X 934 [(3000, 0), (9, 0), (0, a2), (0, a3), (1, 0), (0, a5), (0, a6), (1, 0), (1, 0), (0, a9), (1, 0), (1, 0), (1, 0), (1, 0), (1, 0), (1, 0), (1, 0), (1, 0), (1, 0), (1, 0), (1, 0), (1, 0)] [(0, s0)] w := by
  unfold jp_L_law_934 at h
  refine pv_istore (n := 936) (L' := [(3000, 0), (9, 0), (0, a2), (0, a3), (0, s0), (0, a5), (0, a6), (1, 0), (1, 0), (0, a9), (1, 0), (1, 0), (1, 0), (1, 0), (1, 0), (1, 0), (1, 0), (1, 0), (1, 0), (1, 0), (1, 0), (1, 0)]) d_L_law_934 (by decide) rfl rfl ?_
  refine pv_goto (tgt := 1781) d_L_law_936 (by decide) ?_
  obtain ⟨k153, h⟩ := h
  exact vlp_L_law_1781 hl0 hsc (by intros; exact hK53 _ _ _ _ _ _ (by assumption)) _ _ _ _ _ _ _ _ h
set_option maxHeartbeats 4000000 in
set_option maxRecDepth 20000 in
def jp_L_law_933 (Ln : Nat) (xs : Nat → Int32) (Q : pw_W → Int32 → Prop) (X : pw_W → Nat → Prop) (K53 : Int32 → Int32 → Int32 → Int32 → Int32 → pw_W → Prop) (a2 a3 a5 a6 a9 : Int32) (w : pw_W) : Prop := jp_L_law_934 Ln xs Q X K53 a2 a3 a5 a6 a9 0 w
set_option maxHeartbeats 4000000 in
set_option maxRecDepth 20000 in
theorem vjp_L_law_933 {l : Launch} {g : pw_G} {Q : pw_W → Int32 → Prop} {X : pw_W → Nat → Prop} {Ln : Nat} {xs : Nat → Int32} (hl0 : l.stackTraces = false) (hsc : pw_sc g Ln xs) {K53 : Int32 → Int32 → Int32 → Int32 → Int32 → pw_W → Prop} (hK53 : ∀ (a2 a3 a4 a5 a6 : Int32) (w : pw_W), K53 a2 a3 a4 a5 a6 w → pw_V l g cx_L_law Q X 53 [(3000, 0), (9, 0), (0, a2), (0, a3), (0, a4), (0, a5), (0, a6), (1, 0), (1, 0), (1, 0), (1, 0), (1, 0), (1, 0), (1, 0), (1, 0), (1, 0), (1, 0), (1, 0), (1, 0), (1, 0), (1, 0), (1, 0)] [] w) (a2 a3 a5 a6 a9 : Int32) (w : pw_W) (h : jp_L_law_933 Ln xs Q X K53 a2 a3 a5 a6 a9 w) : pw_V l g cx_L_law Q X 933 [(3000, 0), (9, 0), (0, a2), (0, a3), (1, 0), (0, a5), (0, a6), (1, 0), (1, 0), (0, a9), (1, 0), (1, 0), (1, 0), (1, 0), (1, 0), (1, 0), (1, 0), (1, 0), (1, 0), (1, 0), (1, 0), (1, 0)] [] w := by
  unfold jp_L_law_933 at h
  refine pv_iconst (v := 0) (n := 934) d_L_law_933 (by decide) rfl ?_
  exact vjp_L_law_934 hl0 hsc (by intros; exact hK53 _ _ _ _ _ _ (by assumption)) _ _ _ _ _ _ _ h
set_option maxHeartbeats 4000000 in
set_option maxRecDepth 20000 in
def jp_L_law_929 (Ln : Nat) (xs : Nat → Int32) (Q : pw_W → Int32 → Prop) (X : pw_W → Nat → Prop) (K53 : Int32 → Int32 → Int32 → Int32 → Int32 → pw_W → Prop) (a2 a3 a5 a6 a9 : Int32) (w : pw_W) : Prop := jp_L_law_934 Ln xs Q X K53 a2 a3 a5 a6 a9 1 w
set_option maxHeartbeats 4000000 in
set_option maxRecDepth 20000 in
theorem vjp_L_law_929 {l : Launch} {g : pw_G} {Q : pw_W → Int32 → Prop} {X : pw_W → Nat → Prop} {Ln : Nat} {xs : Nat → Int32} (hl0 : l.stackTraces = false) (hsc : pw_sc g Ln xs) {K53 : Int32 → Int32 → Int32 → Int32 → Int32 → pw_W → Prop} (hK53 : ∀ (a2 a3 a4 a5 a6 : Int32) (w : pw_W), K53 a2 a3 a4 a5 a6 w → pw_V l g cx_L_law Q X 53 [(3000, 0), (9, 0), (0, a2), (0, a3), (0, a4), (0, a5), (0, a6), (1, 0), (1, 0), (1, 0), (1, 0), (1, 0), (1, 0), (1, 0), (1, 0), (1, 0), (1, 0), (1, 0), (1, 0), (1, 0), (1, 0), (1, 0)] [] w) (a2 a3 a5 a6 a9 : Int32) (w : pw_W) (h : jp_L_law_929 Ln xs Q X K53 a2 a3 a5 a6 a9 w) : pw_V l g cx_L_law Q X 929 [(3000, 0), (9, 0), (0, a2), (0, a3), (1, 0), (0, a5), (0, a6), (1, 0), (1, 0), (0, a9), (1, 0), (1, 0), (1, 0), (1, 0), (1, 0), (1, 0), (1, 0), (1, 0), (1, 0), (1, 0), (1, 0), (1, 0)] [] w := by
  unfold jp_L_law_929 at h
  refine pv_iconst (v := 1) (n := 930) d_L_law_929 (by decide) rfl ?_
  refine pv_goto (tgt := 934) d_L_law_930 (by decide) ?_
  exact vjp_L_law_934 hl0 hsc (by intros; exact hK53 _ _ _ _ _ _ (by assumption)) _ _ _ _ _ _ _ h
set_option maxHeartbeats 4000000 in
set_option maxRecDepth 20000 in
def jp_L_law_798 (Ln : Nat) (xs : Nat → Int32) (Q : pw_W → Int32 → Prop) (X : pw_W → Nat → Prop) (K53 : Int32 → Int32 → Int32 → Int32 → Int32 → pw_W → Prop) (a2 a3 a4 a5 a6 a9 a18 a19 a20 s0 : Int32) (w : pw_W) : Prop := (a4 = 0 → jp_L_law_933 Ln xs Q X K53 a2 a3 a5 a6 a9 w) ∧ (¬ a4 = 0 → (¬ a19 = 0 → wp_X_caseAt w a18 3 (fun w156 r157 => (¬ r157 = a20 → jp_L_law_933 Ln xs Q X K53 a2 a3 a5 a6 a9 w156) ∧ (r157 = a20 → (s0 = (-13) → jp_L_law_929 Ln xs Q X K53 a2 a3 a5 a6 a9 w156) ∧ (¬ s0 = (-13) → wp_X_caseAt w156 a18 0 (fun w160 r161 => (¬ r161 = 0 → jp_L_law_933 Ln xs Q X K53 a2 a3 a5 a6 a9 w160) ∧ (r161 = 0 → wp_X_caseAt w160 a18 1 (fun w163 r164 => (¬ r164 = s0 → jp_L_law_933 Ln xs Q X K53 a2 a3 a5 a6 a9 w163) ∧ (r164 = s0 → jp_L_law_929 Ln xs Q X K53 a2 a3 a5 a6 a9 w163)) (fun _ _ => False))) (fun _ _ => False)))) (fun _ _ => False)) ∧ (a19 = 0 → (¬ s0 = (-13) → wp_X_caseAt w a18 0 (fun w167 r168 => (¬ r168 = 1 → (a20 < s0 → jp_L_law_933 Ln xs Q X K53 a2 a3 a5 a6 a9 w167) ∧ (¬ a20 < s0 → wp_X_caseAt w167 a18 3 (fun w171 r172 => (¬ r172 = 0 → jp_L_law_933 Ln xs Q X K53 a2 a3 a5 a6 a9 w171) ∧ (r172 = 0 → jp_L_law_929 Ln xs Q X K53 a2 a3 a5 a6 a9 w171)) (fun _ _ => False))) ∧ (r168 = 1 → wp_X_caseAt w167 a18 3 (fun w174 r175 => (r175 < a20 → jp_L_law_933 Ln xs Q X K53 a2 a3 a5 a6 a9 w174) ∧ (¬ r175 < a20 → wp_X_caseAt w174 a18 2 (fun w177 r178 => (r178 < s0 → jp_L_law_933 Ln xs Q X K53 a2 a3 a5 a6 a9 w177) ∧ (¬ r178 < s0 → jp_L_law_929 Ln xs Q X K53 a2 a3 a5 a6 a9 w177)) (fun _ _ => False))) (fun _ _ => False))) (fun _ _ => False)) ∧ (s0 = (-13) → wp_X_caseAt w a18 0 (fun w180 r181 => (¬ r181 = 0 → jp_L_law_933 Ln xs Q X K53 a2 a3 a5 a6 a9 w180) ∧ (r181 = 0 → jp_L_law_929 Ln xs Q X K53 a2 a3 a5 a6 a9 w180)) (fun _ _ => False))))
set_option maxHeartbeats 4000000 in
set_option maxRecDepth 20000 in
theorem vjp_L_law_798 {l : Launch} {g : pw_G} {Q : pw_W → Int32 → Prop} {X : pw_W → Nat → Prop} {Ln : Nat} {xs : Nat → Int32} (hl0 : l.stackTraces = false) (hsc : pw_sc g Ln xs) {K53 : Int32 → Int32 → Int32 → Int32 → Int32 → pw_W → Prop} (hK53 : ∀ (a2 a3 a4 a5 a6 : Int32) (w : pw_W), K53 a2 a3 a4 a5 a6 w → pw_V l g cx_L_law Q X 53 [(3000, 0), (9, 0), (0, a2), (0, a3), (0, a4), (0, a5), (0, a6), (1, 0), (1, 0), (1, 0), (1, 0), (1, 0), (1, 0), (1, 0), (1, 0), (1, 0), (1, 0), (1, 0), (1, 0), (1, 0), (1, 0), (1, 0)] [] w) (a2 a3 a4 a5 a6 a9 a18 a19 a20 s0 : Int32) (w : pw_W) (h : jp_L_law_798 Ln xs Q X K53 a2 a3 a4 a5 a6 a9 a18 a19 a20 s0 w) : pw_V l g cx_L_law Q X 798 [(3000, 0), (9, 0), (0, a2), (0, a3), (0, a4), (0, a5), (0, a6), (1, 0), (1, 0), (0, a9), (1, 0), (1, 0), (1, 0), (1, 0), (1, 0), (1, 0), (1, 0), (1, 0), (0, a18), (0, a19), (0, a20), (1, 0)] [(0, s0)] w := by
  unfold jp_L_law_798 at h
  refine pv_istore (n := 800) (L' := [(3000, 0), (9, 0), (0, a2), (0, a3), (0, a4), (0, a5), (0, a6), (1, 0), (1, 0), (0, a9), (1, 0), (1, 0), (1, 0), (1, 0), (1, 0), (1, 0), (1, 0), (1, 0), (0, a18), (0, a19), (0, a20), (0, s0)]) d_L_law_798 (by decide) rfl rfl ?_
  refine pv_iload (n := 802) d_L_law_800 rfl rfl ?_
  refine pv_if_eq (n := 805) (tgt := 933) d_L_law_802 (by decide) rfl (fun c154 => ?_) (fun c154 => ?_)
  · replace h := h.1 c154
    refine pv_unset (i := 4) (L1 := [(3000, 0), (9, 0), (0, a2), (0, a3), (1, 0), (0, a5), (0, a6), (1, 0), (1, 0), (0, a9), (1, 0), (1, 0), (1, 0), (1, 0), (1, 0), (1, 0), (1, 0), (1, 0), (0, a18), (0, a19), (0, a20), (0, s0)]) rfl ?_
    refine pv_unset (i := 18) (L1 := [(3000, 0), (9, 0), (0, a2), (0, a3), (1, 0), (0, a5), (0, a6), (1, 0), (1, 0), (0, a9), (1, 0), (1, 0), (1, 0), (1, 0), (1, 0), (1, 0), (1, 0), (1, 0), (1, 0), (0, a19), (0, a20), (0, s0)]) rfl ?_
    refine pv_unset (i := 19) (L1 := [(3000, 0), (9, 0), (0, a2), (0, a3), (1, 0), (0, a5), (0, a6), (1, 0), (1, 0), (0, a9), (1, 0), (1, 0), (1, 0), (1, 0), (1, 0), (1, 0), (1, 0), (1, 0), (1, 0), (1, 0), (0, a20), (0, s0)]) rfl ?_
    refine pv_unset (i := 20) (L1 := [(3000, 0), (9, 0), (0, a2), (0, a3), (1, 0), (0, a5), (0, a6), (1, 0), (1, 0), (0, a9), (1, 0), (1, 0), (1, 0), (1, 0), (1, 0), (1, 0), (1, 0), (1, 0), (1, 0), (1, 0), (1, 0), (0, s0)]) rfl ?_
    refine pv_unset (i := 21) (L1 := [(3000, 0), (9, 0), (0, a2), (0, a3), (1, 0), (0, a5), (0, a6), (1, 0), (1, 0), (0, a9), (1, 0), (1, 0), (1, 0), (1, 0), (1, 0), (1, 0), (1, 0), (1, 0), (1, 0), (1, 0), (1, 0), (1, 0)]) rfl ?_
    exact vjp_L_law_933 hl0 hsc (by intros; exact hK53 _ _ _ _ _ _ (by assumption)) _ _ _ _ _ _ h
  · replace h := h.2 c154
    refine pv_iload (n := 807) d_L_law_805 rfl rfl ?_
    refine pv_if_ne (n := 810) (tgt := 888) d_L_law_807 (by decide) rfl (fun c155 => ?_) (fun c155 => ?_)
    · replace h := h.1 c155
      refine pv_aload_n (n := 889) d_L_law_888 rfl rfl rfl ?_
      refine pv_iload (n := 891) d_L_law_889 rfl rfl ?_
      refine pv_iconst (v := 3) (n := 892) d_L_law_891 (by decide) rfl ?_
      refine pv_callV (n := 895) (x := 0) [(0, a18), (0, 3)] [] (con_X_caseAt hl0 h) pw_cf7 rfl q_521 q_522 q_523 q_62 q_520 pyo_X_caseAt (by decide) rfl rfl (by decide) d_L_law_892 rfl (fun w156 r157 h _ => ?_) (fun _ _ h => h.elim)
      show pw_V l g cx_L_law Q X 895 [(3000, 0), (9, 0), (0, a2), (0, a3), (0, a4), (0, a5), (0, a6), (1, 0), (1, 0), (0, a9), (1, 0), (1, 0), (1, 0), (1, 0), (1, 0), (1, 0), (1, 0), (1, 0), (0, a18), (0, a19), (0, a20), (0, s0)] [(0, r157)] w156
      refine pv_iload (n := 897) d_L_law_895 rfl rfl ?_
      refine pv_icmp_ne (n := 900) (tgt := 933) d_L_law_897 (by decide) rfl (fun c158 => ?_) (fun c158 => ?_)
      · replace h := h.1 c158
        refine pv_unset (i := 4) (L1 := [(3000, 0), (9, 0), (0, a2), (0, a3), (1, 0), (0, a5), (0, a6), (1, 0), (1, 0), (0, a9), (1, 0), (1, 0), (1, 0), (1, 0), (1, 0), (1, 0), (1, 0), (1, 0), (0, a18), (0, a19), (0, a20), (0, s0)]) rfl ?_
        refine pv_unset (i := 18) (L1 := [(3000, 0), (9, 0), (0, a2), (0, a3), (1, 0), (0, a5), (0, a6), (1, 0), (1, 0), (0, a9), (1, 0), (1, 0), (1, 0), (1, 0), (1, 0), (1, 0), (1, 0), (1, 0), (1, 0), (0, a19), (0, a20), (0, s0)]) rfl ?_
        refine pv_unset (i := 19) (L1 := [(3000, 0), (9, 0), (0, a2), (0, a3), (1, 0), (0, a5), (0, a6), (1, 0), (1, 0), (0, a9), (1, 0), (1, 0), (1, 0), (1, 0), (1, 0), (1, 0), (1, 0), (1, 0), (1, 0), (1, 0), (0, a20), (0, s0)]) rfl ?_
        refine pv_unset (i := 20) (L1 := [(3000, 0), (9, 0), (0, a2), (0, a3), (1, 0), (0, a5), (0, a6), (1, 0), (1, 0), (0, a9), (1, 0), (1, 0), (1, 0), (1, 0), (1, 0), (1, 0), (1, 0), (1, 0), (1, 0), (1, 0), (1, 0), (0, s0)]) rfl ?_
        refine pv_unset (i := 21) (L1 := [(3000, 0), (9, 0), (0, a2), (0, a3), (1, 0), (0, a5), (0, a6), (1, 0), (1, 0), (0, a9), (1, 0), (1, 0), (1, 0), (1, 0), (1, 0), (1, 0), (1, 0), (1, 0), (1, 0), (1, 0), (1, 0), (1, 0)]) rfl ?_
        exact vjp_L_law_933 hl0 hsc (by intros; exact hK53 _ _ _ _ _ _ (by assumption)) _ _ _ _ _ _ h
      · replace h := h.2 c158
        refine pv_iload (n := 902) d_L_law_900 rfl rfl ?_
        refine pv_bipush (v := -13) (n := 904) d_L_law_902 (by decide) rfl ?_
        refine pv_icmp_eq (n := 907) (tgt := 929) d_L_law_904 (by decide) rfl (fun c159 => ?_) (fun c159 => ?_)
        · replace h := h.1 c159
          refine pv_unset (i := 4) (L1 := [(3000, 0), (9, 0), (0, a2), (0, a3), (1, 0), (0, a5), (0, a6), (1, 0), (1, 0), (0, a9), (1, 0), (1, 0), (1, 0), (1, 0), (1, 0), (1, 0), (1, 0), (1, 0), (0, a18), (0, a19), (0, a20), (0, s0)]) rfl ?_
          refine pv_unset (i := 18) (L1 := [(3000, 0), (9, 0), (0, a2), (0, a3), (1, 0), (0, a5), (0, a6), (1, 0), (1, 0), (0, a9), (1, 0), (1, 0), (1, 0), (1, 0), (1, 0), (1, 0), (1, 0), (1, 0), (1, 0), (0, a19), (0, a20), (0, s0)]) rfl ?_
          refine pv_unset (i := 19) (L1 := [(3000, 0), (9, 0), (0, a2), (0, a3), (1, 0), (0, a5), (0, a6), (1, 0), (1, 0), (0, a9), (1, 0), (1, 0), (1, 0), (1, 0), (1, 0), (1, 0), (1, 0), (1, 0), (1, 0), (1, 0), (0, a20), (0, s0)]) rfl ?_
          refine pv_unset (i := 20) (L1 := [(3000, 0), (9, 0), (0, a2), (0, a3), (1, 0), (0, a5), (0, a6), (1, 0), (1, 0), (0, a9), (1, 0), (1, 0), (1, 0), (1, 0), (1, 0), (1, 0), (1, 0), (1, 0), (1, 0), (1, 0), (1, 0), (0, s0)]) rfl ?_
          refine pv_unset (i := 21) (L1 := [(3000, 0), (9, 0), (0, a2), (0, a3), (1, 0), (0, a5), (0, a6), (1, 0), (1, 0), (0, a9), (1, 0), (1, 0), (1, 0), (1, 0), (1, 0), (1, 0), (1, 0), (1, 0), (1, 0), (1, 0), (1, 0), (1, 0)]) rfl ?_
          exact vjp_L_law_929 hl0 hsc (by intros; exact hK53 _ _ _ _ _ _ (by assumption)) _ _ _ _ _ _ h
        · replace h := h.2 c159
          refine pv_aload_n (n := 908) d_L_law_907 rfl rfl rfl ?_
          refine pv_iload (n := 910) d_L_law_908 rfl rfl ?_
          refine pv_iconst (v := 0) (n := 911) d_L_law_910 (by decide) rfl ?_
          refine pv_callV (n := 914) (x := 0) [(0, a18), (0, 0)] [] (con_X_caseAt hl0 h) pw_cf7 rfl q_521 q_522 q_523 q_62 q_520 pyo_X_caseAt (by decide) rfl rfl (by decide) d_L_law_911 rfl (fun w160 r161 h _ => ?_) (fun _ _ h => h.elim)
          show pw_V l g cx_L_law Q X 914 [(3000, 0), (9, 0), (0, a2), (0, a3), (0, a4), (0, a5), (0, a6), (1, 0), (1, 0), (0, a9), (1, 0), (1, 0), (1, 0), (1, 0), (1, 0), (1, 0), (1, 0), (1, 0), (0, a18), (0, a19), (0, a20), (0, s0)] [(0, r161)] w160
          refine pv_if_ne (n := 917) (tgt := 933) d_L_law_914 (by decide) rfl (fun c162 => ?_) (fun c162 => ?_)
          · replace h := h.1 c162
            refine pv_unset (i := 4) (L1 := [(3000, 0), (9, 0), (0, a2), (0, a3), (1, 0), (0, a5), (0, a6), (1, 0), (1, 0), (0, a9), (1, 0), (1, 0), (1, 0), (1, 0), (1, 0), (1, 0), (1, 0), (1, 0), (0, a18), (0, a19), (0, a20), (0, s0)]) rfl ?_
            refine pv_unset (i := 18) (L1 := [(3000, 0), (9, 0), (0, a2), (0, a3), (1, 0), (0, a5), (0, a6), (1, 0), (1, 0), (0, a9), (1, 0), (1, 0), (1, 0), (1, 0), (1, 0), (1, 0), (1, 0), (1, 0), (1, 0), (0, a19), (0, a20), (0, s0)]) rfl ?_
            refine pv_unset (i := 19) (L1 := [(3000, 0), (9, 0), (0, a2), (0, a3), (1, 0), (0, a5), (0, a6), (1, 0), (1, 0), (0, a9), (1, 0), (1, 0), (1, 0), (1, 0), (1, 0), (1, 0), (1, 0), (1, 0), (1, 0), (1, 0), (0, a20), (0, s0)]) rfl ?_
            refine pv_unset (i := 20) (L1 := [(3000, 0), (9, 0), (0, a2), (0, a3), (1, 0), (0, a5), (0, a6), (1, 0), (1, 0), (0, a9), (1, 0), (1, 0), (1, 0), (1, 0), (1, 0), (1, 0), (1, 0), (1, 0), (1, 0), (1, 0), (1, 0), (0, s0)]) rfl ?_
            refine pv_unset (i := 21) (L1 := [(3000, 0), (9, 0), (0, a2), (0, a3), (1, 0), (0, a5), (0, a6), (1, 0), (1, 0), (0, a9), (1, 0), (1, 0), (1, 0), (1, 0), (1, 0), (1, 0), (1, 0), (1, 0), (1, 0), (1, 0), (1, 0), (1, 0)]) rfl ?_
            exact vjp_L_law_933 hl0 hsc (by intros; exact hK53 _ _ _ _ _ _ (by assumption)) _ _ _ _ _ _ h
          · replace h := h.2 c162
            refine pv_aload_n (n := 918) d_L_law_917 rfl rfl rfl ?_
            refine pv_iload (n := 920) d_L_law_918 rfl rfl ?_
            refine pv_iconst (v := 1) (n := 921) d_L_law_920 (by decide) rfl ?_
            refine pv_callV (n := 924) (x := 0) [(0, a18), (0, 1)] [] (con_X_caseAt hl0 h) pw_cf7 rfl q_521 q_522 q_523 q_62 q_520 pyo_X_caseAt (by decide) rfl rfl (by decide) d_L_law_921 rfl (fun w163 r164 h _ => ?_) (fun _ _ h => h.elim)
            show pw_V l g cx_L_law Q X 924 [(3000, 0), (9, 0), (0, a2), (0, a3), (0, a4), (0, a5), (0, a6), (1, 0), (1, 0), (0, a9), (1, 0), (1, 0), (1, 0), (1, 0), (1, 0), (1, 0), (1, 0), (1, 0), (0, a18), (0, a19), (0, a20), (0, s0)] [(0, r164)] w163
            refine pv_iload (n := 926) d_L_law_924 rfl rfl ?_
            refine pv_icmp_ne (n := 929) (tgt := 933) d_L_law_926 (by decide) rfl (fun c165 => ?_) (fun c165 => ?_)
            · replace h := h.1 c165
              refine pv_unset (i := 4) (L1 := [(3000, 0), (9, 0), (0, a2), (0, a3), (1, 0), (0, a5), (0, a6), (1, 0), (1, 0), (0, a9), (1, 0), (1, 0), (1, 0), (1, 0), (1, 0), (1, 0), (1, 0), (1, 0), (0, a18), (0, a19), (0, a20), (0, s0)]) rfl ?_
              refine pv_unset (i := 18) (L1 := [(3000, 0), (9, 0), (0, a2), (0, a3), (1, 0), (0, a5), (0, a6), (1, 0), (1, 0), (0, a9), (1, 0), (1, 0), (1, 0), (1, 0), (1, 0), (1, 0), (1, 0), (1, 0), (1, 0), (0, a19), (0, a20), (0, s0)]) rfl ?_
              refine pv_unset (i := 19) (L1 := [(3000, 0), (9, 0), (0, a2), (0, a3), (1, 0), (0, a5), (0, a6), (1, 0), (1, 0), (0, a9), (1, 0), (1, 0), (1, 0), (1, 0), (1, 0), (1, 0), (1, 0), (1, 0), (1, 0), (1, 0), (0, a20), (0, s0)]) rfl ?_
              refine pv_unset (i := 20) (L1 := [(3000, 0), (9, 0), (0, a2), (0, a3), (1, 0), (0, a5), (0, a6), (1, 0), (1, 0), (0, a9), (1, 0), (1, 0), (1, 0), (1, 0), (1, 0), (1, 0), (1, 0), (1, 0), (1, 0), (1, 0), (1, 0), (0, s0)]) rfl ?_
              refine pv_unset (i := 21) (L1 := [(3000, 0), (9, 0), (0, a2), (0, a3), (1, 0), (0, a5), (0, a6), (1, 0), (1, 0), (0, a9), (1, 0), (1, 0), (1, 0), (1, 0), (1, 0), (1, 0), (1, 0), (1, 0), (1, 0), (1, 0), (1, 0), (1, 0)]) rfl ?_
              exact vjp_L_law_933 hl0 hsc (by intros; exact hK53 _ _ _ _ _ _ (by assumption)) _ _ _ _ _ _ h
            · replace h := h.2 c165
              refine pv_unset (i := 4) (L1 := [(3000, 0), (9, 0), (0, a2), (0, a3), (1, 0), (0, a5), (0, a6), (1, 0), (1, 0), (0, a9), (1, 0), (1, 0), (1, 0), (1, 0), (1, 0), (1, 0), (1, 0), (1, 0), (0, a18), (0, a19), (0, a20), (0, s0)]) rfl ?_
              refine pv_unset (i := 18) (L1 := [(3000, 0), (9, 0), (0, a2), (0, a3), (1, 0), (0, a5), (0, a6), (1, 0), (1, 0), (0, a9), (1, 0), (1, 0), (1, 0), (1, 0), (1, 0), (1, 0), (1, 0), (1, 0), (1, 0), (0, a19), (0, a20), (0, s0)]) rfl ?_
              refine pv_unset (i := 19) (L1 := [(3000, 0), (9, 0), (0, a2), (0, a3), (1, 0), (0, a5), (0, a6), (1, 0), (1, 0), (0, a9), (1, 0), (1, 0), (1, 0), (1, 0), (1, 0), (1, 0), (1, 0), (1, 0), (1, 0), (1, 0), (0, a20), (0, s0)]) rfl ?_
              refine pv_unset (i := 20) (L1 := [(3000, 0), (9, 0), (0, a2), (0, a3), (1, 0), (0, a5), (0, a6), (1, 0), (1, 0), (0, a9), (1, 0), (1, 0), (1, 0), (1, 0), (1, 0), (1, 0), (1, 0), (1, 0), (1, 0), (1, 0), (1, 0), (0, s0)]) rfl ?_
              refine pv_unset (i := 21) (L1 := [(3000, 0), (9, 0), (0, a2), (0, a3), (1, 0), (0, a5), (0, a6), (1, 0), (1, 0), (0, a9), (1, 0), (1, 0), (1, 0), (1, 0), (1, 0), (1, 0), (1, 0), (1, 0), (1, 0), (1, 0), (1, 0), (1, 0)]) rfl ?_
              exact vjp_L_law_929 hl0 hsc (by intros; exact hK53 _ _ _ _ _ _ (by assumption)) _ _ _ _ _ _ h
    · replace h := h.2 c155
      refine pv_iload (n := 812) d_L_law_810 rfl rfl ?_
      refine pv_bipush (v := -13) (n := 814) d_L_law_812 (by decide) rfl ?_
      refine pv_icmp_ne (n := 817) (tgt := 830) d_L_law_814 (by decide) rfl (fun c166 => ?_) (fun c166 => ?_)
      · replace h := h.1 c166
        refine pv_aload_n (n := 831) d_L_law_830 rfl rfl rfl ?_
        refine pv_iload (n := 833) d_L_law_831 rfl rfl ?_
        refine pv_iconst (v := 0) (n := 834) d_L_law_833 (by decide) rfl ?_
        refine pv_callV (n := 837) (x := 0) [(0, a18), (0, 0)] [] (con_X_caseAt hl0 h) pw_cf7 rfl q_521 q_522 q_523 q_62 q_520 pyo_X_caseAt (by decide) rfl rfl (by decide) d_L_law_834 rfl (fun w167 r168 h _ => ?_) (fun _ _ h => h.elim)
        show pw_V l g cx_L_law Q X 837 [(3000, 0), (9, 0), (0, a2), (0, a3), (0, a4), (0, a5), (0, a6), (1, 0), (1, 0), (0, a9), (1, 0), (1, 0), (1, 0), (1, 0), (1, 0), (1, 0), (1, 0), (1, 0), (0, a18), (0, a19), (0, a20), (0, s0)] [(0, r168)] w167
        refine pv_iconst (v := 1) (n := 838) d_L_law_837 (by decide) rfl ?_
        refine pv_icmp_ne (n := 841) (tgt := 868) d_L_law_838 (by decide) rfl (fun c169 => ?_) (fun c169 => ?_)
        · replace h := h.1 c169
          refine pv_iload (n := 870) d_L_law_868 rfl rfl ?_
          refine pv_iload (n := 872) d_L_law_870 rfl rfl ?_
          refine pv_icmp_gt (n := 875) (tgt := 933) d_L_law_872 (by decide) rfl (fun c170 => ?_) (fun c170 => ?_)
          · replace h := h.1 c170
            refine pv_unset (i := 4) (L1 := [(3000, 0), (9, 0), (0, a2), (0, a3), (1, 0), (0, a5), (0, a6), (1, 0), (1, 0), (0, a9), (1, 0), (1, 0), (1, 0), (1, 0), (1, 0), (1, 0), (1, 0), (1, 0), (0, a18), (0, a19), (0, a20), (0, s0)]) rfl ?_
            refine pv_unset (i := 18) (L1 := [(3000, 0), (9, 0), (0, a2), (0, a3), (1, 0), (0, a5), (0, a6), (1, 0), (1, 0), (0, a9), (1, 0), (1, 0), (1, 0), (1, 0), (1, 0), (1, 0), (1, 0), (1, 0), (1, 0), (0, a19), (0, a20), (0, s0)]) rfl ?_
            refine pv_unset (i := 19) (L1 := [(3000, 0), (9, 0), (0, a2), (0, a3), (1, 0), (0, a5), (0, a6), (1, 0), (1, 0), (0, a9), (1, 0), (1, 0), (1, 0), (1, 0), (1, 0), (1, 0), (1, 0), (1, 0), (1, 0), (1, 0), (0, a20), (0, s0)]) rfl ?_
            refine pv_unset (i := 20) (L1 := [(3000, 0), (9, 0), (0, a2), (0, a3), (1, 0), (0, a5), (0, a6), (1, 0), (1, 0), (0, a9), (1, 0), (1, 0), (1, 0), (1, 0), (1, 0), (1, 0), (1, 0), (1, 0), (1, 0), (1, 0), (1, 0), (0, s0)]) rfl ?_
            refine pv_unset (i := 21) (L1 := [(3000, 0), (9, 0), (0, a2), (0, a3), (1, 0), (0, a5), (0, a6), (1, 0), (1, 0), (0, a9), (1, 0), (1, 0), (1, 0), (1, 0), (1, 0), (1, 0), (1, 0), (1, 0), (1, 0), (1, 0), (1, 0), (1, 0)]) rfl ?_
            exact vjp_L_law_933 hl0 hsc (by intros; exact hK53 _ _ _ _ _ _ (by assumption)) _ _ _ _ _ _ h
          · replace h := h.2 c170
            refine pv_aload_n (n := 876) d_L_law_875 rfl rfl rfl ?_
            refine pv_iload (n := 878) d_L_law_876 rfl rfl ?_
            refine pv_iconst (v := 3) (n := 879) d_L_law_878 (by decide) rfl ?_
            refine pv_callV (n := 882) (x := 0) [(0, a18), (0, 3)] [] (con_X_caseAt hl0 h) pw_cf7 rfl q_521 q_522 q_523 q_62 q_520 pyo_X_caseAt (by decide) rfl rfl (by decide) d_L_law_879 rfl (fun w171 r172 h _ => ?_) (fun _ _ h => h.elim)
            show pw_V l g cx_L_law Q X 882 [(3000, 0), (9, 0), (0, a2), (0, a3), (0, a4), (0, a5), (0, a6), (1, 0), (1, 0), (0, a9), (1, 0), (1, 0), (1, 0), (1, 0), (1, 0), (1, 0), (1, 0), (1, 0), (0, a18), (0, a19), (0, a20), (0, s0)] [(0, r172)] w171
            refine pv_if_ne (n := 885) (tgt := 933) d_L_law_882 (by decide) rfl (fun c173 => ?_) (fun c173 => ?_)
            · replace h := h.1 c173
              refine pv_unset (i := 4) (L1 := [(3000, 0), (9, 0), (0, a2), (0, a3), (1, 0), (0, a5), (0, a6), (1, 0), (1, 0), (0, a9), (1, 0), (1, 0), (1, 0), (1, 0), (1, 0), (1, 0), (1, 0), (1, 0), (0, a18), (0, a19), (0, a20), (0, s0)]) rfl ?_
              refine pv_unset (i := 18) (L1 := [(3000, 0), (9, 0), (0, a2), (0, a3), (1, 0), (0, a5), (0, a6), (1, 0), (1, 0), (0, a9), (1, 0), (1, 0), (1, 0), (1, 0), (1, 0), (1, 0), (1, 0), (1, 0), (1, 0), (0, a19), (0, a20), (0, s0)]) rfl ?_
              refine pv_unset (i := 19) (L1 := [(3000, 0), (9, 0), (0, a2), (0, a3), (1, 0), (0, a5), (0, a6), (1, 0), (1, 0), (0, a9), (1, 0), (1, 0), (1, 0), (1, 0), (1, 0), (1, 0), (1, 0), (1, 0), (1, 0), (1, 0), (0, a20), (0, s0)]) rfl ?_
              refine pv_unset (i := 20) (L1 := [(3000, 0), (9, 0), (0, a2), (0, a3), (1, 0), (0, a5), (0, a6), (1, 0), (1, 0), (0, a9), (1, 0), (1, 0), (1, 0), (1, 0), (1, 0), (1, 0), (1, 0), (1, 0), (1, 0), (1, 0), (1, 0), (0, s0)]) rfl ?_
              refine pv_unset (i := 21) (L1 := [(3000, 0), (9, 0), (0, a2), (0, a3), (1, 0), (0, a5), (0, a6), (1, 0), (1, 0), (0, a9), (1, 0), (1, 0), (1, 0), (1, 0), (1, 0), (1, 0), (1, 0), (1, 0), (1, 0), (1, 0), (1, 0), (1, 0)]) rfl ?_
              exact vjp_L_law_933 hl0 hsc (by intros; exact hK53 _ _ _ _ _ _ (by assumption)) _ _ _ _ _ _ h
            · replace h := h.2 c173
              refine pv_goto (tgt := 929) d_L_law_885 (by decide) ?_
              refine pv_unset (i := 4) (L1 := [(3000, 0), (9, 0), (0, a2), (0, a3), (1, 0), (0, a5), (0, a6), (1, 0), (1, 0), (0, a9), (1, 0), (1, 0), (1, 0), (1, 0), (1, 0), (1, 0), (1, 0), (1, 0), (0, a18), (0, a19), (0, a20), (0, s0)]) rfl ?_
              refine pv_unset (i := 18) (L1 := [(3000, 0), (9, 0), (0, a2), (0, a3), (1, 0), (0, a5), (0, a6), (1, 0), (1, 0), (0, a9), (1, 0), (1, 0), (1, 0), (1, 0), (1, 0), (1, 0), (1, 0), (1, 0), (1, 0), (0, a19), (0, a20), (0, s0)]) rfl ?_
              refine pv_unset (i := 19) (L1 := [(3000, 0), (9, 0), (0, a2), (0, a3), (1, 0), (0, a5), (0, a6), (1, 0), (1, 0), (0, a9), (1, 0), (1, 0), (1, 0), (1, 0), (1, 0), (1, 0), (1, 0), (1, 0), (1, 0), (1, 0), (0, a20), (0, s0)]) rfl ?_
              refine pv_unset (i := 20) (L1 := [(3000, 0), (9, 0), (0, a2), (0, a3), (1, 0), (0, a5), (0, a6), (1, 0), (1, 0), (0, a9), (1, 0), (1, 0), (1, 0), (1, 0), (1, 0), (1, 0), (1, 0), (1, 0), (1, 0), (1, 0), (1, 0), (0, s0)]) rfl ?_
              refine pv_unset (i := 21) (L1 := [(3000, 0), (9, 0), (0, a2), (0, a3), (1, 0), (0, a5), (0, a6), (1, 0), (1, 0), (0, a9), (1, 0), (1, 0), (1, 0), (1, 0), (1, 0), (1, 0), (1, 0), (1, 0), (1, 0), (1, 0), (1, 0), (1, 0)]) rfl ?_
              exact vjp_L_law_929 hl0 hsc (by intros; exact hK53 _ _ _ _ _ _ (by assumption)) _ _ _ _ _ _ h
        · replace h := h.2 c169
          refine pv_aload_n (n := 842) d_L_law_841 rfl rfl rfl ?_
          refine pv_iload (n := 844) d_L_law_842 rfl rfl ?_
          refine pv_iconst (v := 3) (n := 845) d_L_law_844 (by decide) rfl ?_
          refine pv_callV (n := 848) (x := 0) [(0, a18), (0, 3)] [] (con_X_caseAt hl0 h) pw_cf7 rfl q_521 q_522 q_523 q_62 q_520 pyo_X_caseAt (by decide) rfl rfl (by decide) d_L_law_845 rfl (fun w174 r175 h _ => ?_) (fun _ _ h => h.elim)
          show pw_V l g cx_L_law Q X 848 [(3000, 0), (9, 0), (0, a2), (0, a3), (0, a4), (0, a5), (0, a6), (1, 0), (1, 0), (0, a9), (1, 0), (1, 0), (1, 0), (1, 0), (1, 0), (1, 0), (1, 0), (1, 0), (0, a18), (0, a19), (0, a20), (0, s0)] [(0, r175)] w174
          refine pv_iload (n := 850) d_L_law_848 rfl rfl ?_
          refine pv_icmp_lt (n := 853) (tgt := 933) d_L_law_850 (by decide) rfl (fun c176 => ?_) (fun c176 => ?_)
          · replace h := h.1 c176
            refine pv_unset (i := 4) (L1 := [(3000, 0), (9, 0), (0, a2), (0, a3), (1, 0), (0, a5), (0, a6), (1, 0), (1, 0), (0, a9), (1, 0), (1, 0), (1, 0), (1, 0), (1, 0), (1, 0), (1, 0), (1, 0), (0, a18), (0, a19), (0, a20), (0, s0)]) rfl ?_
            refine pv_unset (i := 18) (L1 := [(3000, 0), (9, 0), (0, a2), (0, a3), (1, 0), (0, a5), (0, a6), (1, 0), (1, 0), (0, a9), (1, 0), (1, 0), (1, 0), (1, 0), (1, 0), (1, 0), (1, 0), (1, 0), (1, 0), (0, a19), (0, a20), (0, s0)]) rfl ?_
            refine pv_unset (i := 19) (L1 := [(3000, 0), (9, 0), (0, a2), (0, a3), (1, 0), (0, a5), (0, a6), (1, 0), (1, 0), (0, a9), (1, 0), (1, 0), (1, 0), (1, 0), (1, 0), (1, 0), (1, 0), (1, 0), (1, 0), (1, 0), (0, a20), (0, s0)]) rfl ?_
            refine pv_unset (i := 20) (L1 := [(3000, 0), (9, 0), (0, a2), (0, a3), (1, 0), (0, a5), (0, a6), (1, 0), (1, 0), (0, a9), (1, 0), (1, 0), (1, 0), (1, 0), (1, 0), (1, 0), (1, 0), (1, 0), (1, 0), (1, 0), (1, 0), (0, s0)]) rfl ?_
            refine pv_unset (i := 21) (L1 := [(3000, 0), (9, 0), (0, a2), (0, a3), (1, 0), (0, a5), (0, a6), (1, 0), (1, 0), (0, a9), (1, 0), (1, 0), (1, 0), (1, 0), (1, 0), (1, 0), (1, 0), (1, 0), (1, 0), (1, 0), (1, 0), (1, 0)]) rfl ?_
            exact vjp_L_law_933 hl0 hsc (by intros; exact hK53 _ _ _ _ _ _ (by assumption)) _ _ _ _ _ _ h
          · replace h := h.2 c176
            refine pv_iload (n := 855) d_L_law_853 rfl rfl ?_
            refine pv_aload_n (n := 856) d_L_law_855 rfl rfl rfl ?_
            refine pv_iload (n := 858) d_L_law_856 rfl rfl ?_
            refine pv_iconst (v := 2) (n := 859) d_L_law_858 (by decide) rfl ?_
            refine pv_callV (n := 862) (x := 0) [(0, a18), (0, 2)] [(0, s0)] (con_X_caseAt hl0 h) pw_cf7 rfl q_521 q_522 q_523 q_62 q_520 pyo_X_caseAt (by decide) rfl rfl (by decide) d_L_law_859 rfl (fun w177 r178 h _ => ?_) (fun _ _ h => h.elim)
            show pw_V l g cx_L_law Q X 862 [(3000, 0), (9, 0), (0, a2), (0, a3), (0, a4), (0, a5), (0, a6), (1, 0), (1, 0), (0, a9), (1, 0), (1, 0), (1, 0), (1, 0), (1, 0), (1, 0), (1, 0), (1, 0), (0, a18), (0, a19), (0, a20), (0, s0)] [(0, r178), (0, s0)] w177
            refine pv_icmp_gt (n := 865) (tgt := 933) d_L_law_862 (by decide) rfl (fun c179 => ?_) (fun c179 => ?_)
            · replace h := h.1 c179
              refine pv_unset (i := 4) (L1 := [(3000, 0), (9, 0), (0, a2), (0, a3), (1, 0), (0, a5), (0, a6), (1, 0), (1, 0), (0, a9), (1, 0), (1, 0), (1, 0), (1, 0), (1, 0), (1, 0), (1, 0), (1, 0), (0, a18), (0, a19), (0, a20), (0, s0)]) rfl ?_
              refine pv_unset (i := 18) (L1 := [(3000, 0), (9, 0), (0, a2), (0, a3), (1, 0), (0, a5), (0, a6), (1, 0), (1, 0), (0, a9), (1, 0), (1, 0), (1, 0), (1, 0), (1, 0), (1, 0), (1, 0), (1, 0), (1, 0), (0, a19), (0, a20), (0, s0)]) rfl ?_
              refine pv_unset (i := 19) (L1 := [(3000, 0), (9, 0), (0, a2), (0, a3), (1, 0), (0, a5), (0, a6), (1, 0), (1, 0), (0, a9), (1, 0), (1, 0), (1, 0), (1, 0), (1, 0), (1, 0), (1, 0), (1, 0), (1, 0), (1, 0), (0, a20), (0, s0)]) rfl ?_
              refine pv_unset (i := 20) (L1 := [(3000, 0), (9, 0), (0, a2), (0, a3), (1, 0), (0, a5), (0, a6), (1, 0), (1, 0), (0, a9), (1, 0), (1, 0), (1, 0), (1, 0), (1, 0), (1, 0), (1, 0), (1, 0), (1, 0), (1, 0), (1, 0), (0, s0)]) rfl ?_
              refine pv_unset (i := 21) (L1 := [(3000, 0), (9, 0), (0, a2), (0, a3), (1, 0), (0, a5), (0, a6), (1, 0), (1, 0), (0, a9), (1, 0), (1, 0), (1, 0), (1, 0), (1, 0), (1, 0), (1, 0), (1, 0), (1, 0), (1, 0), (1, 0), (1, 0)]) rfl ?_
              exact vjp_L_law_933 hl0 hsc (by intros; exact hK53 _ _ _ _ _ _ (by assumption)) _ _ _ _ _ _ h
            · replace h := h.2 c179
              refine pv_goto (tgt := 929) d_L_law_865 (by decide) ?_
              refine pv_unset (i := 4) (L1 := [(3000, 0), (9, 0), (0, a2), (0, a3), (1, 0), (0, a5), (0, a6), (1, 0), (1, 0), (0, a9), (1, 0), (1, 0), (1, 0), (1, 0), (1, 0), (1, 0), (1, 0), (1, 0), (0, a18), (0, a19), (0, a20), (0, s0)]) rfl ?_
              refine pv_unset (i := 18) (L1 := [(3000, 0), (9, 0), (0, a2), (0, a3), (1, 0), (0, a5), (0, a6), (1, 0), (1, 0), (0, a9), (1, 0), (1, 0), (1, 0), (1, 0), (1, 0), (1, 0), (1, 0), (1, 0), (1, 0), (0, a19), (0, a20), (0, s0)]) rfl ?_
              refine pv_unset (i := 19) (L1 := [(3000, 0), (9, 0), (0, a2), (0, a3), (1, 0), (0, a5), (0, a6), (1, 0), (1, 0), (0, a9), (1, 0), (1, 0), (1, 0), (1, 0), (1, 0), (1, 0), (1, 0), (1, 0), (1, 0), (1, 0), (0, a20), (0, s0)]) rfl ?_
              refine pv_unset (i := 20) (L1 := [(3000, 0), (9, 0), (0, a2), (0, a3), (1, 0), (0, a5), (0, a6), (1, 0), (1, 0), (0, a9), (1, 0), (1, 0), (1, 0), (1, 0), (1, 0), (1, 0), (1, 0), (1, 0), (1, 0), (1, 0), (1, 0), (0, s0)]) rfl ?_
              refine pv_unset (i := 21) (L1 := [(3000, 0), (9, 0), (0, a2), (0, a3), (1, 0), (0, a5), (0, a6), (1, 0), (1, 0), (0, a9), (1, 0), (1, 0), (1, 0), (1, 0), (1, 0), (1, 0), (1, 0), (1, 0), (1, 0), (1, 0), (1, 0), (1, 0)]) rfl ?_
              exact vjp_L_law_929 hl0 hsc (by intros; exact hK53 _ _ _ _ _ _ (by assumption)) _ _ _ _ _ _ h
      · replace h := h.2 c166
        refine pv_aload_n (n := 818) d_L_law_817 rfl rfl rfl ?_
        refine pv_iload (n := 820) d_L_law_818 rfl rfl ?_
        refine pv_iconst (v := 0) (n := 821) d_L_law_820 (by decide) rfl ?_
        refine pv_callV (n := 824) (x := 0) [(0, a18), (0, 0)] [] (con_X_caseAt hl0 h) pw_cf7 rfl q_521 q_522 q_523 q_62 q_520 pyo_X_caseAt (by decide) rfl rfl (by decide) d_L_law_821 rfl (fun w180 r181 h _ => ?_) (fun _ _ h => h.elim)
        show pw_V l g cx_L_law Q X 824 [(3000, 0), (9, 0), (0, a2), (0, a3), (0, a4), (0, a5), (0, a6), (1, 0), (1, 0), (0, a9), (1, 0), (1, 0), (1, 0), (1, 0), (1, 0), (1, 0), (1, 0), (1, 0), (0, a18), (0, a19), (0, a20), (0, s0)] [(0, r181)] w180
        refine pv_if_ne (n := 827) (tgt := 933) d_L_law_824 (by decide) rfl (fun c182 => ?_) (fun c182 => ?_)
        · replace h := h.1 c182
          refine pv_unset (i := 4) (L1 := [(3000, 0), (9, 0), (0, a2), (0, a3), (1, 0), (0, a5), (0, a6), (1, 0), (1, 0), (0, a9), (1, 0), (1, 0), (1, 0), (1, 0), (1, 0), (1, 0), (1, 0), (1, 0), (0, a18), (0, a19), (0, a20), (0, s0)]) rfl ?_
          refine pv_unset (i := 18) (L1 := [(3000, 0), (9, 0), (0, a2), (0, a3), (1, 0), (0, a5), (0, a6), (1, 0), (1, 0), (0, a9), (1, 0), (1, 0), (1, 0), (1, 0), (1, 0), (1, 0), (1, 0), (1, 0), (1, 0), (0, a19), (0, a20), (0, s0)]) rfl ?_
          refine pv_unset (i := 19) (L1 := [(3000, 0), (9, 0), (0, a2), (0, a3), (1, 0), (0, a5), (0, a6), (1, 0), (1, 0), (0, a9), (1, 0), (1, 0), (1, 0), (1, 0), (1, 0), (1, 0), (1, 0), (1, 0), (1, 0), (1, 0), (0, a20), (0, s0)]) rfl ?_
          refine pv_unset (i := 20) (L1 := [(3000, 0), (9, 0), (0, a2), (0, a3), (1, 0), (0, a5), (0, a6), (1, 0), (1, 0), (0, a9), (1, 0), (1, 0), (1, 0), (1, 0), (1, 0), (1, 0), (1, 0), (1, 0), (1, 0), (1, 0), (1, 0), (0, s0)]) rfl ?_
          refine pv_unset (i := 21) (L1 := [(3000, 0), (9, 0), (0, a2), (0, a3), (1, 0), (0, a5), (0, a6), (1, 0), (1, 0), (0, a9), (1, 0), (1, 0), (1, 0), (1, 0), (1, 0), (1, 0), (1, 0), (1, 0), (1, 0), (1, 0), (1, 0), (1, 0)]) rfl ?_
          exact vjp_L_law_933 hl0 hsc (by intros; exact hK53 _ _ _ _ _ _ (by assumption)) _ _ _ _ _ _ h
        · replace h := h.2 c182
          refine pv_goto (tgt := 929) d_L_law_827 (by decide) ?_
          refine pv_unset (i := 4) (L1 := [(3000, 0), (9, 0), (0, a2), (0, a3), (1, 0), (0, a5), (0, a6), (1, 0), (1, 0), (0, a9), (1, 0), (1, 0), (1, 0), (1, 0), (1, 0), (1, 0), (1, 0), (1, 0), (0, a18), (0, a19), (0, a20), (0, s0)]) rfl ?_
          refine pv_unset (i := 18) (L1 := [(3000, 0), (9, 0), (0, a2), (0, a3), (1, 0), (0, a5), (0, a6), (1, 0), (1, 0), (0, a9), (1, 0), (1, 0), (1, 0), (1, 0), (1, 0), (1, 0), (1, 0), (1, 0), (1, 0), (0, a19), (0, a20), (0, s0)]) rfl ?_
          refine pv_unset (i := 19) (L1 := [(3000, 0), (9, 0), (0, a2), (0, a3), (1, 0), (0, a5), (0, a6), (1, 0), (1, 0), (0, a9), (1, 0), (1, 0), (1, 0), (1, 0), (1, 0), (1, 0), (1, 0), (1, 0), (1, 0), (1, 0), (0, a20), (0, s0)]) rfl ?_
          refine pv_unset (i := 20) (L1 := [(3000, 0), (9, 0), (0, a2), (0, a3), (1, 0), (0, a5), (0, a6), (1, 0), (1, 0), (0, a9), (1, 0), (1, 0), (1, 0), (1, 0), (1, 0), (1, 0), (1, 0), (1, 0), (1, 0), (1, 0), (1, 0), (0, s0)]) rfl ?_
          refine pv_unset (i := 21) (L1 := [(3000, 0), (9, 0), (0, a2), (0, a3), (1, 0), (0, a5), (0, a6), (1, 0), (1, 0), (0, a9), (1, 0), (1, 0), (1, 0), (1, 0), (1, 0), (1, 0), (1, 0), (1, 0), (1, 0), (1, 0), (1, 0), (1, 0)]) rfl ?_
          exact vjp_L_law_929 hl0 hsc (by intros; exact hK53 _ _ _ _ _ _ (by assumption)) _ _ _ _ _ _ h
set_option maxHeartbeats 4000000 in
set_option maxRecDepth 20000 in
def jp_L_law_766 (Ln : Nat) (xs : Nat → Int32) (Q : pw_W → Int32 → Prop) (X : pw_W → Nat → Prop) (K53 : Int32 → Int32 → Int32 → Int32 → Int32 → pw_W → Prop) (a2 a3 a5 a6 a9 a18 a19 a20 s0 : Int32) (w : pw_W) : Prop := (¬ a19 = 0 → wp_L_on w 7 a18 0 0 0 (fun w184 r185 => jp_L_law_798 Ln xs Q X K53 a2 a3 s0 a5 a6 a9 a18 a19 a20 r185 w184) (fun _ _ => False)) ∧ (a19 = 0 → wp_L_on w 6 a18 0 0 0 (fun w186 r187 => jp_L_law_798 Ln xs Q X K53 a2 a3 s0 a5 a6 a9 a18 a19 a20 r187 w186) (fun _ _ => False))
set_option maxHeartbeats 4000000 in
set_option maxRecDepth 20000 in
theorem vjp_L_law_766 {l : Launch} {g : pw_G} {Q : pw_W → Int32 → Prop} {X : pw_W → Nat → Prop} {Ln : Nat} {xs : Nat → Int32} (hl0 : l.stackTraces = false) (hsc : pw_sc g Ln xs) {K53 : Int32 → Int32 → Int32 → Int32 → Int32 → pw_W → Prop} (hK53 : ∀ (a2 a3 a4 a5 a6 : Int32) (w : pw_W), K53 a2 a3 a4 a5 a6 w → pw_V l g cx_L_law Q X 53 [(3000, 0), (9, 0), (0, a2), (0, a3), (0, a4), (0, a5), (0, a6), (1, 0), (1, 0), (1, 0), (1, 0), (1, 0), (1, 0), (1, 0), (1, 0), (1, 0), (1, 0), (1, 0), (1, 0), (1, 0), (1, 0), (1, 0)] [] w) (a2 a3 a5 a6 a9 a18 a19 a20 s0 : Int32) (w : pw_W) (h : jp_L_law_766 Ln xs Q X K53 a2 a3 a5 a6 a9 a18 a19 a20 s0 w) : pw_V l g cx_L_law Q X 766 [(3000, 0), (9, 0), (0, a2), (0, a3), (1, 0), (0, a5), (0, a6), (1, 0), (1, 0), (0, a9), (1, 0), (1, 0), (1, 0), (1, 0), (1, 0), (1, 0), (1, 0), (1, 0), (0, a18), (0, a19), (0, a20), (1, 0)] [(0, s0)] w := by
  unfold jp_L_law_766 at h
  refine pv_istore (n := 768) (L' := [(3000, 0), (9, 0), (0, a2), (0, a3), (0, s0), (0, a5), (0, a6), (1, 0), (1, 0), (0, a9), (1, 0), (1, 0), (1, 0), (1, 0), (1, 0), (1, 0), (1, 0), (1, 0), (0, a18), (0, a19), (0, a20), (1, 0)]) d_L_law_766 (by decide) rfl rfl ?_
  refine pv_iload (n := 770) d_L_law_768 rfl rfl ?_
  refine pv_if_ne (n := 773) (tgt := 787) d_L_law_770 (by decide) rfl (fun c183 => ?_) (fun c183 => ?_)
  · replace h := h.1 c183
    refine pv_aload_n (n := 788) d_L_law_787 rfl rfl rfl ?_
    refine pv_bipush (v := 7) (n := 790) d_L_law_788 (by decide) rfl ?_
    refine pv_iload (n := 792) d_L_law_790 rfl rfl ?_
    refine pv_iconst (v := 0) (n := 793) d_L_law_792 (by decide) rfl ?_
    refine pv_iconst (v := 0) (n := 794) d_L_law_793 (by decide) rfl ?_
    refine pv_iconst (v := 0) (n := 795) d_L_law_794 (by decide) rfl ?_
    refine pv_callSH (n := 798) [(9, 0), (0, 7), (0, a18), (0, 0), (0, 0), (0, 0)] [] (con_L_on hl0 h) q_541 q_542 q_483 q_540 pyo_L_on (by decide) rfl rfl d_L_law_795 rfl (fun w184 r185 h _ => ?_) (fun _ _ h => h.elim)
    show pw_V l g cx_L_law Q X 798 [(3000, 0), (9, 0), (0, a2), (0, a3), (0, s0), (0, a5), (0, a6), (1, 0), (1, 0), (0, a9), (1, 0), (1, 0), (1, 0), (1, 0), (1, 0), (1, 0), (1, 0), (1, 0), (0, a18), (0, a19), (0, a20), (1, 0)] [(0, r185)] w184
    exact vjp_L_law_798 hl0 hsc (by intros; exact hK53 _ _ _ _ _ _ (by assumption)) _ _ _ _ _ _ _ _ _ _ _ h
  · replace h := h.2 c183
    refine pv_aload_n (n := 774) d_L_law_773 rfl rfl rfl ?_
    refine pv_bipush (v := 6) (n := 776) d_L_law_774 (by decide) rfl ?_
    refine pv_iload (n := 778) d_L_law_776 rfl rfl ?_
    refine pv_iconst (v := 0) (n := 779) d_L_law_778 (by decide) rfl ?_
    refine pv_iconst (v := 0) (n := 780) d_L_law_779 (by decide) rfl ?_
    refine pv_iconst (v := 0) (n := 781) d_L_law_780 (by decide) rfl ?_
    refine pv_callSH (n := 784) [(9, 0), (0, 6), (0, a18), (0, 0), (0, 0), (0, 0)] [] (con_L_on hl0 h) q_541 q_542 q_483 q_540 pyo_L_on (by decide) rfl rfl d_L_law_781 rfl (fun w186 r187 h _ => ?_) (fun _ _ h => h.elim)
    show pw_V l g cx_L_law Q X 784 [(3000, 0), (9, 0), (0, a2), (0, a3), (0, s0), (0, a5), (0, a6), (1, 0), (1, 0), (0, a9), (1, 0), (1, 0), (1, 0), (1, 0), (1, 0), (1, 0), (1, 0), (1, 0), (0, a18), (0, a19), (0, a20), (1, 0)] [(0, r187)] w186
    refine pv_goto (tgt := 798) d_L_law_784 (by decide) ?_
    exact vjp_L_law_798 hl0 hsc (by intros; exact hK53 _ _ _ _ _ _ (by assumption)) _ _ _ _ _ _ _ _ _ _ _ h
set_option maxHeartbeats 4000000 in
set_option maxRecDepth 20000 in
def jp_L_law_758 (Ln : Nat) (xs : Nat → Int32) (Q : pw_W → Int32 → Prop) (X : pw_W → Nat → Prop) (K53 : Int32 → Int32 → Int32 → Int32 → Int32 → pw_W → Prop) (a2 a3 a5 a6 a9 a18 a19 a20 s0 s1 : Int32) (w : pw_W) : Prop := (¬ s1 = s0 → jp_L_law_766 Ln xs Q X K53 a2 a3 a5 a6 a9 a18 a19 a20 0 w) ∧ (s1 = s0 → jp_L_law_766 Ln xs Q X K53 a2 a3 a5 a6 a9 a18 a19 a20 1 w)
set_option maxHeartbeats 4000000 in
set_option maxRecDepth 20000 in
theorem vjp_L_law_758 {l : Launch} {g : pw_G} {Q : pw_W → Int32 → Prop} {X : pw_W → Nat → Prop} {Ln : Nat} {xs : Nat → Int32} (hl0 : l.stackTraces = false) (hsc : pw_sc g Ln xs) {K53 : Int32 → Int32 → Int32 → Int32 → Int32 → pw_W → Prop} (hK53 : ∀ (a2 a3 a4 a5 a6 : Int32) (w : pw_W), K53 a2 a3 a4 a5 a6 w → pw_V l g cx_L_law Q X 53 [(3000, 0), (9, 0), (0, a2), (0, a3), (0, a4), (0, a5), (0, a6), (1, 0), (1, 0), (1, 0), (1, 0), (1, 0), (1, 0), (1, 0), (1, 0), (1, 0), (1, 0), (1, 0), (1, 0), (1, 0), (1, 0), (1, 0)] [] w) (a2 a3 a5 a6 a9 a18 a19 a20 s0 s1 : Int32) (w : pw_W) (h : jp_L_law_758 Ln xs Q X K53 a2 a3 a5 a6 a9 a18 a19 a20 s0 s1 w) : pw_V l g cx_L_law Q X 758 [(3000, 0), (9, 0), (0, a2), (0, a3), (1, 0), (0, a5), (0, a6), (1, 0), (1, 0), (0, a9), (1, 0), (1, 0), (1, 0), (1, 0), (1, 0), (1, 0), (1, 0), (1, 0), (0, a18), (0, a19), (0, a20), (1, 0)] [(0, s0), (0, s1)] w := by
  unfold jp_L_law_758 at h
  refine pv_icmp_ne (n := 761) (tgt := 765) d_L_law_758 (by decide) rfl (fun c188 => ?_) (fun c188 => ?_)
  · replace h := h.1 c188
    refine pv_iconst (v := 0) (n := 766) d_L_law_765 (by decide) rfl ?_
    exact vjp_L_law_766 hl0 hsc (by intros; exact hK53 _ _ _ _ _ _ (by assumption)) _ _ _ _ _ _ _ _ _ _ h
  · replace h := h.2 c188
    refine pv_iconst (v := 1) (n := 762) d_L_law_761 (by decide) rfl ?_
    refine pv_goto (tgt := 766) d_L_law_762 (by decide) ?_
    exact vjp_L_law_766 hl0 hsc (by intros; exact hK53 _ _ _ _ _ _ (by assumption)) _ _ _ _ _ _ _ _ _ _ h
set_option maxHeartbeats 4000000 in
set_option maxRecDepth 20000 in
def jp_L_law_748 (Ln : Nat) (xs : Nat → Int32) (Q : pw_W → Int32 → Prop) (X : pw_W → Nat → Prop) (K53 : Int32 → Int32 → Int32 → Int32 → Int32 → pw_W → Prop) (a2 a3 a5 a6 a9 a18 a19 a20 s0 : Int32) (w : pw_W) : Prop := (a19 = 0 → jp_L_law_758 Ln xs Q X K53 a2 a3 a5 a6 a9 a18 a19 a20 0 s0 w) ∧ (¬ a19 = 0 → jp_L_law_758 Ln xs Q X K53 a2 a3 a5 a6 a9 a18 a19 a20 1 s0 w)
set_option maxHeartbeats 4000000 in
set_option maxRecDepth 20000 in
theorem vjp_L_law_748 {l : Launch} {g : pw_G} {Q : pw_W → Int32 → Prop} {X : pw_W → Nat → Prop} {Ln : Nat} {xs : Nat → Int32} (hl0 : l.stackTraces = false) (hsc : pw_sc g Ln xs) {K53 : Int32 → Int32 → Int32 → Int32 → Int32 → pw_W → Prop} (hK53 : ∀ (a2 a3 a4 a5 a6 : Int32) (w : pw_W), K53 a2 a3 a4 a5 a6 w → pw_V l g cx_L_law Q X 53 [(3000, 0), (9, 0), (0, a2), (0, a3), (0, a4), (0, a5), (0, a6), (1, 0), (1, 0), (1, 0), (1, 0), (1, 0), (1, 0), (1, 0), (1, 0), (1, 0), (1, 0), (1, 0), (1, 0), (1, 0), (1, 0), (1, 0)] [] w) (a2 a3 a5 a6 a9 a18 a19 a20 s0 : Int32) (w : pw_W) (h : jp_L_law_748 Ln xs Q X K53 a2 a3 a5 a6 a9 a18 a19 a20 s0 w) : pw_V l g cx_L_law Q X 748 [(3000, 0), (9, 0), (0, a2), (0, a3), (1, 0), (0, a5), (0, a6), (1, 0), (1, 0), (0, a9), (1, 0), (1, 0), (1, 0), (1, 0), (1, 0), (1, 0), (1, 0), (1, 0), (0, a18), (0, a19), (0, a20), (1, 0)] [(0, s0)] w := by
  unfold jp_L_law_748 at h
  refine pv_iload (n := 750) d_L_law_748 rfl rfl ?_
  refine pv_if_eq (n := 753) (tgt := 757) d_L_law_750 (by decide) rfl (fun c189 => ?_) (fun c189 => ?_)
  · replace h := h.1 c189
    refine pv_iconst (v := 0) (n := 758) d_L_law_757 (by decide) rfl ?_
    exact vjp_L_law_758 hl0 hsc (by intros; exact hK53 _ _ _ _ _ _ (by assumption)) _ _ _ _ _ _ _ _ _ _ _ h
  · replace h := h.2 c189
    refine pv_iconst (v := 1) (n := 754) d_L_law_753 (by decide) rfl ?_
    refine pv_goto (tgt := 758) d_L_law_754 (by decide) ?_
    exact vjp_L_law_758 hl0 hsc (by intros; exact hK53 _ _ _ _ _ _ (by assumption)) _ _ _ _ _ _ _ _ _ _ _ h
set_option maxHeartbeats 4000000 in
set_option maxRecDepth 20000 in
def jp_L_law_667 (Ln : Nat) (xs : Nat → Int32) (Q : pw_W → Int32 → Prop) (X : pw_W → Nat → Prop) (K53 : Int32 → Int32 → Int32 → Int32 → Int32 → pw_W → Prop) (a2 a4 a5 a6 a9 s0 s1 : Int32) (w : pw_W) : Prop := ∀ v190, v190 = (s1 + s0) → ∃ k192, lp_L_law_1781 Ln xs Q X K53 k192 a2 v190 a4 a5 a6 a9 w
set_option maxHeartbeats 4000000 in
set_option maxRecDepth 20000 in
theorem vjp_L_law_667 {l : Launch} {g : pw_G} {Q : pw_W → Int32 → Prop} {X : pw_W → Nat → Prop} {Ln : Nat} {xs : Nat → Int32} (hl0 : l.stackTraces = false) (hsc : pw_sc g Ln xs) {K53 : Int32 → Int32 → Int32 → Int32 → Int32 → pw_W → Prop} (hK53 : ∀ (a2 a3 a4 a5 a6 : Int32) (w : pw_W), K53 a2 a3 a4 a5 a6 w → pw_V l g cx_L_law Q X 53 [(3000, 0), (9, 0), (0, a2), (0, a3), (0, a4), (0, a5), (0, a6), (1, 0), (1, 0), (1, 0), (1, 0), (1, 0), (1, 0), (1, 0), (1, 0), (1, 0), (1, 0), (1, 0), (1, 0), (1, 0), (1, 0), (1, 0)] [] w) (a2 a4 a5 a6 a9 s0 s1 : Int32) (w : pw_W) (h : jp_L_law_667 Ln xs Q X K53 a2 a4 a5 a6 a9 s0 s1 w) : pw_V l g cx_L_law Q X 667 [(3000, 0), (9, 0), (0, a2), (1, 0), (0, a4), (0, a5), (0, a6), (1, 0), (1, 0), (0, a9), (1, 0), (1, 0), (1, 0), (1, 0), (1, 0), (1, 0), (1, 0), (1, 0), (1, 0), (1, 0), (1, 0), (1, 0)] [(0, s0), (0, s1)] w := by
  unfold jp_L_law_667 at h
  refine pv_iadd (n := 668) d_L_law_667 rfl ?_
  refine pv_nm (fun v190 e191 => ?_)
  replace h := h v190 e191
  refine pv_istore_n (n := 669) (L' := [(3000, 0), (9, 0), (0, a2), (0, v190), (0, a4), (0, a5), (0, a6), (1, 0), (1, 0), (0, a9), (1, 0), (1, 0), (1, 0), (1, 0), (1, 0), (1, 0), (1, 0), (1, 0), (1, 0), (1, 0), (1, 0), (1, 0)]) d_L_law_668 rfl (by decide) rfl rfl ?_
  refine pv_goto (tgt := 1781) d_L_law_669 (by decide) ?_
  obtain ⟨k192, h⟩ := h
  exact vlp_L_law_1781 hl0 hsc (by intros; exact hK53 _ _ _ _ _ _ (by assumption)) _ _ _ _ _ _ _ _ h
set_option maxHeartbeats 4000000 in
set_option maxRecDepth 20000 in
def jp_L_law_654 (Ln : Nat) (xs : Nat → Int32) (Q : pw_W → Int32 → Prop) (X : pw_W → Nat → Prop) (K53 : Int32 → Int32 → Int32 → Int32 → Int32 → pw_W → Prop) (a2 a3 a5 a6 a9 a17 s0 : Int32) (w : pw_W) : Prop := (a17 < 0 → jp_L_law_667 Ln xs Q X K53 a2 s0 a5 a6 a9 0 a3 w) ∧ (¬ a17 < 0 → jp_L_law_667 Ln xs Q X K53 a2 s0 a5 a6 a9 1 a3 w)
set_option maxHeartbeats 4000000 in
set_option maxRecDepth 20000 in
theorem vjp_L_law_654 {l : Launch} {g : pw_G} {Q : pw_W → Int32 → Prop} {X : pw_W → Nat → Prop} {Ln : Nat} {xs : Nat → Int32} (hl0 : l.stackTraces = false) (hsc : pw_sc g Ln xs) {K53 : Int32 → Int32 → Int32 → Int32 → Int32 → pw_W → Prop} (hK53 : ∀ (a2 a3 a4 a5 a6 : Int32) (w : pw_W), K53 a2 a3 a4 a5 a6 w → pw_V l g cx_L_law Q X 53 [(3000, 0), (9, 0), (0, a2), (0, a3), (0, a4), (0, a5), (0, a6), (1, 0), (1, 0), (1, 0), (1, 0), (1, 0), (1, 0), (1, 0), (1, 0), (1, 0), (1, 0), (1, 0), (1, 0), (1, 0), (1, 0), (1, 0)] [] w) (a2 a3 a5 a6 a9 a17 s0 : Int32) (w : pw_W) (h : jp_L_law_654 Ln xs Q X K53 a2 a3 a5 a6 a9 a17 s0 w) : pw_V l g cx_L_law Q X 654 [(3000, 0), (9, 0), (0, a2), (0, a3), (1, 0), (0, a5), (0, a6), (1, 0), (1, 0), (0, a9), (1, 0), (1, 0), (1, 0), (1, 0), (1, 0), (1, 0), (1, 0), (0, a17), (1, 0), (1, 0), (1, 0), (1, 0)] [(0, s0)] w := by
  unfold jp_L_law_654 at h
  refine pv_istore (n := 656) (L' := [(3000, 0), (9, 0), (0, a2), (0, a3), (0, s0), (0, a5), (0, a6), (1, 0), (1, 0), (0, a9), (1, 0), (1, 0), (1, 0), (1, 0), (1, 0), (1, 0), (1, 0), (0, a17), (1, 0), (1, 0), (1, 0), (1, 0)]) d_L_law_654 (by decide) rfl rfl ?_
  refine pv_iload_n (n := 657) d_L_law_656 rfl rfl rfl ?_
  refine pv_iload (n := 659) d_L_law_657 rfl rfl ?_
  refine pv_if_lt (n := 662) (tgt := 666) d_L_law_659 (by decide) rfl (fun c193 => ?_) (fun c193 => ?_)
  · replace h := h.1 c193
    refine pv_iconst (v := 0) (n := 667) d_L_law_666 (by decide) rfl ?_
    refine pv_unset (i := 3) (L1 := [(3000, 0), (9, 0), (0, a2), (1, 0), (0, s0), (0, a5), (0, a6), (1, 0), (1, 0), (0, a9), (1, 0), (1, 0), (1, 0), (1, 0), (1, 0), (1, 0), (1, 0), (0, a17), (1, 0), (1, 0), (1, 0), (1, 0)]) rfl ?_
    refine pv_unset (i := 17) (L1 := [(3000, 0), (9, 0), (0, a2), (1, 0), (0, s0), (0, a5), (0, a6), (1, 0), (1, 0), (0, a9), (1, 0), (1, 0), (1, 0), (1, 0), (1, 0), (1, 0), (1, 0), (1, 0), (1, 0), (1, 0), (1, 0), (1, 0)]) rfl ?_
    exact vjp_L_law_667 hl0 hsc (by intros; exact hK53 _ _ _ _ _ _ (by assumption)) _ _ _ _ _ _ _ _ h
  · replace h := h.2 c193
    refine pv_iconst (v := 1) (n := 663) d_L_law_662 (by decide) rfl ?_
    refine pv_goto (tgt := 667) d_L_law_663 (by decide) ?_
    refine pv_unset (i := 3) (L1 := [(3000, 0), (9, 0), (0, a2), (1, 0), (0, s0), (0, a5), (0, a6), (1, 0), (1, 0), (0, a9), (1, 0), (1, 0), (1, 0), (1, 0), (1, 0), (1, 0), (1, 0), (0, a17), (1, 0), (1, 0), (1, 0), (1, 0)]) rfl ?_
    refine pv_unset (i := 17) (L1 := [(3000, 0), (9, 0), (0, a2), (1, 0), (0, s0), (0, a5), (0, a6), (1, 0), (1, 0), (0, a9), (1, 0), (1, 0), (1, 0), (1, 0), (1, 0), (1, 0), (1, 0), (1, 0), (1, 0), (1, 0), (1, 0), (1, 0)]) rfl ?_
    exact vjp_L_law_667 hl0 hsc (by intros; exact hK53 _ _ _ _ _ _ (by assumption)) _ _ _ _ _ _ _ _ h
set_option maxHeartbeats 4000000 in
set_option maxRecDepth 20000 in
def jp_L_law_653 (Ln : Nat) (xs : Nat → Int32) (Q : pw_W → Int32 → Prop) (X : pw_W → Nat → Prop) (K53 : Int32 → Int32 → Int32 → Int32 → Int32 → pw_W → Prop) (a2 a3 a5 a6 a9 a17 : Int32) (w : pw_W) : Prop := jp_L_law_654 Ln xs Q X K53 a2 a3 a5 a6 a9 a17 0 w
set_option maxHeartbeats 4000000 in
set_option maxRecDepth 20000 in
theorem vjp_L_law_653 {l : Launch} {g : pw_G} {Q : pw_W → Int32 → Prop} {X : pw_W → Nat → Prop} {Ln : Nat} {xs : Nat → Int32} (hl0 : l.stackTraces = false) (hsc : pw_sc g Ln xs) {K53 : Int32 → Int32 → Int32 → Int32 → Int32 → pw_W → Prop} (hK53 : ∀ (a2 a3 a4 a5 a6 : Int32) (w : pw_W), K53 a2 a3 a4 a5 a6 w → pw_V l g cx_L_law Q X 53 [(3000, 0), (9, 0), (0, a2), (0, a3), (0, a4), (0, a5), (0, a6), (1, 0), (1, 0), (1, 0), (1, 0), (1, 0), (1, 0), (1, 0), (1, 0), (1, 0), (1, 0), (1, 0), (1, 0), (1, 0), (1, 0), (1, 0)] [] w) (a2 a3 a5 a6 a9 a17 : Int32) (w : pw_W) (h : jp_L_law_653 Ln xs Q X K53 a2 a3 a5 a6 a9 a17 w) : pw_V l g cx_L_law Q X 653 [(3000, 0), (9, 0), (0, a2), (0, a3), (1, 0), (0, a5), (0, a6), (1, 0), (1, 0), (0, a9), (1, 0), (1, 0), (1, 0), (1, 0), (1, 0), (1, 0), (1, 0), (0, a17), (1, 0), (1, 0), (1, 0), (1, 0)] [] w := by
  unfold jp_L_law_653 at h
  refine pv_iconst (v := 0) (n := 654) d_L_law_653 (by decide) rfl ?_
  exact vjp_L_law_654 hl0 hsc (by intros; exact hK53 _ _ _ _ _ _ (by assumption)) _ _ _ _ _ _ _ _ h
set_option maxHeartbeats 4000000 in
set_option maxRecDepth 20000 in
def jp_L_law_649 (Ln : Nat) (xs : Nat → Int32) (Q : pw_W → Int32 → Prop) (X : pw_W → Nat → Prop) (K53 : Int32 → Int32 → Int32 → Int32 → Int32 → pw_W → Prop) (a2 a3 a5 a6 a9 a17 : Int32) (w : pw_W) : Prop := jp_L_law_654 Ln xs Q X K53 a2 a3 a5 a6 a9 a17 1 w
set_option maxHeartbeats 4000000 in
set_option maxRecDepth 20000 in
theorem vjp_L_law_649 {l : Launch} {g : pw_G} {Q : pw_W → Int32 → Prop} {X : pw_W → Nat → Prop} {Ln : Nat} {xs : Nat → Int32} (hl0 : l.stackTraces = false) (hsc : pw_sc g Ln xs) {K53 : Int32 → Int32 → Int32 → Int32 → Int32 → pw_W → Prop} (hK53 : ∀ (a2 a3 a4 a5 a6 : Int32) (w : pw_W), K53 a2 a3 a4 a5 a6 w → pw_V l g cx_L_law Q X 53 [(3000, 0), (9, 0), (0, a2), (0, a3), (0, a4), (0, a5), (0, a6), (1, 0), (1, 0), (1, 0), (1, 0), (1, 0), (1, 0), (1, 0), (1, 0), (1, 0), (1, 0), (1, 0), (1, 0), (1, 0), (1, 0), (1, 0)] [] w) (a2 a3 a5 a6 a9 a17 : Int32) (w : pw_W) (h : jp_L_law_649 Ln xs Q X K53 a2 a3 a5 a6 a9 a17 w) : pw_V l g cx_L_law Q X 649 [(3000, 0), (9, 0), (0, a2), (0, a3), (1, 0), (0, a5), (0, a6), (1, 0), (1, 0), (0, a9), (1, 0), (1, 0), (1, 0), (1, 0), (1, 0), (1, 0), (1, 0), (0, a17), (1, 0), (1, 0), (1, 0), (1, 0)] [] w := by
  unfold jp_L_law_649 at h
  refine pv_iconst (v := 1) (n := 650) d_L_law_649 (by decide) rfl ?_
  refine pv_goto (tgt := 654) d_L_law_650 (by decide) ?_
  exact vjp_L_law_654 hl0 hsc (by intros; exact hK53 _ _ _ _ _ _ (by assumption)) _ _ _ _ _ _ _ _ h
set_option maxHeartbeats 4000000 in
set_option maxRecDepth 20000 in
def jp_L_law_589 (Ln : Nat) (xs : Nat → Int32) (Q : pw_W → Int32 → Prop) (X : pw_W → Nat → Prop) (K53 : Int32 → Int32 → Int32 → Int32 → Int32 → pw_W → Prop) (a2 a3 a5 a6 a9 s0 : Int32) (w : pw_W) : Prop := ∃ k194, lp_L_law_1781 Ln xs Q X K53 k194 a2 a3 s0 a5 a6 a9 w
set_option maxHeartbeats 4000000 in
set_option maxRecDepth 20000 in
theorem vjp_L_law_589 {l : Launch} {g : pw_G} {Q : pw_W → Int32 → Prop} {X : pw_W → Nat → Prop} {Ln : Nat} {xs : Nat → Int32} (hl0 : l.stackTraces = false) (hsc : pw_sc g Ln xs) {K53 : Int32 → Int32 → Int32 → Int32 → Int32 → pw_W → Prop} (hK53 : ∀ (a2 a3 a4 a5 a6 : Int32) (w : pw_W), K53 a2 a3 a4 a5 a6 w → pw_V l g cx_L_law Q X 53 [(3000, 0), (9, 0), (0, a2), (0, a3), (0, a4), (0, a5), (0, a6), (1, 0), (1, 0), (1, 0), (1, 0), (1, 0), (1, 0), (1, 0), (1, 0), (1, 0), (1, 0), (1, 0), (1, 0), (1, 0), (1, 0), (1, 0)] [] w) (a2 a3 a5 a6 a9 s0 : Int32) (w : pw_W) (h : jp_L_law_589 Ln xs Q X K53 a2 a3 a5 a6 a9 s0 w) : pw_V l g cx_L_law Q X 589 [(3000, 0), (9, 0), (0, a2), (0, a3), (1, 0), (0, a5), (0, a6), (1, 0), (1, 0), (0, a9), (1, 0), (1, 0), (1, 0), (1, 0), (1, 0), (1, 0), (1, 0), (1, 0), (1, 0), (1, 0), (1, 0), (1, 0)] [(0, s0)] w := by
  unfold jp_L_law_589 at h
  refine pv_istore (n := 591) (L' := [(3000, 0), (9, 0), (0, a2), (0, a3), (0, s0), (0, a5), (0, a6), (1, 0), (1, 0), (0, a9), (1, 0), (1, 0), (1, 0), (1, 0), (1, 0), (1, 0), (1, 0), (1, 0), (1, 0), (1, 0), (1, 0), (1, 0)]) d_L_law_589 (by decide) rfl rfl ?_
  refine pv_goto (tgt := 1781) d_L_law_591 (by decide) ?_
  obtain ⟨k194, h⟩ := h
  exact vlp_L_law_1781 hl0 hsc (by intros; exact hK53 _ _ _ _ _ _ (by assumption)) _ _ _ _ _ _ _ _ h
set_option maxHeartbeats 4000000 in
set_option maxRecDepth 20000 in
def jp_L_law_588 (Ln : Nat) (xs : Nat → Int32) (Q : pw_W → Int32 → Prop) (X : pw_W → Nat → Prop) (K53 : Int32 → Int32 → Int32 → Int32 → Int32 → pw_W → Prop) (a2 a3 a5 a6 a9 : Int32) (w : pw_W) : Prop := jp_L_law_589 Ln xs Q X K53 a2 a3 a5 a6 a9 0 w
set_option maxHeartbeats 4000000 in
set_option maxRecDepth 20000 in
theorem vjp_L_law_588 {l : Launch} {g : pw_G} {Q : pw_W → Int32 → Prop} {X : pw_W → Nat → Prop} {Ln : Nat} {xs : Nat → Int32} (hl0 : l.stackTraces = false) (hsc : pw_sc g Ln xs) {K53 : Int32 → Int32 → Int32 → Int32 → Int32 → pw_W → Prop} (hK53 : ∀ (a2 a3 a4 a5 a6 : Int32) (w : pw_W), K53 a2 a3 a4 a5 a6 w → pw_V l g cx_L_law Q X 53 [(3000, 0), (9, 0), (0, a2), (0, a3), (0, a4), (0, a5), (0, a6), (1, 0), (1, 0), (1, 0), (1, 0), (1, 0), (1, 0), (1, 0), (1, 0), (1, 0), (1, 0), (1, 0), (1, 0), (1, 0), (1, 0), (1, 0)] [] w) (a2 a3 a5 a6 a9 : Int32) (w : pw_W) (h : jp_L_law_588 Ln xs Q X K53 a2 a3 a5 a6 a9 w) : pw_V l g cx_L_law Q X 588 [(3000, 0), (9, 0), (0, a2), (0, a3), (1, 0), (0, a5), (0, a6), (1, 0), (1, 0), (0, a9), (1, 0), (1, 0), (1, 0), (1, 0), (1, 0), (1, 0), (1, 0), (1, 0), (1, 0), (1, 0), (1, 0), (1, 0)] [] w := by
  unfold jp_L_law_588 at h
  refine pv_iconst (v := 0) (n := 589) d_L_law_588 (by decide) rfl ?_
  exact vjp_L_law_589 hl0 hsc (by intros; exact hK53 _ _ _ _ _ _ (by assumption)) _ _ _ _ _ _ _ h
set_option maxHeartbeats 4000000 in
set_option maxRecDepth 20000 in
def jp_L_law_584 (Ln : Nat) (xs : Nat → Int32) (Q : pw_W → Int32 → Prop) (X : pw_W → Nat → Prop) (K53 : Int32 → Int32 → Int32 → Int32 → Int32 → pw_W → Prop) (a2 a3 a5 a6 a9 : Int32) (w : pw_W) : Prop := jp_L_law_589 Ln xs Q X K53 a2 a3 a5 a6 a9 1 w
set_option maxHeartbeats 4000000 in
set_option maxRecDepth 20000 in
theorem vjp_L_law_584 {l : Launch} {g : pw_G} {Q : pw_W → Int32 → Prop} {X : pw_W → Nat → Prop} {Ln : Nat} {xs : Nat → Int32} (hl0 : l.stackTraces = false) (hsc : pw_sc g Ln xs) {K53 : Int32 → Int32 → Int32 → Int32 → Int32 → pw_W → Prop} (hK53 : ∀ (a2 a3 a4 a5 a6 : Int32) (w : pw_W), K53 a2 a3 a4 a5 a6 w → pw_V l g cx_L_law Q X 53 [(3000, 0), (9, 0), (0, a2), (0, a3), (0, a4), (0, a5), (0, a6), (1, 0), (1, 0), (1, 0), (1, 0), (1, 0), (1, 0), (1, 0), (1, 0), (1, 0), (1, 0), (1, 0), (1, 0), (1, 0), (1, 0), (1, 0)] [] w) (a2 a3 a5 a6 a9 : Int32) (w : pw_W) (h : jp_L_law_584 Ln xs Q X K53 a2 a3 a5 a6 a9 w) : pw_V l g cx_L_law Q X 584 [(3000, 0), (9, 0), (0, a2), (0, a3), (1, 0), (0, a5), (0, a6), (1, 0), (1, 0), (0, a9), (1, 0), (1, 0), (1, 0), (1, 0), (1, 0), (1, 0), (1, 0), (1, 0), (1, 0), (1, 0), (1, 0), (1, 0)] [] w := by
  unfold jp_L_law_584 at h
  refine pv_iconst (v := 1) (n := 585) d_L_law_584 (by decide) rfl ?_
  refine pv_goto (tgt := 589) d_L_law_585 (by decide) ?_
  exact vjp_L_law_589 hl0 hsc (by intros; exact hK53 _ _ _ _ _ _ (by assumption)) _ _ _ _ _ _ _ h
set_option maxHeartbeats 4000000 in
set_option maxRecDepth 20000 in
def jp_L_law_516 (Ln : Nat) (xs : Nat → Int32) (Q : pw_W → Int32 → Prop) (X : pw_W → Nat → Prop) (K53 : Int32 → Int32 → Int32 → Int32 → Int32 → pw_W → Prop) (a2 a3 a5 a6 a9 s0 : Int32) (w : pw_W) : Prop := ∃ k195, lp_L_law_1781 Ln xs Q X K53 k195 a2 a3 s0 a5 a6 a9 w
set_option maxHeartbeats 4000000 in
set_option maxRecDepth 20000 in
theorem vjp_L_law_516 {l : Launch} {g : pw_G} {Q : pw_W → Int32 → Prop} {X : pw_W → Nat → Prop} {Ln : Nat} {xs : Nat → Int32} (hl0 : l.stackTraces = false) (hsc : pw_sc g Ln xs) {K53 : Int32 → Int32 → Int32 → Int32 → Int32 → pw_W → Prop} (hK53 : ∀ (a2 a3 a4 a5 a6 : Int32) (w : pw_W), K53 a2 a3 a4 a5 a6 w → pw_V l g cx_L_law Q X 53 [(3000, 0), (9, 0), (0, a2), (0, a3), (0, a4), (0, a5), (0, a6), (1, 0), (1, 0), (1, 0), (1, 0), (1, 0), (1, 0), (1, 0), (1, 0), (1, 0), (1, 0), (1, 0), (1, 0), (1, 0), (1, 0), (1, 0)] [] w) (a2 a3 a5 a6 a9 s0 : Int32) (w : pw_W) (h : jp_L_law_516 Ln xs Q X K53 a2 a3 a5 a6 a9 s0 w) : pw_V l g cx_L_law Q X 516 [(3000, 0), (9, 0), (0, a2), (0, a3), (1, 0), (0, a5), (0, a6), (1, 0), (1, 0), (0, a9), (1, 0), (1, 0), (1, 0), (1, 0), (1, 0), (1, 0), (1, 0), (1, 0), (1, 0), (1, 0), (1, 0), (1, 0)] [(0, s0)] w := by
  unfold jp_L_law_516 at h
  refine pv_istore (n := 518) (L' := [(3000, 0), (9, 0), (0, a2), (0, a3), (0, s0), (0, a5), (0, a6), (1, 0), (1, 0), (0, a9), (1, 0), (1, 0), (1, 0), (1, 0), (1, 0), (1, 0), (1, 0), (1, 0), (1, 0), (1, 0), (1, 0), (1, 0)]) d_L_law_516 (by decide) rfl rfl ?_
  refine pv_goto (tgt := 1781) d_L_law_518 (by decide) ?_
  obtain ⟨k195, h⟩ := h
  exact vlp_L_law_1781 hl0 hsc (by intros; exact hK53 _ _ _ _ _ _ (by assumption)) _ _ _ _ _ _ _ _ h
set_option maxHeartbeats 4000000 in
set_option maxRecDepth 20000 in
def jp_L_law_515 (Ln : Nat) (xs : Nat → Int32) (Q : pw_W → Int32 → Prop) (X : pw_W → Nat → Prop) (K53 : Int32 → Int32 → Int32 → Int32 → Int32 → pw_W → Prop) (a2 a3 a5 a6 a9 : Int32) (w : pw_W) : Prop := jp_L_law_516 Ln xs Q X K53 a2 a3 a5 a6 a9 0 w
set_option maxHeartbeats 4000000 in
set_option maxRecDepth 20000 in
theorem vjp_L_law_515 {l : Launch} {g : pw_G} {Q : pw_W → Int32 → Prop} {X : pw_W → Nat → Prop} {Ln : Nat} {xs : Nat → Int32} (hl0 : l.stackTraces = false) (hsc : pw_sc g Ln xs) {K53 : Int32 → Int32 → Int32 → Int32 → Int32 → pw_W → Prop} (hK53 : ∀ (a2 a3 a4 a5 a6 : Int32) (w : pw_W), K53 a2 a3 a4 a5 a6 w → pw_V l g cx_L_law Q X 53 [(3000, 0), (9, 0), (0, a2), (0, a3), (0, a4), (0, a5), (0, a6), (1, 0), (1, 0), (1, 0), (1, 0), (1, 0), (1, 0), (1, 0), (1, 0), (1, 0), (1, 0), (1, 0), (1, 0), (1, 0), (1, 0), (1, 0)] [] w) (a2 a3 a5 a6 a9 : Int32) (w : pw_W) (h : jp_L_law_515 Ln xs Q X K53 a2 a3 a5 a6 a9 w) : pw_V l g cx_L_law Q X 515 [(3000, 0), (9, 0), (0, a2), (0, a3), (1, 0), (0, a5), (0, a6), (1, 0), (1, 0), (0, a9), (1, 0), (1, 0), (1, 0), (1, 0), (1, 0), (1, 0), (1, 0), (1, 0), (1, 0), (1, 0), (1, 0), (1, 0)] [] w := by
  unfold jp_L_law_515 at h
  refine pv_iconst (v := 0) (n := 516) d_L_law_515 (by decide) rfl ?_
  exact vjp_L_law_516 hl0 hsc (by intros; exact hK53 _ _ _ _ _ _ (by assumption)) _ _ _ _ _ _ _ h
set_option maxHeartbeats 4000000 in
set_option maxRecDepth 20000 in
def jp_L_law_420 (Ln : Nat) (xs : Nat → Int32) (Q : pw_W → Int32 → Prop) (X : pw_W → Nat → Prop) (K53 : Int32 → Int32 → Int32 → Int32 → Int32 → pw_W → Prop) (a2 a3 a5 a6 a9 s0 : Int32) (w : pw_W) : Prop := ∃ k196, lp_L_law_1781 Ln xs Q X K53 k196 a2 a3 s0 a5 a6 a9 w
set_option maxHeartbeats 4000000 in
set_option maxRecDepth 20000 in
theorem vjp_L_law_420 {l : Launch} {g : pw_G} {Q : pw_W → Int32 → Prop} {X : pw_W → Nat → Prop} {Ln : Nat} {xs : Nat → Int32} (hl0 : l.stackTraces = false) (hsc : pw_sc g Ln xs) {K53 : Int32 → Int32 → Int32 → Int32 → Int32 → pw_W → Prop} (hK53 : ∀ (a2 a3 a4 a5 a6 : Int32) (w : pw_W), K53 a2 a3 a4 a5 a6 w → pw_V l g cx_L_law Q X 53 [(3000, 0), (9, 0), (0, a2), (0, a3), (0, a4), (0, a5), (0, a6), (1, 0), (1, 0), (1, 0), (1, 0), (1, 0), (1, 0), (1, 0), (1, 0), (1, 0), (1, 0), (1, 0), (1, 0), (1, 0), (1, 0), (1, 0)] [] w) (a2 a3 a5 a6 a9 s0 : Int32) (w : pw_W) (h : jp_L_law_420 Ln xs Q X K53 a2 a3 a5 a6 a9 s0 w) : pw_V l g cx_L_law Q X 420 [(3000, 0), (9, 0), (0, a2), (0, a3), (1, 0), (0, a5), (0, a6), (1, 0), (1, 0), (0, a9), (1, 0), (1, 0), (1, 0), (1, 0), (1, 0), (1, 0), (1, 0), (1, 0), (1, 0), (1, 0), (1, 0), (1, 0)] [(0, s0)] w := by
  unfold jp_L_law_420 at h
  refine pv_istore (n := 422) (L' := [(3000, 0), (9, 0), (0, a2), (0, a3), (0, s0), (0, a5), (0, a6), (1, 0), (1, 0), (0, a9), (1, 0), (1, 0), (1, 0), (1, 0), (1, 0), (1, 0), (1, 0), (1, 0), (1, 0), (1, 0), (1, 0), (1, 0)]) d_L_law_420 (by decide) rfl rfl ?_
  refine pv_goto (tgt := 1781) d_L_law_422 (by decide) ?_
  obtain ⟨k196, h⟩ := h
  exact vlp_L_law_1781 hl0 hsc (by intros; exact hK53 _ _ _ _ _ _ (by assumption)) _ _ _ _ _ _ _ _ h
set_option maxHeartbeats 4000000 in
set_option maxRecDepth 20000 in
def jp_L_law_419 (Ln : Nat) (xs : Nat → Int32) (Q : pw_W → Int32 → Prop) (X : pw_W → Nat → Prop) (K53 : Int32 → Int32 → Int32 → Int32 → Int32 → pw_W → Prop) (a2 a3 a5 a6 a9 : Int32) (w : pw_W) : Prop := jp_L_law_420 Ln xs Q X K53 a2 a3 a5 a6 a9 0 w
set_option maxHeartbeats 4000000 in
set_option maxRecDepth 20000 in
theorem vjp_L_law_419 {l : Launch} {g : pw_G} {Q : pw_W → Int32 → Prop} {X : pw_W → Nat → Prop} {Ln : Nat} {xs : Nat → Int32} (hl0 : l.stackTraces = false) (hsc : pw_sc g Ln xs) {K53 : Int32 → Int32 → Int32 → Int32 → Int32 → pw_W → Prop} (hK53 : ∀ (a2 a3 a4 a5 a6 : Int32) (w : pw_W), K53 a2 a3 a4 a5 a6 w → pw_V l g cx_L_law Q X 53 [(3000, 0), (9, 0), (0, a2), (0, a3), (0, a4), (0, a5), (0, a6), (1, 0), (1, 0), (1, 0), (1, 0), (1, 0), (1, 0), (1, 0), (1, 0), (1, 0), (1, 0), (1, 0), (1, 0), (1, 0), (1, 0), (1, 0)] [] w) (a2 a3 a5 a6 a9 : Int32) (w : pw_W) (h : jp_L_law_419 Ln xs Q X K53 a2 a3 a5 a6 a9 w) : pw_V l g cx_L_law Q X 419 [(3000, 0), (9, 0), (0, a2), (0, a3), (1, 0), (0, a5), (0, a6), (1, 0), (1, 0), (0, a9), (1, 0), (1, 0), (1, 0), (1, 0), (1, 0), (1, 0), (1, 0), (1, 0), (1, 0), (1, 0), (1, 0), (1, 0)] [] w := by
  unfold jp_L_law_419 at h
  refine pv_iconst (v := 0) (n := 420) d_L_law_419 (by decide) rfl ?_
  exact vjp_L_law_420 hl0 hsc (by intros; exact hK53 _ _ _ _ _ _ (by assumption)) _ _ _ _ _ _ _ h
set_option maxHeartbeats 4000000 in
set_option maxRecDepth 20000 in
def jp_L_law_415 (Ln : Nat) (xs : Nat → Int32) (Q : pw_W → Int32 → Prop) (X : pw_W → Nat → Prop) (K53 : Int32 → Int32 → Int32 → Int32 → Int32 → pw_W → Prop) (a2 a3 a5 a6 a9 : Int32) (w : pw_W) : Prop := jp_L_law_420 Ln xs Q X K53 a2 a3 a5 a6 a9 1 w
set_option maxHeartbeats 4000000 in
set_option maxRecDepth 20000 in
theorem vjp_L_law_415 {l : Launch} {g : pw_G} {Q : pw_W → Int32 → Prop} {X : pw_W → Nat → Prop} {Ln : Nat} {xs : Nat → Int32} (hl0 : l.stackTraces = false) (hsc : pw_sc g Ln xs) {K53 : Int32 → Int32 → Int32 → Int32 → Int32 → pw_W → Prop} (hK53 : ∀ (a2 a3 a4 a5 a6 : Int32) (w : pw_W), K53 a2 a3 a4 a5 a6 w → pw_V l g cx_L_law Q X 53 [(3000, 0), (9, 0), (0, a2), (0, a3), (0, a4), (0, a5), (0, a6), (1, 0), (1, 0), (1, 0), (1, 0), (1, 0), (1, 0), (1, 0), (1, 0), (1, 0), (1, 0), (1, 0), (1, 0), (1, 0), (1, 0), (1, 0)] [] w) (a2 a3 a5 a6 a9 : Int32) (w : pw_W) (h : jp_L_law_415 Ln xs Q X K53 a2 a3 a5 a6 a9 w) : pw_V l g cx_L_law Q X 415 [(3000, 0), (9, 0), (0, a2), (0, a3), (1, 0), (0, a5), (0, a6), (1, 0), (1, 0), (0, a9), (1, 0), (1, 0), (1, 0), (1, 0), (1, 0), (1, 0), (1, 0), (1, 0), (1, 0), (1, 0), (1, 0), (1, 0)] [] w := by
  unfold jp_L_law_415 at h
  refine pv_iconst (v := 1) (n := 416) d_L_law_415 (by decide) rfl ?_
  refine pv_goto (tgt := 420) d_L_law_416 (by decide) ?_
  exact vjp_L_law_420 hl0 hsc (by intros; exact hK53 _ _ _ _ _ _ (by assumption)) _ _ _ _ _ _ _ h
set_option maxHeartbeats 4000000 in
set_option maxRecDepth 20000 in
def jp_L_law_315 (Ln : Nat) (xs : Nat → Int32) (Q : pw_W → Int32 → Prop) (X : pw_W → Nat → Prop) (K53 : Int32 → Int32 → Int32 → Int32 → Int32 → pw_W → Prop) (a2 a3 a5 a6 a9 s0 : Int32) (w : pw_W) : Prop := ∃ k197, lp_L_law_1781 Ln xs Q X K53 k197 a2 a3 s0 a5 a6 a9 w
set_option maxHeartbeats 4000000 in
set_option maxRecDepth 20000 in
theorem vjp_L_law_315 {l : Launch} {g : pw_G} {Q : pw_W → Int32 → Prop} {X : pw_W → Nat → Prop} {Ln : Nat} {xs : Nat → Int32} (hl0 : l.stackTraces = false) (hsc : pw_sc g Ln xs) {K53 : Int32 → Int32 → Int32 → Int32 → Int32 → pw_W → Prop} (hK53 : ∀ (a2 a3 a4 a5 a6 : Int32) (w : pw_W), K53 a2 a3 a4 a5 a6 w → pw_V l g cx_L_law Q X 53 [(3000, 0), (9, 0), (0, a2), (0, a3), (0, a4), (0, a5), (0, a6), (1, 0), (1, 0), (1, 0), (1, 0), (1, 0), (1, 0), (1, 0), (1, 0), (1, 0), (1, 0), (1, 0), (1, 0), (1, 0), (1, 0), (1, 0)] [] w) (a2 a3 a5 a6 a9 s0 : Int32) (w : pw_W) (h : jp_L_law_315 Ln xs Q X K53 a2 a3 a5 a6 a9 s0 w) : pw_V l g cx_L_law Q X 315 [(3000, 0), (9, 0), (0, a2), (0, a3), (1, 0), (0, a5), (0, a6), (1, 0), (1, 0), (0, a9), (1, 0), (1, 0), (1, 0), (1, 0), (1, 0), (1, 0), (1, 0), (1, 0), (1, 0), (1, 0), (1, 0), (1, 0)] [(0, s0)] w := by
  unfold jp_L_law_315 at h
  refine pv_istore (n := 317) (L' := [(3000, 0), (9, 0), (0, a2), (0, a3), (0, s0), (0, a5), (0, a6), (1, 0), (1, 0), (0, a9), (1, 0), (1, 0), (1, 0), (1, 0), (1, 0), (1, 0), (1, 0), (1, 0), (1, 0), (1, 0), (1, 0), (1, 0)]) d_L_law_315 (by decide) rfl rfl ?_
  refine pv_goto (tgt := 1781) d_L_law_317 (by decide) ?_
  obtain ⟨k197, h⟩ := h
  exact vlp_L_law_1781 hl0 hsc (by intros; exact hK53 _ _ _ _ _ _ (by assumption)) _ _ _ _ _ _ _ _ h
set_option maxHeartbeats 4000000 in
set_option maxRecDepth 20000 in
def jp_L_law_314 (Ln : Nat) (xs : Nat → Int32) (Q : pw_W → Int32 → Prop) (X : pw_W → Nat → Prop) (K53 : Int32 → Int32 → Int32 → Int32 → Int32 → pw_W → Prop) (a2 a3 a5 a6 a9 : Int32) (w : pw_W) : Prop := jp_L_law_315 Ln xs Q X K53 a2 a3 a5 a6 a9 0 w
set_option maxHeartbeats 4000000 in
set_option maxRecDepth 20000 in
theorem vjp_L_law_314 {l : Launch} {g : pw_G} {Q : pw_W → Int32 → Prop} {X : pw_W → Nat → Prop} {Ln : Nat} {xs : Nat → Int32} (hl0 : l.stackTraces = false) (hsc : pw_sc g Ln xs) {K53 : Int32 → Int32 → Int32 → Int32 → Int32 → pw_W → Prop} (hK53 : ∀ (a2 a3 a4 a5 a6 : Int32) (w : pw_W), K53 a2 a3 a4 a5 a6 w → pw_V l g cx_L_law Q X 53 [(3000, 0), (9, 0), (0, a2), (0, a3), (0, a4), (0, a5), (0, a6), (1, 0), (1, 0), (1, 0), (1, 0), (1, 0), (1, 0), (1, 0), (1, 0), (1, 0), (1, 0), (1, 0), (1, 0), (1, 0), (1, 0), (1, 0)] [] w) (a2 a3 a5 a6 a9 : Int32) (w : pw_W) (h : jp_L_law_314 Ln xs Q X K53 a2 a3 a5 a6 a9 w) : pw_V l g cx_L_law Q X 314 [(3000, 0), (9, 0), (0, a2), (0, a3), (1, 0), (0, a5), (0, a6), (1, 0), (1, 0), (0, a9), (1, 0), (1, 0), (1, 0), (1, 0), (1, 0), (1, 0), (1, 0), (1, 0), (1, 0), (1, 0), (1, 0), (1, 0)] [] w := by
  unfold jp_L_law_314 at h
  refine pv_iconst (v := 0) (n := 315) d_L_law_314 (by decide) rfl ?_
  exact vjp_L_law_315 hl0 hsc (by intros; exact hK53 _ _ _ _ _ _ (by assumption)) _ _ _ _ _ _ _ h
set_option maxHeartbeats 4000000 in
set_option maxRecDepth 20000 in
def jp_L_law_123 (Ln : Nat) (xs : Nat → Int32) (Q : pw_W → Int32 → Prop) (X : pw_W → Nat → Prop) (K53 : Int32 → Int32 → Int32 → Int32 → Int32 → pw_W → Prop) (a2 a3 a5 a6 a8 s0 : Int32) (w : pw_W) : Prop := ∀ v198, v198 = ((a8 >>> (1 &&& 31)) - (a8 >>> (1 &&& 31)) / 12 * 12) → wp_X_parcels w  (fun w200 r201 => ¬ r201 = 0 ∧ ∀ v203, v203 = ((a8 >>> (5 &&& 31)) - (a8 >>> (5 &&& 31)) / r201 * r201) → ∀ v205, v205 = ((a8 >>> (8 &&& 31)) - (a8 >>> (8 &&& 31)) / 10 * 10) → ∀ v207, v207 = ((a8 >>> (12 &&& 31)) - (a8 >>> (12 &&& 31)) / 10 * 10) → ∀ v209, v209 = (((10 : Int32) * v207) + v205) → ¬ ((10 : Int32) - v207) = 0 ∧ ¬ ((10 : Int32) - v205) = 0 ∧ ∀ v213, v213 = ((v209 + ((10 : Int32) * ((a8 >>> (15 &&& 31)) - (a8 >>> (15 &&& 31)) / ((10 : Int32) - v207) * ((10 : Int32) - v207)))) + ((a8 >>> (18 &&& 31)) - (a8 >>> (18 &&& 31)) / ((10 : Int32) - v205) * ((10 : Int32) - v205))) → ((2 : Int32) ≤ s0 → (¬ s0 = 2 → (¬ s0 = 3 → (¬ s0 = 4 → (¬ s0 = 5 → ((8 : Int32) ≤ s0 → jp_L_law_939 Ln xs Q X K53 a2 a3 a5 a6 a8 s0 v198 v203 v205 v207 v209 w200) ∧ (¬ (8 : Int32) ≤ s0 → (a3 ≤ 0 → jp_L_law_939 Ln xs Q X K53 a2 a3 a5 a6 a8 s0 v198 v203 v205 v207 v209 w200) ∧ (¬ a3 ≤ 0 → ¬ a3 = 0 ∧ ∀ v223, v223 = ((a8 >>> (3 &&& 31)) - (a8 >>> (3 &&& 31)) / a3 * a3) → wp_X_caseAt w200 v223 0 (fun w225 r226 => wp_X_caseAt w225 v223 3 (fun w227 r228 => wp_L_on w227 5 v223 ((a8 >>> (7 &&& 31)) &&& 1) ((1 : Int32) + ((a8 >>> (9 &&& 31)) - (a8 >>> (9 &&& 31)) / 9 * 9)) 0 (fun w229 r230 => (¬ r230 = (-13) → jp_L_law_748 Ln xs Q X K53 a2 a3 a5 a6 s0 v223 r226 r228 0 w229) ∧ (r230 = (-13) → jp_L_law_748 Ln xs Q X K53 a2 a3 a5 a6 s0 v223 r226 r228 1 w229)) (fun _ _ => False)) (fun _ _ => False)) (fun _ _ => False)))) ∧ (s0 = 5 → wp_L_on w200 4 v198 (a8 &&& 1) 0 99 (fun w232 r233 => (r233 = (-13) → jp_L_law_649 Ln xs Q X K53 a2 a3 a5 a6 s0 r233 w232) ∧ (¬ r233 = (-13) → (¬ r233 = a3 → jp_L_law_653 Ln xs Q X K53 a2 a3 a5 a6 s0 r233 w232) ∧ (r233 = a3 → wp_X_caseAt w232 r233 0 (fun w236 r237 => (¬ r237 = 0 → jp_L_law_653 Ln xs Q X K53 a2 a3 a5 a6 s0 r233 w236) ∧ (r237 = 0 → wp_X_caseAt w236 r233 3 (fun w239 r240 => (¬ r240 = 0 → jp_L_law_653 Ln xs Q X K53 a2 a3 a5 a6 s0 r233 w239) ∧ (r240 = 0 → jp_L_law_649 Ln xs Q X K53 a2 a3 a5 a6 s0 r233 w239)) (fun _ _ => False))) (fun _ _ => False)))) (fun _ _ => False))) ∧ (s0 = 4 → wp_L_on w200 3 v198 v209 v213 0 (fun w242 r243 => (r243 = (-13) → jp_L_law_584 Ln xs Q X K53 a2 a3 a5 a6 s0 w242) ∧ (¬ r243 = (-13) → (r243 ≤ 0 → jp_L_law_588 Ln xs Q X K53 a2 a3 a5 a6 s0 w242) ∧ (¬ r243 ≤ 0 → ((100 : Int32) < r243 → jp_L_law_588 Ln xs Q X K53 a2 a3 a5 a6 s0 w242) ∧ (¬ (100 : Int32) < r243 → wp_X_square w242 v209 3 (fun w247 r248 => (¬ r248 = v198 → jp_L_law_588 Ln xs Q X K53 a2 a3 a5 a6 s0 w247) ∧ (r248 = v198 → wp_X_square w247 v213 3 (fun w250 r251 => (¬ r251 = v198 → jp_L_law_588 Ln xs Q X K53 a2 a3 a5 a6 s0 w250) ∧ (r251 = v198 → jp_L_law_584 Ln xs Q X K53 a2 a3 a5 a6 s0 w250)) (fun _ _ => False))) (fun _ _ => False))))) (fun _ _ => False))) ∧ (s0 = 3 → wp_X_disputed w200 v209 (fun w253 r254 => wp_L_on w253 2 v198 v209 v213 0 (fun w255 r256 => (¬ r256 = (-13) → (r256 ≤ 0 → jp_L_law_515 Ln xs Q X K53 a2 a3 a5 a6 s0 w255) ∧ (¬ r256 ≤ 0 → ((12 : Int32) < r256 → jp_L_law_515 Ln xs Q X K53 a2 a3 a5 a6 s0 w255) ∧ (¬ (12 : Int32) < r256 → wp_X_disputed w255 v209 (fun w260 r261 => (r261 < r254 → jp_L_law_515 Ln xs Q X K53 a2 a3 a5 a6 s0 w260) ∧ (¬ r261 < r254 → wp_X_disputed w260 v209 (fun w263 r264 => (r264 ≤ 0 → jp_L_law_515 Ln xs Q X K53 a2 a3 a5 a6 s0 w263) ∧ (¬ r264 ≤ 0 → jp_L_law_516 Ln xs Q X K53 a2 a3 a5 a6 s0 1 w263)) (fun _ _ => False))) (fun _ _ => False)))) ∧ (r256 = (-13) → wp_X_disputed w255 v209 (fun w266 r267 => (¬ r267 = r254 → jp_L_law_516 Ln xs Q X K53 a2 a3 a5 a6 s0 0 w266) ∧ (r267 = r254 → jp_L_law_516 Ln xs Q X K53 a2 a3 a5 a6 s0 1 w266)) (fun _ _ => False))) (fun _ _ => False)) (fun _ _ => False))) ∧ (s0 = 2 → ¬ r201 = 0 ∧ ∀ v270, v270 = ((a8 >>> (20 &&& 31)) - (a8 >>> (20 &&& 31)) / r201 * r201) → wp_X_area w200 v203 (fun w272 r273 => wp_X_area w272 v270 (fun w274 r275 => ∀ v276, v276 = (r273 + r275) → wp_L_on w274 1 v203 v270 0 0 (fun w278 r279 => (r279 = (-13) → jp_L_law_415 Ln xs Q X K53 a2 a3 a5 a6 s0 w278) ∧ (¬ r279 = (-13) → (¬ r279 = v276 → jp_L_law_419 Ln xs Q X K53 a2 a3 a5 a6 s0 w278) ∧ (r279 = v276 → wp_X_area w278 v203 (fun w282 r283 => (¬ r283 = v276 → jp_L_law_419 Ln xs Q X K53 a2 a3 a5 a6 s0 w282) ∧ (r283 = v276 → wp_X_area w282 v270 (fun w285 r286 => (¬ r286 = v276 → jp_L_law_419 Ln xs Q X K53 a2 a3 a5 a6 s0 w285) ∧ (r286 = v276 → wp_X_owner w285 v203 (fun w288 r289 => wp_X_owner w288 v270 (fun w290 r291 => (¬ r289 = r291 → jp_L_law_419 Ln xs Q X K53 a2 a3 a5 a6 s0 w290) ∧ (r289 = r291 → jp_L_law_415 Ln xs Q X K53 a2 a3 a5 a6 s0 w290)) (fun _ _ => False)) (fun _ _ => False))) (fun _ _ => False))) (fun _ _ => False)))) (fun _ _ => False)) (fun _ _ => False)) (fun _ _ => False))) ∧ (¬ (2 : Int32) ≤ s0 → wp_X_area w200 v203 (fun w293 r294 => wp_L_on w293 0 v203 v209 v213 v198 (fun w295 r296 => (¬ r296 = (-13) → (¬ r296 = r201 → jp_L_law_314 Ln xs Q X K53 a2 a3 a5 a6 s0 w295) ∧ (r296 = r201 → wp_X_owner w295 r296 (fun w299 r300 => (¬ r300 = v198 → jp_L_law_314 Ln xs Q X K53 a2 a3 a5 a6 s0 w299) ∧ (r300 = v198 → wp_X_area w299 r296 (fun w302 r303 => (r303 ≤ 0 → jp_L_law_314 Ln xs Q X K53 a2 a3 a5 a6 s0 w302) ∧ (¬ r303 ≤ 0 → wp_X_area w302 r296 (fun w305 r306 => wp_X_area w305 v203 (fun w307 r308 => (¬ (r306 + r308) = r294 → jp_L_law_314 Ln xs Q X K53 a2 a3 a5 a6 s0 w307) ∧ ((r306 + r308) = r294 → jp_L_law_315 Ln xs Q X K53 a2 a3 a5 a6 s0 1 w307)) (fun _ _ => False)) (fun _ _ => False))) (fun _ _ => False))) (fun _ _ => False))) ∧ (r296 = (-13) → wp_X_area w295 v203 (fun w310 r311 => (¬ r311 = r294 → jp_L_law_315 Ln xs Q X K53 a2 a3 a5 a6 s0 0 w310) ∧ (r311 = r294 → jp_L_law_315 Ln xs Q X K53 a2 a3 a5 a6 s0 1 w310)) (fun _ _ => False))) (fun _ _ => False)) (fun _ _ => False))) (fun _ _ => False)
set_option maxHeartbeats 4000000 in
set_option maxRecDepth 20000 in
theorem vjp_L_law_123 {l : Launch} {g : pw_G} {Q : pw_W → Int32 → Prop} {X : pw_W → Nat → Prop} {Ln : Nat} {xs : Nat → Int32} (hl0 : l.stackTraces = false) (hsc : pw_sc g Ln xs) {K53 : Int32 → Int32 → Int32 → Int32 → Int32 → pw_W → Prop} (hK53 : ∀ (a2 a3 a4 a5 a6 : Int32) (w : pw_W), K53 a2 a3 a4 a5 a6 w → pw_V l g cx_L_law Q X 53 [(3000, 0), (9, 0), (0, a2), (0, a3), (0, a4), (0, a5), (0, a6), (1, 0), (1, 0), (1, 0), (1, 0), (1, 0), (1, 0), (1, 0), (1, 0), (1, 0), (1, 0), (1, 0), (1, 0), (1, 0), (1, 0), (1, 0)] [] w) (a2 a3 a5 a6 a8 s0 : Int32) (w : pw_W) (h : jp_L_law_123 Ln xs Q X K53 a2 a3 a5 a6 a8 s0 w) : pw_V l g cx_L_law Q X 123 [(3000, 0), (9, 0), (0, a2), (0, a3), (1, 0), (0, a5), (0, a6), (1, 0), (0, a8), (1, 0), (1, 0), (1, 0), (1, 0), (1, 0), (1, 0), (1, 0), (1, 0), (1, 0), (1, 0), (1, 0), (1, 0), (1, 0)] [(0, s0)] w := by
  unfold jp_L_law_123 at h
  refine pv_istore (n := 125) (L' := [(3000, 0), (9, 0), (0, a2), (0, a3), (1, 0), (0, a5), (0, a6), (1, 0), (0, a8), (0, s0), (1, 0), (1, 0), (1, 0), (1, 0), (1, 0), (1, 0), (1, 0), (1, 0), (1, 0), (1, 0), (1, 0), (1, 0)]) d_L_law_123 (by decide) rfl rfl ?_
  refine pv_iload (n := 127) d_L_law_125 rfl rfl ?_
  refine pv_iconst (v := 1) (n := 128) d_L_law_127 (by decide) rfl ?_
  refine pv_ishr (n := 129) d_L_law_128 rfl ?_
  refine pv_bipush (v := 12) (n := 131) d_L_law_129 (by decide) rfl ?_
  refine pv_irem (n := 132) d_L_law_131 (by decide) rfl ?_
  refine pv_nm (fun v198 e199 => ?_)
  replace h := h v198 e199
  refine pv_istore (n := 134) (L' := [(3000, 0), (9, 0), (0, a2), (0, a3), (1, 0), (0, a5), (0, a6), (1, 0), (0, a8), (0, s0), (0, v198), (1, 0), (1, 0), (1, 0), (1, 0), (1, 0), (1, 0), (1, 0), (1, 0), (1, 0), (1, 0), (1, 0)]) d_L_law_132 (by decide) rfl rfl ?_
  refine pv_aload_n (n := 135) d_L_law_134 rfl rfl rfl ?_
  refine pv_callV (n := 138) (x := 0) [] [] (con_X_parcels hl0 h) pw_cf7 rfl q_501 q_502 q_503 q_62 q_500 pyo_X_parcels (by decide) rfl rfl (by decide) d_L_law_135 rfl (fun w200 r201 h _ => ?_) (fun _ _ h => h.elim)
  show pw_V l g cx_L_law Q X 138 [(3000, 0), (9, 0), (0, a2), (0, a3), (1, 0), (0, a5), (0, a6), (1, 0), (0, a8), (0, s0), (0, v198), (1, 0), (1, 0), (1, 0), (1, 0), (1, 0), (1, 0), (1, 0), (1, 0), (1, 0), (1, 0), (1, 0)] [(0, r201)] w200
  refine pv_istore (n := 140) (L' := [(3000, 0), (9, 0), (0, a2), (0, a3), (1, 0), (0, a5), (0, a6), (1, 0), (0, a8), (0, s0), (0, v198), (0, r201), (1, 0), (1, 0), (1, 0), (1, 0), (1, 0), (1, 0), (1, 0), (1, 0), (1, 0), (1, 0)]) d_L_law_138 (by decide) rfl rfl ?_
  refine pv_iload (n := 142) d_L_law_140 rfl rfl ?_
  refine pv_iconst (v := 5) (n := 143) d_L_law_142 (by decide) rfl ?_
  refine pv_ishr (n := 144) d_L_law_143 rfl ?_
  refine pv_iload (n := 146) d_L_law_144 rfl rfl ?_
  obtain ⟨g202, h⟩ := h
  refine pv_irem (n := 147) d_L_law_146 g202 rfl ?_
  refine pv_nm (fun v203 e204 => ?_)
  replace h := h v203 e204
  refine pv_istore (n := 149) (L' := [(3000, 0), (9, 0), (0, a2), (0, a3), (1, 0), (0, a5), (0, a6), (1, 0), (0, a8), (0, s0), (0, v198), (0, r201), (0, v203), (1, 0), (1, 0), (1, 0), (1, 0), (1, 0), (1, 0), (1, 0), (1, 0), (1, 0)]) d_L_law_147 (by decide) rfl rfl ?_
  refine pv_iload (n := 151) d_L_law_149 rfl rfl ?_
  refine pv_bipush (v := 8) (n := 153) d_L_law_151 (by decide) rfl ?_
  refine pv_ishr (n := 154) d_L_law_153 rfl ?_
  refine pv_bipush (v := 10) (n := 156) d_L_law_154 (by decide) rfl ?_
  refine pv_irem (n := 157) d_L_law_156 (by decide) rfl ?_
  refine pv_nm (fun v205 e206 => ?_)
  replace h := h v205 e206
  refine pv_istore (n := 159) (L' := [(3000, 0), (9, 0), (0, a2), (0, a3), (1, 0), (0, a5), (0, a6), (1, 0), (0, a8), (0, s0), (0, v198), (0, r201), (0, v203), (0, v205), (1, 0), (1, 0), (1, 0), (1, 0), (1, 0), (1, 0), (1, 0), (1, 0)]) d_L_law_157 (by decide) rfl rfl ?_
  refine pv_iload (n := 161) d_L_law_159 rfl rfl ?_
  refine pv_bipush (v := 12) (n := 163) d_L_law_161 (by decide) rfl ?_
  refine pv_ishr (n := 164) d_L_law_163 rfl ?_
  refine pv_bipush (v := 10) (n := 166) d_L_law_164 (by decide) rfl ?_
  refine pv_irem (n := 167) d_L_law_166 (by decide) rfl ?_
  refine pv_nm (fun v207 e208 => ?_)
  replace h := h v207 e208
  refine pv_istore (n := 169) (L' := [(3000, 0), (9, 0), (0, a2), (0, a3), (1, 0), (0, a5), (0, a6), (1, 0), (0, a8), (0, s0), (0, v198), (0, r201), (0, v203), (0, v205), (0, v207), (1, 0), (1, 0), (1, 0), (1, 0), (1, 0), (1, 0), (1, 0)]) d_L_law_167 (by decide) rfl rfl ?_
  refine pv_bipush (v := 10) (n := 171) d_L_law_169 (by decide) rfl ?_
  refine pv_iload (n := 173) d_L_law_171 rfl rfl ?_
  refine pv_imul (n := 174) d_L_law_173 rfl ?_
  refine pv_iload (n := 176) d_L_law_174 rfl rfl ?_
  refine pv_iadd (n := 177) d_L_law_176 rfl ?_
  refine pv_nm (fun v209 e210 => ?_)
  replace h := h v209 e210
  refine pv_istore (n := 179) (L' := [(3000, 0), (9, 0), (0, a2), (0, a3), (1, 0), (0, a5), (0, a6), (1, 0), (0, a8), (0, s0), (0, v198), (0, r201), (0, v203), (0, v205), (0, v207), (0, v209), (1, 0), (1, 0), (1, 0), (1, 0), (1, 0), (1, 0)]) d_L_law_177 (by decide) rfl rfl ?_
  refine pv_iload (n := 181) d_L_law_179 rfl rfl ?_
  refine pv_bipush (v := 10) (n := 183) d_L_law_181 (by decide) rfl ?_
  refine pv_iload (n := 185) d_L_law_183 rfl rfl ?_
  refine pv_bipush (v := 15) (n := 187) d_L_law_185 (by decide) rfl ?_
  refine pv_ishr (n := 188) d_L_law_187 rfl ?_
  refine pv_bipush (v := 10) (n := 190) d_L_law_188 (by decide) rfl ?_
  refine pv_iload (n := 192) d_L_law_190 rfl rfl ?_
  refine pv_isub (n := 193) d_L_law_192 rfl ?_
  obtain ⟨g211, h⟩ := h
  refine pv_irem (n := 194) d_L_law_193 g211 rfl ?_
  refine pv_imul (n := 195) d_L_law_194 rfl ?_
  refine pv_iadd (n := 196) d_L_law_195 rfl ?_
  refine pv_iload (n := 198) d_L_law_196 rfl rfl ?_
  refine pv_bipush (v := 18) (n := 200) d_L_law_198 (by decide) rfl ?_
  refine pv_ishr (n := 201) d_L_law_200 rfl ?_
  refine pv_bipush (v := 10) (n := 203) d_L_law_201 (by decide) rfl ?_
  refine pv_iload (n := 205) d_L_law_203 rfl rfl ?_
  refine pv_isub (n := 206) d_L_law_205 rfl ?_
  obtain ⟨g212, h⟩ := h
  refine pv_irem (n := 207) d_L_law_206 g212 rfl ?_
  refine pv_iadd (n := 208) d_L_law_207 rfl ?_
  refine pv_nm (fun v213 e214 => ?_)
  replace h := h v213 e214
  refine pv_istore (n := 210) (L' := [(3000, 0), (9, 0), (0, a2), (0, a3), (1, 0), (0, a5), (0, a6), (1, 0), (0, a8), (0, s0), (0, v198), (0, r201), (0, v203), (0, v205), (0, v207), (0, v209), (0, v213), (1, 0), (1, 0), (1, 0), (1, 0), (1, 0)]) d_L_law_208 (by decide) rfl rfl ?_
  refine pv_iload (n := 212) d_L_law_210 rfl rfl ?_
  refine pv_iconst (v := 2) (n := 213) d_L_law_212 (by decide) rfl ?_
  refine pv_icmp_ge (n := 216) (tgt := 320) d_L_law_213 (by decide) rfl (fun c215 => ?_) (fun c215 => ?_)
  · replace h := h.1 c215
    refine pv_iload (n := 322) d_L_law_320 rfl rfl ?_
    refine pv_iconst (v := 2) (n := 323) d_L_law_322 (by decide) rfl ?_
    refine pv_icmp_ne (n := 326) (tgt := 425) d_L_law_323 (by decide) rfl (fun c216 => ?_) (fun c216 => ?_)
    · replace h := h.1 c216
      refine pv_iload (n := 427) d_L_law_425 rfl rfl ?_
      refine pv_iconst (v := 3) (n := 428) d_L_law_427 (by decide) rfl ?_
      refine pv_icmp_ne (n := 431) (tgt := 521) d_L_law_428 (by decide) rfl (fun c217 => ?_) (fun c217 => ?_)
      · replace h := h.1 c217
        refine pv_iload (n := 523) d_L_law_521 rfl rfl ?_
        refine pv_iconst (v := 4) (n := 524) d_L_law_523 (by decide) rfl ?_
        refine pv_icmp_ne (n := 527) (tgt := 594) d_L_law_524 (by decide) rfl (fun c218 => ?_) (fun c218 => ?_)
        · replace h := h.1 c218
          refine pv_iload (n := 596) d_L_law_594 rfl rfl ?_
          refine pv_iconst (v := 5) (n := 597) d_L_law_596 (by decide) rfl ?_
          refine pv_icmp_ne (n := 600) (tgt := 672) d_L_law_597 (by decide) rfl (fun c219 => ?_) (fun c219 => ?_)
          · replace h := h.1 c219
            refine pv_iload (n := 674) d_L_law_672 rfl rfl ?_
            refine pv_bipush (v := 8) (n := 676) d_L_law_674 (by decide) rfl ?_
            refine pv_icmp_ge (n := 679) (tgt := 939) d_L_law_676 (by decide) rfl (fun c220 => ?_) (fun c220 => ?_)
            · replace h := h.1 c220
              refine pv_unset (i := 11) (L1 := [(3000, 0), (9, 0), (0, a2), (0, a3), (1, 0), (0, a5), (0, a6), (1, 0), (0, a8), (0, s0), (0, v198), (1, 0), (0, v203), (0, v205), (0, v207), (0, v209), (0, v213), (1, 0), (1, 0), (1, 0), (1, 0), (1, 0)]) rfl ?_
              refine pv_unset (i := 16) (L1 := [(3000, 0), (9, 0), (0, a2), (0, a3), (1, 0), (0, a5), (0, a6), (1, 0), (0, a8), (0, s0), (0, v198), (1, 0), (0, v203), (0, v205), (0, v207), (0, v209), (1, 0), (1, 0), (1, 0), (1, 0), (1, 0), (1, 0)]) rfl ?_
              exact vjp_L_law_939 hl0 hsc (by intros; exact hK53 _ _ _ _ _ _ (by assumption)) _ _ _ _ _ _ _ _ _ _ _ _ h
            · replace h := h.2 c220
              refine pv_iload_n (n := 680) d_L_law_679 rfl rfl rfl ?_
              refine pv_if_le (n := 683) (tgt := 939) d_L_law_680 (by decide) rfl (fun c221 => ?_) (fun c221 => ?_)
              · replace h := h.1 c221
                refine pv_unset (i := 11) (L1 := [(3000, 0), (9, 0), (0, a2), (0, a3), (1, 0), (0, a5), (0, a6), (1, 0), (0, a8), (0, s0), (0, v198), (1, 0), (0, v203), (0, v205), (0, v207), (0, v209), (0, v213), (1, 0), (1, 0), (1, 0), (1, 0), (1, 0)]) rfl ?_
                refine pv_unset (i := 16) (L1 := [(3000, 0), (9, 0), (0, a2), (0, a3), (1, 0), (0, a5), (0, a6), (1, 0), (0, a8), (0, s0), (0, v198), (1, 0), (0, v203), (0, v205), (0, v207), (0, v209), (1, 0), (1, 0), (1, 0), (1, 0), (1, 0), (1, 0)]) rfl ?_
                exact vjp_L_law_939 hl0 hsc (by intros; exact hK53 _ _ _ _ _ _ (by assumption)) _ _ _ _ _ _ _ _ _ _ _ _ h
              · replace h := h.2 c221
                refine pv_iload (n := 685) d_L_law_683 rfl rfl ?_
                refine pv_iconst (v := 3) (n := 686) d_L_law_685 (by decide) rfl ?_
                refine pv_ishr (n := 687) d_L_law_686 rfl ?_
                refine pv_iload_n (n := 688) d_L_law_687 rfl rfl rfl ?_
                obtain ⟨g222, h⟩ := h
                refine pv_irem (n := 689) d_L_law_688 g222 rfl ?_
                refine pv_nm (fun v223 e224 => ?_)
                replace h := h v223 e224
                refine pv_istore (n := 691) (L' := [(3000, 0), (9, 0), (0, a2), (0, a3), (1, 0), (0, a5), (0, a6), (1, 0), (0, a8), (0, s0), (0, v198), (0, r201), (0, v203), (0, v205), (0, v207), (0, v209), (0, v213), (1, 0), (0, v223), (1, 0), (1, 0), (1, 0)]) d_L_law_689 (by decide) rfl rfl ?_
                refine pv_aload_n (n := 692) d_L_law_691 rfl rfl rfl ?_
                refine pv_iload (n := 694) d_L_law_692 rfl rfl ?_
                refine pv_iconst (v := 0) (n := 695) d_L_law_694 (by decide) rfl ?_
                refine pv_callV (n := 698) (x := 0) [(0, v223), (0, 0)] [] (con_X_caseAt hl0 h) pw_cf7 rfl q_521 q_522 q_523 q_62 q_520 pyo_X_caseAt (by decide) rfl rfl (by decide) d_L_law_695 rfl (fun w225 r226 h _ => ?_) (fun _ _ h => h.elim)
                show pw_V l g cx_L_law Q X 698 [(3000, 0), (9, 0), (0, a2), (0, a3), (1, 0), (0, a5), (0, a6), (1, 0), (0, a8), (0, s0), (0, v198), (0, r201), (0, v203), (0, v205), (0, v207), (0, v209), (0, v213), (1, 0), (0, v223), (1, 0), (1, 0), (1, 0)] [(0, r226)] w225
                refine pv_istore (n := 700) (L' := [(3000, 0), (9, 0), (0, a2), (0, a3), (1, 0), (0, a5), (0, a6), (1, 0), (0, a8), (0, s0), (0, v198), (0, r201), (0, v203), (0, v205), (0, v207), (0, v209), (0, v213), (1, 0), (0, v223), (0, r226), (1, 0), (1, 0)]) d_L_law_698 (by decide) rfl rfl ?_
                refine pv_aload_n (n := 701) d_L_law_700 rfl rfl rfl ?_
                refine pv_iload (n := 703) d_L_law_701 rfl rfl ?_
                refine pv_iconst (v := 3) (n := 704) d_L_law_703 (by decide) rfl ?_
                refine pv_callV (n := 707) (x := 0) [(0, v223), (0, 3)] [] (con_X_caseAt hl0 h) pw_cf7 rfl q_521 q_522 q_523 q_62 q_520 pyo_X_caseAt (by decide) rfl rfl (by decide) d_L_law_704 rfl (fun w227 r228 h _ => ?_) (fun _ _ h => h.elim)
                show pw_V l g cx_L_law Q X 707 [(3000, 0), (9, 0), (0, a2), (0, a3), (1, 0), (0, a5), (0, a6), (1, 0), (0, a8), (0, s0), (0, v198), (0, r201), (0, v203), (0, v205), (0, v207), (0, v209), (0, v213), (1, 0), (0, v223), (0, r226), (1, 0), (1, 0)] [(0, r228)] w227
                refine pv_istore (n := 709) (L' := [(3000, 0), (9, 0), (0, a2), (0, a3), (1, 0), (0, a5), (0, a6), (1, 0), (0, a8), (0, s0), (0, v198), (0, r201), (0, v203), (0, v205), (0, v207), (0, v209), (0, v213), (1, 0), (0, v223), (0, r226), (0, r228), (1, 0)]) d_L_law_707 (by decide) rfl rfl ?_
                refine pv_aload_n (n := 710) d_L_law_709 rfl rfl rfl ?_
                refine pv_iconst (v := 5) (n := 711) d_L_law_710 (by decide) rfl ?_
                refine pv_iload (n := 713) d_L_law_711 rfl rfl ?_
                refine pv_iload (n := 715) d_L_law_713 rfl rfl ?_
                refine pv_bipush (v := 7) (n := 717) d_L_law_715 (by decide) rfl ?_
                refine pv_ishr (n := 718) d_L_law_717 rfl ?_
                refine pv_iconst (v := 1) (n := 719) d_L_law_718 (by decide) rfl ?_
                refine pv_iand (n := 720) d_L_law_719 rfl ?_
                refine pv_iconst (v := 1) (n := 721) d_L_law_720 (by decide) rfl ?_
                refine pv_iload (n := 723) d_L_law_721 rfl rfl ?_
                refine pv_bipush (v := 9) (n := 725) d_L_law_723 (by decide) rfl ?_
                refine pv_ishr (n := 726) d_L_law_725 rfl ?_
                refine pv_bipush (v := 9) (n := 728) d_L_law_726 (by decide) rfl ?_
                refine pv_irem (n := 729) d_L_law_728 (by decide) rfl ?_
                refine pv_iadd (n := 730) d_L_law_729 rfl ?_
                refine pv_iconst (v := 0) (n := 731) d_L_law_730 (by decide) rfl ?_
                refine pv_callSH (n := 734) [(9, 0), (0, 5), (0, v223), (0, ((a8 >>> (7 &&& 31)) &&& 1)), (0, ((1 : Int32) + ((a8 >>> (9 &&& 31)) - (a8 >>> (9 &&& 31)) / 9 * 9))), (0, 0)] [] (con_L_on hl0 h) q_541 q_542 q_483 q_540 pyo_L_on (by decide) rfl rfl d_L_law_731 rfl (fun w229 r230 h _ => ?_) (fun _ _ h => h.elim)
                show pw_V l g cx_L_law Q X 734 [(3000, 0), (9, 0), (0, a2), (0, a3), (1, 0), (0, a5), (0, a6), (1, 0), (0, a8), (0, s0), (0, v198), (0, r201), (0, v203), (0, v205), (0, v207), (0, v209), (0, v213), (1, 0), (0, v223), (0, r226), (0, r228), (1, 0)] [(0, r230)] w229
                refine pv_istore (n := 736) (L' := [(3000, 0), (9, 0), (0, a2), (0, a3), (1, 0), (0, a5), (0, a6), (1, 0), (0, a8), (0, s0), (0, v198), (0, r201), (0, v203), (0, v205), (0, v207), (0, v209), (0, v213), (0, r230), (0, v223), (0, r226), (0, r228), (1, 0)]) d_L_law_734 (by decide) rfl rfl ?_
                refine pv_iload (n := 738) d_L_law_736 rfl rfl ?_
                refine pv_bipush (v := -13) (n := 740) d_L_law_738 (by decide) rfl ?_
                refine pv_icmp_ne (n := 743) (tgt := 747) d_L_law_740 (by decide) rfl (fun c231 => ?_) (fun c231 => ?_)
                · replace h := h.1 c231
                  refine pv_iconst (v := 0) (n := 748) d_L_law_747 (by decide) rfl ?_
                  refine pv_unset (i := 8) (L1 := [(3000, 0), (9, 0), (0, a2), (0, a3), (1, 0), (0, a5), (0, a6), (1, 0), (1, 0), (0, s0), (0, v198), (0, r201), (0, v203), (0, v205), (0, v207), (0, v209), (0, v213), (0, r230), (0, v223), (0, r226), (0, r228), (1, 0)]) rfl ?_
                  refine pv_unset (i := 10) (L1 := [(3000, 0), (9, 0), (0, a2), (0, a3), (1, 0), (0, a5), (0, a6), (1, 0), (1, 0), (0, s0), (1, 0), (0, r201), (0, v203), (0, v205), (0, v207), (0, v209), (0, v213), (0, r230), (0, v223), (0, r226), (0, r228), (1, 0)]) rfl ?_
                  refine pv_unset (i := 11) (L1 := [(3000, 0), (9, 0), (0, a2), (0, a3), (1, 0), (0, a5), (0, a6), (1, 0), (1, 0), (0, s0), (1, 0), (1, 0), (0, v203), (0, v205), (0, v207), (0, v209), (0, v213), (0, r230), (0, v223), (0, r226), (0, r228), (1, 0)]) rfl ?_
                  refine pv_unset (i := 12) (L1 := [(3000, 0), (9, 0), (0, a2), (0, a3), (1, 0), (0, a5), (0, a6), (1, 0), (1, 0), (0, s0), (1, 0), (1, 0), (1, 0), (0, v205), (0, v207), (0, v209), (0, v213), (0, r230), (0, v223), (0, r226), (0, r228), (1, 0)]) rfl ?_
                  refine pv_unset (i := 13) (L1 := [(3000, 0), (9, 0), (0, a2), (0, a3), (1, 0), (0, a5), (0, a6), (1, 0), (1, 0), (0, s0), (1, 0), (1, 0), (1, 0), (1, 0), (0, v207), (0, v209), (0, v213), (0, r230), (0, v223), (0, r226), (0, r228), (1, 0)]) rfl ?_
                  refine pv_unset (i := 14) (L1 := [(3000, 0), (9, 0), (0, a2), (0, a3), (1, 0), (0, a5), (0, a6), (1, 0), (1, 0), (0, s0), (1, 0), (1, 0), (1, 0), (1, 0), (1, 0), (0, v209), (0, v213), (0, r230), (0, v223), (0, r226), (0, r228), (1, 0)]) rfl ?_
                  refine pv_unset (i := 15) (L1 := [(3000, 0), (9, 0), (0, a2), (0, a3), (1, 0), (0, a5), (0, a6), (1, 0), (1, 0), (0, s0), (1, 0), (1, 0), (1, 0), (1, 0), (1, 0), (1, 0), (0, v213), (0, r230), (0, v223), (0, r226), (0, r228), (1, 0)]) rfl ?_
                  refine pv_unset (i := 16) (L1 := [(3000, 0), (9, 0), (0, a2), (0, a3), (1, 0), (0, a5), (0, a6), (1, 0), (1, 0), (0, s0), (1, 0), (1, 0), (1, 0), (1, 0), (1, 0), (1, 0), (1, 0), (0, r230), (0, v223), (0, r226), (0, r228), (1, 0)]) rfl ?_
                  refine pv_unset (i := 17) (L1 := [(3000, 0), (9, 0), (0, a2), (0, a3), (1, 0), (0, a5), (0, a6), (1, 0), (1, 0), (0, s0), (1, 0), (1, 0), (1, 0), (1, 0), (1, 0), (1, 0), (1, 0), (1, 0), (0, v223), (0, r226), (0, r228), (1, 0)]) rfl ?_
                  exact vjp_L_law_748 hl0 hsc (by intros; exact hK53 _ _ _ _ _ _ (by assumption)) _ _ _ _ _ _ _ _ _ _ h
                · replace h := h.2 c231
                  refine pv_iconst (v := 1) (n := 744) d_L_law_743 (by decide) rfl ?_
                  refine pv_goto (tgt := 748) d_L_law_744 (by decide) ?_
                  refine pv_unset (i := 8) (L1 := [(3000, 0), (9, 0), (0, a2), (0, a3), (1, 0), (0, a5), (0, a6), (1, 0), (1, 0), (0, s0), (0, v198), (0, r201), (0, v203), (0, v205), (0, v207), (0, v209), (0, v213), (0, r230), (0, v223), (0, r226), (0, r228), (1, 0)]) rfl ?_
                  refine pv_unset (i := 10) (L1 := [(3000, 0), (9, 0), (0, a2), (0, a3), (1, 0), (0, a5), (0, a6), (1, 0), (1, 0), (0, s0), (1, 0), (0, r201), (0, v203), (0, v205), (0, v207), (0, v209), (0, v213), (0, r230), (0, v223), (0, r226), (0, r228), (1, 0)]) rfl ?_
                  refine pv_unset (i := 11) (L1 := [(3000, 0), (9, 0), (0, a2), (0, a3), (1, 0), (0, a5), (0, a6), (1, 0), (1, 0), (0, s0), (1, 0), (1, 0), (0, v203), (0, v205), (0, v207), (0, v209), (0, v213), (0, r230), (0, v223), (0, r226), (0, r228), (1, 0)]) rfl ?_
                  refine pv_unset (i := 12) (L1 := [(3000, 0), (9, 0), (0, a2), (0, a3), (1, 0), (0, a5), (0, a6), (1, 0), (1, 0), (0, s0), (1, 0), (1, 0), (1, 0), (0, v205), (0, v207), (0, v209), (0, v213), (0, r230), (0, v223), (0, r226), (0, r228), (1, 0)]) rfl ?_
                  refine pv_unset (i := 13) (L1 := [(3000, 0), (9, 0), (0, a2), (0, a3), (1, 0), (0, a5), (0, a6), (1, 0), (1, 0), (0, s0), (1, 0), (1, 0), (1, 0), (1, 0), (0, v207), (0, v209), (0, v213), (0, r230), (0, v223), (0, r226), (0, r228), (1, 0)]) rfl ?_
                  refine pv_unset (i := 14) (L1 := [(3000, 0), (9, 0), (0, a2), (0, a3), (1, 0), (0, a5), (0, a6), (1, 0), (1, 0), (0, s0), (1, 0), (1, 0), (1, 0), (1, 0), (1, 0), (0, v209), (0, v213), (0, r230), (0, v223), (0, r226), (0, r228), (1, 0)]) rfl ?_
                  refine pv_unset (i := 15) (L1 := [(3000, 0), (9, 0), (0, a2), (0, a3), (1, 0), (0, a5), (0, a6), (1, 0), (1, 0), (0, s0), (1, 0), (1, 0), (1, 0), (1, 0), (1, 0), (1, 0), (0, v213), (0, r230), (0, v223), (0, r226), (0, r228), (1, 0)]) rfl ?_
                  refine pv_unset (i := 16) (L1 := [(3000, 0), (9, 0), (0, a2), (0, a3), (1, 0), (0, a5), (0, a6), (1, 0), (1, 0), (0, s0), (1, 0), (1, 0), (1, 0), (1, 0), (1, 0), (1, 0), (1, 0), (0, r230), (0, v223), (0, r226), (0, r228), (1, 0)]) rfl ?_
                  refine pv_unset (i := 17) (L1 := [(3000, 0), (9, 0), (0, a2), (0, a3), (1, 0), (0, a5), (0, a6), (1, 0), (1, 0), (0, s0), (1, 0), (1, 0), (1, 0), (1, 0), (1, 0), (1, 0), (1, 0), (1, 0), (0, v223), (0, r226), (0, r228), (1, 0)]) rfl ?_
                  exact vjp_L_law_748 hl0 hsc (by intros; exact hK53 _ _ _ _ _ _ (by assumption)) _ _ _ _ _ _ _ _ _ _ h
          · replace h := h.2 c219
            refine pv_aload_n (n := 601) d_L_law_600 rfl rfl rfl ?_
            refine pv_iconst (v := 4) (n := 602) d_L_law_601 (by decide) rfl ?_
            refine pv_iload (n := 604) d_L_law_602 rfl rfl ?_
            refine pv_iload (n := 606) d_L_law_604 rfl rfl ?_
            refine pv_iconst (v := 1) (n := 607) d_L_law_606 (by decide) rfl ?_
            refine pv_iand (n := 608) d_L_law_607 rfl ?_
            refine pv_iconst (v := 0) (n := 609) d_L_law_608 (by decide) rfl ?_
            refine pv_bipush (v := 99) (n := 611) d_L_law_609 (by decide) rfl ?_
            refine pv_callSH (n := 614) [(9, 0), (0, 4), (0, v198), (0, (a8 &&& 1)), (0, 0), (0, 99)] [] (con_L_on hl0 h) q_541 q_542 q_483 q_540 pyo_L_on (by decide) rfl rfl d_L_law_611 rfl (fun w232 r233 h _ => ?_) (fun _ _ h => h.elim)
            show pw_V l g cx_L_law Q X 614 [(3000, 0), (9, 0), (0, a2), (0, a3), (1, 0), (0, a5), (0, a6), (1, 0), (0, a8), (0, s0), (0, v198), (0, r201), (0, v203), (0, v205), (0, v207), (0, v209), (0, v213), (1, 0), (1, 0), (1, 0), (1, 0), (1, 0)] [(0, r233)] w232
            refine pv_istore (n := 616) (L' := [(3000, 0), (9, 0), (0, a2), (0, a3), (1, 0), (0, a5), (0, a6), (1, 0), (0, a8), (0, s0), (0, v198), (0, r201), (0, v203), (0, v205), (0, v207), (0, v209), (0, v213), (0, r233), (1, 0), (1, 0), (1, 0), (1, 0)]) d_L_law_614 (by decide) rfl rfl ?_
            refine pv_iload (n := 618) d_L_law_616 rfl rfl ?_
            refine pv_bipush (v := -13) (n := 620) d_L_law_618 (by decide) rfl ?_
            refine pv_icmp_eq (n := 623) (tgt := 649) d_L_law_620 (by decide) rfl (fun c234 => ?_) (fun c234 => ?_)
            · replace h := h.1 c234
              refine pv_unset (i := 8) (L1 := [(3000, 0), (9, 0), (0, a2), (0, a3), (1, 0), (0, a5), (0, a6), (1, 0), (1, 0), (0, s0), (0, v198), (0, r201), (0, v203), (0, v205), (0, v207), (0, v209), (0, v213), (0, r233), (1, 0), (1, 0), (1, 0), (1, 0)]) rfl ?_
              refine pv_unset (i := 10) (L1 := [(3000, 0), (9, 0), (0, a2), (0, a3), (1, 0), (0, a5), (0, a6), (1, 0), (1, 0), (0, s0), (1, 0), (0, r201), (0, v203), (0, v205), (0, v207), (0, v209), (0, v213), (0, r233), (1, 0), (1, 0), (1, 0), (1, 0)]) rfl ?_
              refine pv_unset (i := 11) (L1 := [(3000, 0), (9, 0), (0, a2), (0, a3), (1, 0), (0, a5), (0, a6), (1, 0), (1, 0), (0, s0), (1, 0), (1, 0), (0, v203), (0, v205), (0, v207), (0, v209), (0, v213), (0, r233), (1, 0), (1, 0), (1, 0), (1, 0)]) rfl ?_
              refine pv_unset (i := 12) (L1 := [(3000, 0), (9, 0), (0, a2), (0, a3), (1, 0), (0, a5), (0, a6), (1, 0), (1, 0), (0, s0), (1, 0), (1, 0), (1, 0), (0, v205), (0, v207), (0, v209), (0, v213), (0, r233), (1, 0), (1, 0), (1, 0), (1, 0)]) rfl ?_
              refine pv_unset (i := 13) (L1 := [(3000, 0), (9, 0), (0, a2), (0, a3), (1, 0), (0, a5), (0, a6), (1, 0), (1, 0), (0, s0), (1, 0), (1, 0), (1, 0), (1, 0), (0, v207), (0, v209), (0, v213), (0, r233), (1, 0), (1, 0), (1, 0), (1, 0)]) rfl ?_
              refine pv_unset (i := 14) (L1 := [(3000, 0), (9, 0), (0, a2), (0, a3), (1, 0), (0, a5), (0, a6), (1, 0), (1, 0), (0, s0), (1, 0), (1, 0), (1, 0), (1, 0), (1, 0), (0, v209), (0, v213), (0, r233), (1, 0), (1, 0), (1, 0), (1, 0)]) rfl ?_
              refine pv_unset (i := 15) (L1 := [(3000, 0), (9, 0), (0, a2), (0, a3), (1, 0), (0, a5), (0, a6), (1, 0), (1, 0), (0, s0), (1, 0), (1, 0), (1, 0), (1, 0), (1, 0), (1, 0), (0, v213), (0, r233), (1, 0), (1, 0), (1, 0), (1, 0)]) rfl ?_
              refine pv_unset (i := 16) (L1 := [(3000, 0), (9, 0), (0, a2), (0, a3), (1, 0), (0, a5), (0, a6), (1, 0), (1, 0), (0, s0), (1, 0), (1, 0), (1, 0), (1, 0), (1, 0), (1, 0), (1, 0), (0, r233), (1, 0), (1, 0), (1, 0), (1, 0)]) rfl ?_
              exact vjp_L_law_649 hl0 hsc (by intros; exact hK53 _ _ _ _ _ _ (by assumption)) _ _ _ _ _ _ _ h
            · replace h := h.2 c234
              refine pv_iload (n := 625) d_L_law_623 rfl rfl ?_
              refine pv_iload_n (n := 626) d_L_law_625 rfl rfl rfl ?_
              refine pv_icmp_ne (n := 629) (tgt := 653) d_L_law_626 (by decide) rfl (fun c235 => ?_) (fun c235 => ?_)
              · replace h := h.1 c235
                refine pv_unset (i := 8) (L1 := [(3000, 0), (9, 0), (0, a2), (0, a3), (1, 0), (0, a5), (0, a6), (1, 0), (1, 0), (0, s0), (0, v198), (0, r201), (0, v203), (0, v205), (0, v207), (0, v209), (0, v213), (0, r233), (1, 0), (1, 0), (1, 0), (1, 0)]) rfl ?_
                refine pv_unset (i := 10) (L1 := [(3000, 0), (9, 0), (0, a2), (0, a3), (1, 0), (0, a5), (0, a6), (1, 0), (1, 0), (0, s0), (1, 0), (0, r201), (0, v203), (0, v205), (0, v207), (0, v209), (0, v213), (0, r233), (1, 0), (1, 0), (1, 0), (1, 0)]) rfl ?_
                refine pv_unset (i := 11) (L1 := [(3000, 0), (9, 0), (0, a2), (0, a3), (1, 0), (0, a5), (0, a6), (1, 0), (1, 0), (0, s0), (1, 0), (1, 0), (0, v203), (0, v205), (0, v207), (0, v209), (0, v213), (0, r233), (1, 0), (1, 0), (1, 0), (1, 0)]) rfl ?_
                refine pv_unset (i := 12) (L1 := [(3000, 0), (9, 0), (0, a2), (0, a3), (1, 0), (0, a5), (0, a6), (1, 0), (1, 0), (0, s0), (1, 0), (1, 0), (1, 0), (0, v205), (0, v207), (0, v209), (0, v213), (0, r233), (1, 0), (1, 0), (1, 0), (1, 0)]) rfl ?_
                refine pv_unset (i := 13) (L1 := [(3000, 0), (9, 0), (0, a2), (0, a3), (1, 0), (0, a5), (0, a6), (1, 0), (1, 0), (0, s0), (1, 0), (1, 0), (1, 0), (1, 0), (0, v207), (0, v209), (0, v213), (0, r233), (1, 0), (1, 0), (1, 0), (1, 0)]) rfl ?_
                refine pv_unset (i := 14) (L1 := [(3000, 0), (9, 0), (0, a2), (0, a3), (1, 0), (0, a5), (0, a6), (1, 0), (1, 0), (0, s0), (1, 0), (1, 0), (1, 0), (1, 0), (1, 0), (0, v209), (0, v213), (0, r233), (1, 0), (1, 0), (1, 0), (1, 0)]) rfl ?_
                refine pv_unset (i := 15) (L1 := [(3000, 0), (9, 0), (0, a2), (0, a3), (1, 0), (0, a5), (0, a6), (1, 0), (1, 0), (0, s0), (1, 0), (1, 0), (1, 0), (1, 0), (1, 0), (1, 0), (0, v213), (0, r233), (1, 0), (1, 0), (1, 0), (1, 0)]) rfl ?_
                refine pv_unset (i := 16) (L1 := [(3000, 0), (9, 0), (0, a2), (0, a3), (1, 0), (0, a5), (0, a6), (1, 0), (1, 0), (0, s0), (1, 0), (1, 0), (1, 0), (1, 0), (1, 0), (1, 0), (1, 0), (0, r233), (1, 0), (1, 0), (1, 0), (1, 0)]) rfl ?_
                exact vjp_L_law_653 hl0 hsc (by intros; exact hK53 _ _ _ _ _ _ (by assumption)) _ _ _ _ _ _ _ h
              · replace h := h.2 c235
                refine pv_aload_n (n := 630) d_L_law_629 rfl rfl rfl ?_
                refine pv_iload (n := 632) d_L_law_630 rfl rfl ?_
                refine pv_iconst (v := 0) (n := 633) d_L_law_632 (by decide) rfl ?_
                refine pv_callV (n := 636) (x := 0) [(0, r233), (0, 0)] [] (con_X_caseAt hl0 h) pw_cf7 rfl q_521 q_522 q_523 q_62 q_520 pyo_X_caseAt (by decide) rfl rfl (by decide) d_L_law_633 rfl (fun w236 r237 h _ => ?_) (fun _ _ h => h.elim)
                show pw_V l g cx_L_law Q X 636 [(3000, 0), (9, 0), (0, a2), (0, a3), (1, 0), (0, a5), (0, a6), (1, 0), (0, a8), (0, s0), (0, v198), (0, r201), (0, v203), (0, v205), (0, v207), (0, v209), (0, v213), (0, r233), (1, 0), (1, 0), (1, 0), (1, 0)] [(0, r237)] w236
                refine pv_if_ne (n := 639) (tgt := 653) d_L_law_636 (by decide) rfl (fun c238 => ?_) (fun c238 => ?_)
                · replace h := h.1 c238
                  refine pv_unset (i := 8) (L1 := [(3000, 0), (9, 0), (0, a2), (0, a3), (1, 0), (0, a5), (0, a6), (1, 0), (1, 0), (0, s0), (0, v198), (0, r201), (0, v203), (0, v205), (0, v207), (0, v209), (0, v213), (0, r233), (1, 0), (1, 0), (1, 0), (1, 0)]) rfl ?_
                  refine pv_unset (i := 10) (L1 := [(3000, 0), (9, 0), (0, a2), (0, a3), (1, 0), (0, a5), (0, a6), (1, 0), (1, 0), (0, s0), (1, 0), (0, r201), (0, v203), (0, v205), (0, v207), (0, v209), (0, v213), (0, r233), (1, 0), (1, 0), (1, 0), (1, 0)]) rfl ?_
                  refine pv_unset (i := 11) (L1 := [(3000, 0), (9, 0), (0, a2), (0, a3), (1, 0), (0, a5), (0, a6), (1, 0), (1, 0), (0, s0), (1, 0), (1, 0), (0, v203), (0, v205), (0, v207), (0, v209), (0, v213), (0, r233), (1, 0), (1, 0), (1, 0), (1, 0)]) rfl ?_
                  refine pv_unset (i := 12) (L1 := [(3000, 0), (9, 0), (0, a2), (0, a3), (1, 0), (0, a5), (0, a6), (1, 0), (1, 0), (0, s0), (1, 0), (1, 0), (1, 0), (0, v205), (0, v207), (0, v209), (0, v213), (0, r233), (1, 0), (1, 0), (1, 0), (1, 0)]) rfl ?_
                  refine pv_unset (i := 13) (L1 := [(3000, 0), (9, 0), (0, a2), (0, a3), (1, 0), (0, a5), (0, a6), (1, 0), (1, 0), (0, s0), (1, 0), (1, 0), (1, 0), (1, 0), (0, v207), (0, v209), (0, v213), (0, r233), (1, 0), (1, 0), (1, 0), (1, 0)]) rfl ?_
                  refine pv_unset (i := 14) (L1 := [(3000, 0), (9, 0), (0, a2), (0, a3), (1, 0), (0, a5), (0, a6), (1, 0), (1, 0), (0, s0), (1, 0), (1, 0), (1, 0), (1, 0), (1, 0), (0, v209), (0, v213), (0, r233), (1, 0), (1, 0), (1, 0), (1, 0)]) rfl ?_
                  refine pv_unset (i := 15) (L1 := [(3000, 0), (9, 0), (0, a2), (0, a3), (1, 0), (0, a5), (0, a6), (1, 0), (1, 0), (0, s0), (1, 0), (1, 0), (1, 0), (1, 0), (1, 0), (1, 0), (0, v213), (0, r233), (1, 0), (1, 0), (1, 0), (1, 0)]) rfl ?_
                  refine pv_unset (i := 16) (L1 := [(3000, 0), (9, 0), (0, a2), (0, a3), (1, 0), (0, a5), (0, a6), (1, 0), (1, 0), (0, s0), (1, 0), (1, 0), (1, 0), (1, 0), (1, 0), (1, 0), (1, 0), (0, r233), (1, 0), (1, 0), (1, 0), (1, 0)]) rfl ?_
                  exact vjp_L_law_653 hl0 hsc (by intros; exact hK53 _ _ _ _ _ _ (by assumption)) _ _ _ _ _ _ _ h
                · replace h := h.2 c238
                  refine pv_aload_n (n := 640) d_L_law_639 rfl rfl rfl ?_
                  refine pv_iload (n := 642) d_L_law_640 rfl rfl ?_
                  refine pv_iconst (v := 3) (n := 643) d_L_law_642 (by decide) rfl ?_
                  refine pv_callV (n := 646) (x := 0) [(0, r233), (0, 3)] [] (con_X_caseAt hl0 h) pw_cf7 rfl q_521 q_522 q_523 q_62 q_520 pyo_X_caseAt (by decide) rfl rfl (by decide) d_L_law_643 rfl (fun w239 r240 h _ => ?_) (fun _ _ h => h.elim)
                  show pw_V l g cx_L_law Q X 646 [(3000, 0), (9, 0), (0, a2), (0, a3), (1, 0), (0, a5), (0, a6), (1, 0), (0, a8), (0, s0), (0, v198), (0, r201), (0, v203), (0, v205), (0, v207), (0, v209), (0, v213), (0, r233), (1, 0), (1, 0), (1, 0), (1, 0)] [(0, r240)] w239
                  refine pv_if_ne (n := 649) (tgt := 653) d_L_law_646 (by decide) rfl (fun c241 => ?_) (fun c241 => ?_)
                  · replace h := h.1 c241
                    refine pv_unset (i := 8) (L1 := [(3000, 0), (9, 0), (0, a2), (0, a3), (1, 0), (0, a5), (0, a6), (1, 0), (1, 0), (0, s0), (0, v198), (0, r201), (0, v203), (0, v205), (0, v207), (0, v209), (0, v213), (0, r233), (1, 0), (1, 0), (1, 0), (1, 0)]) rfl ?_
                    refine pv_unset (i := 10) (L1 := [(3000, 0), (9, 0), (0, a2), (0, a3), (1, 0), (0, a5), (0, a6), (1, 0), (1, 0), (0, s0), (1, 0), (0, r201), (0, v203), (0, v205), (0, v207), (0, v209), (0, v213), (0, r233), (1, 0), (1, 0), (1, 0), (1, 0)]) rfl ?_
                    refine pv_unset (i := 11) (L1 := [(3000, 0), (9, 0), (0, a2), (0, a3), (1, 0), (0, a5), (0, a6), (1, 0), (1, 0), (0, s0), (1, 0), (1, 0), (0, v203), (0, v205), (0, v207), (0, v209), (0, v213), (0, r233), (1, 0), (1, 0), (1, 0), (1, 0)]) rfl ?_
                    refine pv_unset (i := 12) (L1 := [(3000, 0), (9, 0), (0, a2), (0, a3), (1, 0), (0, a5), (0, a6), (1, 0), (1, 0), (0, s0), (1, 0), (1, 0), (1, 0), (0, v205), (0, v207), (0, v209), (0, v213), (0, r233), (1, 0), (1, 0), (1, 0), (1, 0)]) rfl ?_
                    refine pv_unset (i := 13) (L1 := [(3000, 0), (9, 0), (0, a2), (0, a3), (1, 0), (0, a5), (0, a6), (1, 0), (1, 0), (0, s0), (1, 0), (1, 0), (1, 0), (1, 0), (0, v207), (0, v209), (0, v213), (0, r233), (1, 0), (1, 0), (1, 0), (1, 0)]) rfl ?_
                    refine pv_unset (i := 14) (L1 := [(3000, 0), (9, 0), (0, a2), (0, a3), (1, 0), (0, a5), (0, a6), (1, 0), (1, 0), (0, s0), (1, 0), (1, 0), (1, 0), (1, 0), (1, 0), (0, v209), (0, v213), (0, r233), (1, 0), (1, 0), (1, 0), (1, 0)]) rfl ?_
                    refine pv_unset (i := 15) (L1 := [(3000, 0), (9, 0), (0, a2), (0, a3), (1, 0), (0, a5), (0, a6), (1, 0), (1, 0), (0, s0), (1, 0), (1, 0), (1, 0), (1, 0), (1, 0), (1, 0), (0, v213), (0, r233), (1, 0), (1, 0), (1, 0), (1, 0)]) rfl ?_
                    refine pv_unset (i := 16) (L1 := [(3000, 0), (9, 0), (0, a2), (0, a3), (1, 0), (0, a5), (0, a6), (1, 0), (1, 0), (0, s0), (1, 0), (1, 0), (1, 0), (1, 0), (1, 0), (1, 0), (1, 0), (0, r233), (1, 0), (1, 0), (1, 0), (1, 0)]) rfl ?_
                    exact vjp_L_law_653 hl0 hsc (by intros; exact hK53 _ _ _ _ _ _ (by assumption)) _ _ _ _ _ _ _ h
                  · replace h := h.2 c241
                    refine pv_unset (i := 8) (L1 := [(3000, 0), (9, 0), (0, a2), (0, a3), (1, 0), (0, a5), (0, a6), (1, 0), (1, 0), (0, s0), (0, v198), (0, r201), (0, v203), (0, v205), (0, v207), (0, v209), (0, v213), (0, r233), (1, 0), (1, 0), (1, 0), (1, 0)]) rfl ?_
                    refine pv_unset (i := 10) (L1 := [(3000, 0), (9, 0), (0, a2), (0, a3), (1, 0), (0, a5), (0, a6), (1, 0), (1, 0), (0, s0), (1, 0), (0, r201), (0, v203), (0, v205), (0, v207), (0, v209), (0, v213), (0, r233), (1, 0), (1, 0), (1, 0), (1, 0)]) rfl ?_
                    refine pv_unset (i := 11) (L1 := [(3000, 0), (9, 0), (0, a2), (0, a3), (1, 0), (0, a5), (0, a6), (1, 0), (1, 0), (0, s0), (1, 0), (1, 0), (0, v203), (0, v205), (0, v207), (0, v209), (0, v213), (0, r233), (1, 0), (1, 0), (1, 0), (1, 0)]) rfl ?_
                    refine pv_unset (i := 12) (L1 := [(3000, 0), (9, 0), (0, a2), (0, a3), (1, 0), (0, a5), (0, a6), (1, 0), (1, 0), (0, s0), (1, 0), (1, 0), (1, 0), (0, v205), (0, v207), (0, v209), (0, v213), (0, r233), (1, 0), (1, 0), (1, 0), (1, 0)]) rfl ?_
                    refine pv_unset (i := 13) (L1 := [(3000, 0), (9, 0), (0, a2), (0, a3), (1, 0), (0, a5), (0, a6), (1, 0), (1, 0), (0, s0), (1, 0), (1, 0), (1, 0), (1, 0), (0, v207), (0, v209), (0, v213), (0, r233), (1, 0), (1, 0), (1, 0), (1, 0)]) rfl ?_
                    refine pv_unset (i := 14) (L1 := [(3000, 0), (9, 0), (0, a2), (0, a3), (1, 0), (0, a5), (0, a6), (1, 0), (1, 0), (0, s0), (1, 0), (1, 0), (1, 0), (1, 0), (1, 0), (0, v209), (0, v213), (0, r233), (1, 0), (1, 0), (1, 0), (1, 0)]) rfl ?_
                    refine pv_unset (i := 15) (L1 := [(3000, 0), (9, 0), (0, a2), (0, a3), (1, 0), (0, a5), (0, a6), (1, 0), (1, 0), (0, s0), (1, 0), (1, 0), (1, 0), (1, 0), (1, 0), (1, 0), (0, v213), (0, r233), (1, 0), (1, 0), (1, 0), (1, 0)]) rfl ?_
                    refine pv_unset (i := 16) (L1 := [(3000, 0), (9, 0), (0, a2), (0, a3), (1, 0), (0, a5), (0, a6), (1, 0), (1, 0), (0, s0), (1, 0), (1, 0), (1, 0), (1, 0), (1, 0), (1, 0), (1, 0), (0, r233), (1, 0), (1, 0), (1, 0), (1, 0)]) rfl ?_
                    exact vjp_L_law_649 hl0 hsc (by intros; exact hK53 _ _ _ _ _ _ (by assumption)) _ _ _ _ _ _ _ h
        · replace h := h.2 c218
          refine pv_aload_n (n := 528) d_L_law_527 rfl rfl rfl ?_
          refine pv_iconst (v := 3) (n := 529) d_L_law_528 (by decide) rfl ?_
          refine pv_iload (n := 531) d_L_law_529 rfl rfl ?_
          refine pv_iload (n := 533) d_L_law_531 rfl rfl ?_
          refine pv_iload (n := 535) d_L_law_533 rfl rfl ?_
          refine pv_iconst (v := 0) (n := 536) d_L_law_535 (by decide) rfl ?_
          refine pv_callSH (n := 539) [(9, 0), (0, 3), (0, v198), (0, v209), (0, v213), (0, 0)] [] (con_L_on hl0 h) q_541 q_542 q_483 q_540 pyo_L_on (by decide) rfl rfl d_L_law_536 rfl (fun w242 r243 h _ => ?_) (fun _ _ h => h.elim)
          show pw_V l g cx_L_law Q X 539 [(3000, 0), (9, 0), (0, a2), (0, a3), (1, 0), (0, a5), (0, a6), (1, 0), (0, a8), (0, s0), (0, v198), (0, r201), (0, v203), (0, v205), (0, v207), (0, v209), (0, v213), (1, 0), (1, 0), (1, 0), (1, 0), (1, 0)] [(0, r243)] w242
          refine pv_istore (n := 541) (L' := [(3000, 0), (9, 0), (0, a2), (0, a3), (1, 0), (0, a5), (0, a6), (1, 0), (0, a8), (0, s0), (0, v198), (0, r201), (0, v203), (0, v205), (0, v207), (0, v209), (0, v213), (0, r243), (1, 0), (1, 0), (1, 0), (1, 0)]) d_L_law_539 (by decide) rfl rfl ?_
          refine pv_iload (n := 543) d_L_law_541 rfl rfl ?_
          refine pv_bipush (v := -13) (n := 545) d_L_law_543 (by decide) rfl ?_
          refine pv_icmp_eq (n := 548) (tgt := 584) d_L_law_545 (by decide) rfl (fun c244 => ?_) (fun c244 => ?_)
          · replace h := h.1 c244
            refine pv_unset (i := 8) (L1 := [(3000, 0), (9, 0), (0, a2), (0, a3), (1, 0), (0, a5), (0, a6), (1, 0), (1, 0), (0, s0), (0, v198), (0, r201), (0, v203), (0, v205), (0, v207), (0, v209), (0, v213), (0, r243), (1, 0), (1, 0), (1, 0), (1, 0)]) rfl ?_
            refine pv_unset (i := 10) (L1 := [(3000, 0), (9, 0), (0, a2), (0, a3), (1, 0), (0, a5), (0, a6), (1, 0), (1, 0), (0, s0), (1, 0), (0, r201), (0, v203), (0, v205), (0, v207), (0, v209), (0, v213), (0, r243), (1, 0), (1, 0), (1, 0), (1, 0)]) rfl ?_
            refine pv_unset (i := 11) (L1 := [(3000, 0), (9, 0), (0, a2), (0, a3), (1, 0), (0, a5), (0, a6), (1, 0), (1, 0), (0, s0), (1, 0), (1, 0), (0, v203), (0, v205), (0, v207), (0, v209), (0, v213), (0, r243), (1, 0), (1, 0), (1, 0), (1, 0)]) rfl ?_
            refine pv_unset (i := 12) (L1 := [(3000, 0), (9, 0), (0, a2), (0, a3), (1, 0), (0, a5), (0, a6), (1, 0), (1, 0), (0, s0), (1, 0), (1, 0), (1, 0), (0, v205), (0, v207), (0, v209), (0, v213), (0, r243), (1, 0), (1, 0), (1, 0), (1, 0)]) rfl ?_
            refine pv_unset (i := 13) (L1 := [(3000, 0), (9, 0), (0, a2), (0, a3), (1, 0), (0, a5), (0, a6), (1, 0), (1, 0), (0, s0), (1, 0), (1, 0), (1, 0), (1, 0), (0, v207), (0, v209), (0, v213), (0, r243), (1, 0), (1, 0), (1, 0), (1, 0)]) rfl ?_
            refine pv_unset (i := 14) (L1 := [(3000, 0), (9, 0), (0, a2), (0, a3), (1, 0), (0, a5), (0, a6), (1, 0), (1, 0), (0, s0), (1, 0), (1, 0), (1, 0), (1, 0), (1, 0), (0, v209), (0, v213), (0, r243), (1, 0), (1, 0), (1, 0), (1, 0)]) rfl ?_
            refine pv_unset (i := 15) (L1 := [(3000, 0), (9, 0), (0, a2), (0, a3), (1, 0), (0, a5), (0, a6), (1, 0), (1, 0), (0, s0), (1, 0), (1, 0), (1, 0), (1, 0), (1, 0), (1, 0), (0, v213), (0, r243), (1, 0), (1, 0), (1, 0), (1, 0)]) rfl ?_
            refine pv_unset (i := 16) (L1 := [(3000, 0), (9, 0), (0, a2), (0, a3), (1, 0), (0, a5), (0, a6), (1, 0), (1, 0), (0, s0), (1, 0), (1, 0), (1, 0), (1, 0), (1, 0), (1, 0), (1, 0), (0, r243), (1, 0), (1, 0), (1, 0), (1, 0)]) rfl ?_
            refine pv_unset (i := 17) (L1 := [(3000, 0), (9, 0), (0, a2), (0, a3), (1, 0), (0, a5), (0, a6), (1, 0), (1, 0), (0, s0), (1, 0), (1, 0), (1, 0), (1, 0), (1, 0), (1, 0), (1, 0), (1, 0), (1, 0), (1, 0), (1, 0), (1, 0)]) rfl ?_
            exact vjp_L_law_584 hl0 hsc (by intros; exact hK53 _ _ _ _ _ _ (by assumption)) _ _ _ _ _ _ h
          · replace h := h.2 c244
            refine pv_iload (n := 550) d_L_law_548 rfl rfl ?_
            refine pv_if_le (n := 553) (tgt := 588) d_L_law_550 (by decide) rfl (fun c245 => ?_) (fun c245 => ?_)
            · replace h := h.1 c245
              refine pv_unset (i := 8) (L1 := [(3000, 0), (9, 0), (0, a2), (0, a3), (1, 0), (0, a5), (0, a6), (1, 0), (1, 0), (0, s0), (0, v198), (0, r201), (0, v203), (0, v205), (0, v207), (0, v209), (0, v213), (0, r243), (1, 0), (1, 0), (1, 0), (1, 0)]) rfl ?_
              refine pv_unset (i := 10) (L1 := [(3000, 0), (9, 0), (0, a2), (0, a3), (1, 0), (0, a5), (0, a6), (1, 0), (1, 0), (0, s0), (1, 0), (0, r201), (0, v203), (0, v205), (0, v207), (0, v209), (0, v213), (0, r243), (1, 0), (1, 0), (1, 0), (1, 0)]) rfl ?_
              refine pv_unset (i := 11) (L1 := [(3000, 0), (9, 0), (0, a2), (0, a3), (1, 0), (0, a5), (0, a6), (1, 0), (1, 0), (0, s0), (1, 0), (1, 0), (0, v203), (0, v205), (0, v207), (0, v209), (0, v213), (0, r243), (1, 0), (1, 0), (1, 0), (1, 0)]) rfl ?_
              refine pv_unset (i := 12) (L1 := [(3000, 0), (9, 0), (0, a2), (0, a3), (1, 0), (0, a5), (0, a6), (1, 0), (1, 0), (0, s0), (1, 0), (1, 0), (1, 0), (0, v205), (0, v207), (0, v209), (0, v213), (0, r243), (1, 0), (1, 0), (1, 0), (1, 0)]) rfl ?_
              refine pv_unset (i := 13) (L1 := [(3000, 0), (9, 0), (0, a2), (0, a3), (1, 0), (0, a5), (0, a6), (1, 0), (1, 0), (0, s0), (1, 0), (1, 0), (1, 0), (1, 0), (0, v207), (0, v209), (0, v213), (0, r243), (1, 0), (1, 0), (1, 0), (1, 0)]) rfl ?_
              refine pv_unset (i := 14) (L1 := [(3000, 0), (9, 0), (0, a2), (0, a3), (1, 0), (0, a5), (0, a6), (1, 0), (1, 0), (0, s0), (1, 0), (1, 0), (1, 0), (1, 0), (1, 0), (0, v209), (0, v213), (0, r243), (1, 0), (1, 0), (1, 0), (1, 0)]) rfl ?_
              refine pv_unset (i := 15) (L1 := [(3000, 0), (9, 0), (0, a2), (0, a3), (1, 0), (0, a5), (0, a6), (1, 0), (1, 0), (0, s0), (1, 0), (1, 0), (1, 0), (1, 0), (1, 0), (1, 0), (0, v213), (0, r243), (1, 0), (1, 0), (1, 0), (1, 0)]) rfl ?_
              refine pv_unset (i := 16) (L1 := [(3000, 0), (9, 0), (0, a2), (0, a3), (1, 0), (0, a5), (0, a6), (1, 0), (1, 0), (0, s0), (1, 0), (1, 0), (1, 0), (1, 0), (1, 0), (1, 0), (1, 0), (0, r243), (1, 0), (1, 0), (1, 0), (1, 0)]) rfl ?_
              refine pv_unset (i := 17) (L1 := [(3000, 0), (9, 0), (0, a2), (0, a3), (1, 0), (0, a5), (0, a6), (1, 0), (1, 0), (0, s0), (1, 0), (1, 0), (1, 0), (1, 0), (1, 0), (1, 0), (1, 0), (1, 0), (1, 0), (1, 0), (1, 0), (1, 0)]) rfl ?_
              exact vjp_L_law_588 hl0 hsc (by intros; exact hK53 _ _ _ _ _ _ (by assumption)) _ _ _ _ _ _ h
            · replace h := h.2 c245
              refine pv_iload (n := 555) d_L_law_553 rfl rfl ?_
              refine pv_bipush (v := 100) (n := 557) d_L_law_555 (by decide) rfl ?_
              refine pv_icmp_gt (n := 560) (tgt := 588) d_L_law_557 (by decide) rfl (fun c246 => ?_) (fun c246 => ?_)
              · replace h := h.1 c246
                refine pv_unset (i := 8) (L1 := [(3000, 0), (9, 0), (0, a2), (0, a3), (1, 0), (0, a5), (0, a6), (1, 0), (1, 0), (0, s0), (0, v198), (0, r201), (0, v203), (0, v205), (0, v207), (0, v209), (0, v213), (0, r243), (1, 0), (1, 0), (1, 0), (1, 0)]) rfl ?_
                refine pv_unset (i := 10) (L1 := [(3000, 0), (9, 0), (0, a2), (0, a3), (1, 0), (0, a5), (0, a6), (1, 0), (1, 0), (0, s0), (1, 0), (0, r201), (0, v203), (0, v205), (0, v207), (0, v209), (0, v213), (0, r243), (1, 0), (1, 0), (1, 0), (1, 0)]) rfl ?_
                refine pv_unset (i := 11) (L1 := [(3000, 0), (9, 0), (0, a2), (0, a3), (1, 0), (0, a5), (0, a6), (1, 0), (1, 0), (0, s0), (1, 0), (1, 0), (0, v203), (0, v205), (0, v207), (0, v209), (0, v213), (0, r243), (1, 0), (1, 0), (1, 0), (1, 0)]) rfl ?_
                refine pv_unset (i := 12) (L1 := [(3000, 0), (9, 0), (0, a2), (0, a3), (1, 0), (0, a5), (0, a6), (1, 0), (1, 0), (0, s0), (1, 0), (1, 0), (1, 0), (0, v205), (0, v207), (0, v209), (0, v213), (0, r243), (1, 0), (1, 0), (1, 0), (1, 0)]) rfl ?_
                refine pv_unset (i := 13) (L1 := [(3000, 0), (9, 0), (0, a2), (0, a3), (1, 0), (0, a5), (0, a6), (1, 0), (1, 0), (0, s0), (1, 0), (1, 0), (1, 0), (1, 0), (0, v207), (0, v209), (0, v213), (0, r243), (1, 0), (1, 0), (1, 0), (1, 0)]) rfl ?_
                refine pv_unset (i := 14) (L1 := [(3000, 0), (9, 0), (0, a2), (0, a3), (1, 0), (0, a5), (0, a6), (1, 0), (1, 0), (0, s0), (1, 0), (1, 0), (1, 0), (1, 0), (1, 0), (0, v209), (0, v213), (0, r243), (1, 0), (1, 0), (1, 0), (1, 0)]) rfl ?_
                refine pv_unset (i := 15) (L1 := [(3000, 0), (9, 0), (0, a2), (0, a3), (1, 0), (0, a5), (0, a6), (1, 0), (1, 0), (0, s0), (1, 0), (1, 0), (1, 0), (1, 0), (1, 0), (1, 0), (0, v213), (0, r243), (1, 0), (1, 0), (1, 0), (1, 0)]) rfl ?_
                refine pv_unset (i := 16) (L1 := [(3000, 0), (9, 0), (0, a2), (0, a3), (1, 0), (0, a5), (0, a6), (1, 0), (1, 0), (0, s0), (1, 0), (1, 0), (1, 0), (1, 0), (1, 0), (1, 0), (1, 0), (0, r243), (1, 0), (1, 0), (1, 0), (1, 0)]) rfl ?_
                refine pv_unset (i := 17) (L1 := [(3000, 0), (9, 0), (0, a2), (0, a3), (1, 0), (0, a5), (0, a6), (1, 0), (1, 0), (0, s0), (1, 0), (1, 0), (1, 0), (1, 0), (1, 0), (1, 0), (1, 0), (1, 0), (1, 0), (1, 0), (1, 0), (1, 0)]) rfl ?_
                exact vjp_L_law_588 hl0 hsc (by intros; exact hK53 _ _ _ _ _ _ (by assumption)) _ _ _ _ _ _ h
              · replace h := h.2 c246
                refine pv_aload_n (n := 561) d_L_law_560 rfl rfl rfl ?_
                refine pv_iload (n := 563) d_L_law_561 rfl rfl ?_
                refine pv_iconst (v := 3) (n := 564) d_L_law_563 (by decide) rfl ?_
                refine pv_callV (n := 567) (x := 0) [(0, v209), (0, 3)] [] (con_X_square hl0 h) pw_cf7 rfl q_505 q_506 q_507 q_62 q_504 pyo_X_square (by decide) rfl rfl (by decide) d_L_law_564 rfl (fun w247 r248 h _ => ?_) (fun _ _ h => h.elim)
                show pw_V l g cx_L_law Q X 567 [(3000, 0), (9, 0), (0, a2), (0, a3), (1, 0), (0, a5), (0, a6), (1, 0), (0, a8), (0, s0), (0, v198), (0, r201), (0, v203), (0, v205), (0, v207), (0, v209), (0, v213), (0, r243), (1, 0), (1, 0), (1, 0), (1, 0)] [(0, r248)] w247
                refine pv_iload (n := 569) d_L_law_567 rfl rfl ?_
                refine pv_icmp_ne (n := 572) (tgt := 588) d_L_law_569 (by decide) rfl (fun c249 => ?_) (fun c249 => ?_)
                · replace h := h.1 c249
                  refine pv_unset (i := 8) (L1 := [(3000, 0), (9, 0), (0, a2), (0, a3), (1, 0), (0, a5), (0, a6), (1, 0), (1, 0), (0, s0), (0, v198), (0, r201), (0, v203), (0, v205), (0, v207), (0, v209), (0, v213), (0, r243), (1, 0), (1, 0), (1, 0), (1, 0)]) rfl ?_
                  refine pv_unset (i := 10) (L1 := [(3000, 0), (9, 0), (0, a2), (0, a3), (1, 0), (0, a5), (0, a6), (1, 0), (1, 0), (0, s0), (1, 0), (0, r201), (0, v203), (0, v205), (0, v207), (0, v209), (0, v213), (0, r243), (1, 0), (1, 0), (1, 0), (1, 0)]) rfl ?_
                  refine pv_unset (i := 11) (L1 := [(3000, 0), (9, 0), (0, a2), (0, a3), (1, 0), (0, a5), (0, a6), (1, 0), (1, 0), (0, s0), (1, 0), (1, 0), (0, v203), (0, v205), (0, v207), (0, v209), (0, v213), (0, r243), (1, 0), (1, 0), (1, 0), (1, 0)]) rfl ?_
                  refine pv_unset (i := 12) (L1 := [(3000, 0), (9, 0), (0, a2), (0, a3), (1, 0), (0, a5), (0, a6), (1, 0), (1, 0), (0, s0), (1, 0), (1, 0), (1, 0), (0, v205), (0, v207), (0, v209), (0, v213), (0, r243), (1, 0), (1, 0), (1, 0), (1, 0)]) rfl ?_
                  refine pv_unset (i := 13) (L1 := [(3000, 0), (9, 0), (0, a2), (0, a3), (1, 0), (0, a5), (0, a6), (1, 0), (1, 0), (0, s0), (1, 0), (1, 0), (1, 0), (1, 0), (0, v207), (0, v209), (0, v213), (0, r243), (1, 0), (1, 0), (1, 0), (1, 0)]) rfl ?_
                  refine pv_unset (i := 14) (L1 := [(3000, 0), (9, 0), (0, a2), (0, a3), (1, 0), (0, a5), (0, a6), (1, 0), (1, 0), (0, s0), (1, 0), (1, 0), (1, 0), (1, 0), (1, 0), (0, v209), (0, v213), (0, r243), (1, 0), (1, 0), (1, 0), (1, 0)]) rfl ?_
                  refine pv_unset (i := 15) (L1 := [(3000, 0), (9, 0), (0, a2), (0, a3), (1, 0), (0, a5), (0, a6), (1, 0), (1, 0), (0, s0), (1, 0), (1, 0), (1, 0), (1, 0), (1, 0), (1, 0), (0, v213), (0, r243), (1, 0), (1, 0), (1, 0), (1, 0)]) rfl ?_
                  refine pv_unset (i := 16) (L1 := [(3000, 0), (9, 0), (0, a2), (0, a3), (1, 0), (0, a5), (0, a6), (1, 0), (1, 0), (0, s0), (1, 0), (1, 0), (1, 0), (1, 0), (1, 0), (1, 0), (1, 0), (0, r243), (1, 0), (1, 0), (1, 0), (1, 0)]) rfl ?_
                  refine pv_unset (i := 17) (L1 := [(3000, 0), (9, 0), (0, a2), (0, a3), (1, 0), (0, a5), (0, a6), (1, 0), (1, 0), (0, s0), (1, 0), (1, 0), (1, 0), (1, 0), (1, 0), (1, 0), (1, 0), (1, 0), (1, 0), (1, 0), (1, 0), (1, 0)]) rfl ?_
                  exact vjp_L_law_588 hl0 hsc (by intros; exact hK53 _ _ _ _ _ _ (by assumption)) _ _ _ _ _ _ h
                · replace h := h.2 c249
                  refine pv_aload_n (n := 573) d_L_law_572 rfl rfl rfl ?_
                  refine pv_iload (n := 575) d_L_law_573 rfl rfl ?_
                  refine pv_iconst (v := 3) (n := 576) d_L_law_575 (by decide) rfl ?_
                  refine pv_callV (n := 579) (x := 0) [(0, v213), (0, 3)] [] (con_X_square hl0 h) pw_cf7 rfl q_505 q_506 q_507 q_62 q_504 pyo_X_square (by decide) rfl rfl (by decide) d_L_law_576 rfl (fun w250 r251 h _ => ?_) (fun _ _ h => h.elim)
                  show pw_V l g cx_L_law Q X 579 [(3000, 0), (9, 0), (0, a2), (0, a3), (1, 0), (0, a5), (0, a6), (1, 0), (0, a8), (0, s0), (0, v198), (0, r201), (0, v203), (0, v205), (0, v207), (0, v209), (0, v213), (0, r243), (1, 0), (1, 0), (1, 0), (1, 0)] [(0, r251)] w250
                  refine pv_iload (n := 581) d_L_law_579 rfl rfl ?_
                  refine pv_icmp_ne (n := 584) (tgt := 588) d_L_law_581 (by decide) rfl (fun c252 => ?_) (fun c252 => ?_)
                  · replace h := h.1 c252
                    refine pv_unset (i := 8) (L1 := [(3000, 0), (9, 0), (0, a2), (0, a3), (1, 0), (0, a5), (0, a6), (1, 0), (1, 0), (0, s0), (0, v198), (0, r201), (0, v203), (0, v205), (0, v207), (0, v209), (0, v213), (0, r243), (1, 0), (1, 0), (1, 0), (1, 0)]) rfl ?_
                    refine pv_unset (i := 10) (L1 := [(3000, 0), (9, 0), (0, a2), (0, a3), (1, 0), (0, a5), (0, a6), (1, 0), (1, 0), (0, s0), (1, 0), (0, r201), (0, v203), (0, v205), (0, v207), (0, v209), (0, v213), (0, r243), (1, 0), (1, 0), (1, 0), (1, 0)]) rfl ?_
                    refine pv_unset (i := 11) (L1 := [(3000, 0), (9, 0), (0, a2), (0, a3), (1, 0), (0, a5), (0, a6), (1, 0), (1, 0), (0, s0), (1, 0), (1, 0), (0, v203), (0, v205), (0, v207), (0, v209), (0, v213), (0, r243), (1, 0), (1, 0), (1, 0), (1, 0)]) rfl ?_
                    refine pv_unset (i := 12) (L1 := [(3000, 0), (9, 0), (0, a2), (0, a3), (1, 0), (0, a5), (0, a6), (1, 0), (1, 0), (0, s0), (1, 0), (1, 0), (1, 0), (0, v205), (0, v207), (0, v209), (0, v213), (0, r243), (1, 0), (1, 0), (1, 0), (1, 0)]) rfl ?_
                    refine pv_unset (i := 13) (L1 := [(3000, 0), (9, 0), (0, a2), (0, a3), (1, 0), (0, a5), (0, a6), (1, 0), (1, 0), (0, s0), (1, 0), (1, 0), (1, 0), (1, 0), (0, v207), (0, v209), (0, v213), (0, r243), (1, 0), (1, 0), (1, 0), (1, 0)]) rfl ?_
                    refine pv_unset (i := 14) (L1 := [(3000, 0), (9, 0), (0, a2), (0, a3), (1, 0), (0, a5), (0, a6), (1, 0), (1, 0), (0, s0), (1, 0), (1, 0), (1, 0), (1, 0), (1, 0), (0, v209), (0, v213), (0, r243), (1, 0), (1, 0), (1, 0), (1, 0)]) rfl ?_
                    refine pv_unset (i := 15) (L1 := [(3000, 0), (9, 0), (0, a2), (0, a3), (1, 0), (0, a5), (0, a6), (1, 0), (1, 0), (0, s0), (1, 0), (1, 0), (1, 0), (1, 0), (1, 0), (1, 0), (0, v213), (0, r243), (1, 0), (1, 0), (1, 0), (1, 0)]) rfl ?_
                    refine pv_unset (i := 16) (L1 := [(3000, 0), (9, 0), (0, a2), (0, a3), (1, 0), (0, a5), (0, a6), (1, 0), (1, 0), (0, s0), (1, 0), (1, 0), (1, 0), (1, 0), (1, 0), (1, 0), (1, 0), (0, r243), (1, 0), (1, 0), (1, 0), (1, 0)]) rfl ?_
                    refine pv_unset (i := 17) (L1 := [(3000, 0), (9, 0), (0, a2), (0, a3), (1, 0), (0, a5), (0, a6), (1, 0), (1, 0), (0, s0), (1, 0), (1, 0), (1, 0), (1, 0), (1, 0), (1, 0), (1, 0), (1, 0), (1, 0), (1, 0), (1, 0), (1, 0)]) rfl ?_
                    exact vjp_L_law_588 hl0 hsc (by intros; exact hK53 _ _ _ _ _ _ (by assumption)) _ _ _ _ _ _ h
                  · replace h := h.2 c252
                    refine pv_unset (i := 8) (L1 := [(3000, 0), (9, 0), (0, a2), (0, a3), (1, 0), (0, a5), (0, a6), (1, 0), (1, 0), (0, s0), (0, v198), (0, r201), (0, v203), (0, v205), (0, v207), (0, v209), (0, v213), (0, r243), (1, 0), (1, 0), (1, 0), (1, 0)]) rfl ?_
                    refine pv_unset (i := 10) (L1 := [(3000, 0), (9, 0), (0, a2), (0, a3), (1, 0), (0, a5), (0, a6), (1, 0), (1, 0), (0, s0), (1, 0), (0, r201), (0, v203), (0, v205), (0, v207), (0, v209), (0, v213), (0, r243), (1, 0), (1, 0), (1, 0), (1, 0)]) rfl ?_
                    refine pv_unset (i := 11) (L1 := [(3000, 0), (9, 0), (0, a2), (0, a3), (1, 0), (0, a5), (0, a6), (1, 0), (1, 0), (0, s0), (1, 0), (1, 0), (0, v203), (0, v205), (0, v207), (0, v209), (0, v213), (0, r243), (1, 0), (1, 0), (1, 0), (1, 0)]) rfl ?_
                    refine pv_unset (i := 12) (L1 := [(3000, 0), (9, 0), (0, a2), (0, a3), (1, 0), (0, a5), (0, a6), (1, 0), (1, 0), (0, s0), (1, 0), (1, 0), (1, 0), (0, v205), (0, v207), (0, v209), (0, v213), (0, r243), (1, 0), (1, 0), (1, 0), (1, 0)]) rfl ?_
                    refine pv_unset (i := 13) (L1 := [(3000, 0), (9, 0), (0, a2), (0, a3), (1, 0), (0, a5), (0, a6), (1, 0), (1, 0), (0, s0), (1, 0), (1, 0), (1, 0), (1, 0), (0, v207), (0, v209), (0, v213), (0, r243), (1, 0), (1, 0), (1, 0), (1, 0)]) rfl ?_
                    refine pv_unset (i := 14) (L1 := [(3000, 0), (9, 0), (0, a2), (0, a3), (1, 0), (0, a5), (0, a6), (1, 0), (1, 0), (0, s0), (1, 0), (1, 0), (1, 0), (1, 0), (1, 0), (0, v209), (0, v213), (0, r243), (1, 0), (1, 0), (1, 0), (1, 0)]) rfl ?_
                    refine pv_unset (i := 15) (L1 := [(3000, 0), (9, 0), (0, a2), (0, a3), (1, 0), (0, a5), (0, a6), (1, 0), (1, 0), (0, s0), (1, 0), (1, 0), (1, 0), (1, 0), (1, 0), (1, 0), (0, v213), (0, r243), (1, 0), (1, 0), (1, 0), (1, 0)]) rfl ?_
                    refine pv_unset (i := 16) (L1 := [(3000, 0), (9, 0), (0, a2), (0, a3), (1, 0), (0, a5), (0, a6), (1, 0), (1, 0), (0, s0), (1, 0), (1, 0), (1, 0), (1, 0), (1, 0), (1, 0), (1, 0), (0, r243), (1, 0), (1, 0), (1, 0), (1, 0)]) rfl ?_
                    refine pv_unset (i := 17) (L1 := [(3000, 0), (9, 0), (0, a2), (0, a3), (1, 0), (0, a5), (0, a6), (1, 0), (1, 0), (0, s0), (1, 0), (1, 0), (1, 0), (1, 0), (1, 0), (1, 0), (1, 0), (1, 0), (1, 0), (1, 0), (1, 0), (1, 0)]) rfl ?_
                    exact vjp_L_law_584 hl0 hsc (by intros; exact hK53 _ _ _ _ _ _ (by assumption)) _ _ _ _ _ _ h
      · replace h := h.2 c217
        refine pv_aload_n (n := 432) d_L_law_431 rfl rfl rfl ?_
        refine pv_iload (n := 434) d_L_law_432 rfl rfl ?_
        refine pv_callV (n := 437) (x := 0) [(0, v209)] [] (con_X_disputed hl0 h) pw_cf7 rfl q_560 q_561 q_562 q_62 q_559 pyo_X_disputed (by decide) rfl rfl (by decide) d_L_law_434 rfl (fun w253 r254 h _ => ?_) (fun _ _ h => h.elim)
        show pw_V l g cx_L_law Q X 437 [(3000, 0), (9, 0), (0, a2), (0, a3), (1, 0), (0, a5), (0, a6), (1, 0), (0, a8), (0, s0), (0, v198), (0, r201), (0, v203), (0, v205), (0, v207), (0, v209), (0, v213), (1, 0), (1, 0), (1, 0), (1, 0), (1, 0)] [(0, r254)] w253
        refine pv_istore (n := 439) (L' := [(3000, 0), (9, 0), (0, a2), (0, a3), (1, 0), (0, a5), (0, a6), (1, 0), (0, a8), (0, s0), (0, v198), (0, r201), (0, v203), (0, v205), (0, v207), (0, v209), (0, v213), (1, 0), (0, r254), (1, 0), (1, 0), (1, 0)]) d_L_law_437 (by decide) rfl rfl ?_
        refine pv_aload_n (n := 440) d_L_law_439 rfl rfl rfl ?_
        refine pv_iconst (v := 2) (n := 441) d_L_law_440 (by decide) rfl ?_
        refine pv_iload (n := 443) d_L_law_441 rfl rfl ?_
        refine pv_iload (n := 445) d_L_law_443 rfl rfl ?_
        refine pv_iload (n := 447) d_L_law_445 rfl rfl ?_
        refine pv_iconst (v := 0) (n := 448) d_L_law_447 (by decide) rfl ?_
        refine pv_callSH (n := 451) [(9, 0), (0, 2), (0, v198), (0, v209), (0, v213), (0, 0)] [] (con_L_on hl0 h) q_541 q_542 q_483 q_540 pyo_L_on (by decide) rfl rfl d_L_law_448 rfl (fun w255 r256 h _ => ?_) (fun _ _ h => h.elim)
        show pw_V l g cx_L_law Q X 451 [(3000, 0), (9, 0), (0, a2), (0, a3), (1, 0), (0, a5), (0, a6), (1, 0), (0, a8), (0, s0), (0, v198), (0, r201), (0, v203), (0, v205), (0, v207), (0, v209), (0, v213), (1, 0), (0, r254), (1, 0), (1, 0), (1, 0)] [(0, r256)] w255
        refine pv_istore (n := 453) (L' := [(3000, 0), (9, 0), (0, a2), (0, a3), (1, 0), (0, a5), (0, a6), (1, 0), (0, a8), (0, s0), (0, v198), (0, r201), (0, v203), (0, v205), (0, v207), (0, v209), (0, v213), (0, r256), (0, r254), (1, 0), (1, 0), (1, 0)]) d_L_law_451 (by decide) rfl rfl ?_
        refine pv_iload (n := 455) d_L_law_453 rfl rfl ?_
        refine pv_bipush (v := -13) (n := 457) d_L_law_455 (by decide) rfl ?_
        refine pv_icmp_ne (n := 460) (tgt := 479) d_L_law_457 (by decide) rfl (fun c257 => ?_) (fun c257 => ?_)
        · replace h := h.1 c257
          refine pv_iload (n := 481) d_L_law_479 rfl rfl ?_
          refine pv_if_le (n := 484) (tgt := 515) d_L_law_481 (by decide) rfl (fun c258 => ?_) (fun c258 => ?_)
          · replace h := h.1 c258
            refine pv_unset (i := 8) (L1 := [(3000, 0), (9, 0), (0, a2), (0, a3), (1, 0), (0, a5), (0, a6), (1, 0), (1, 0), (0, s0), (0, v198), (0, r201), (0, v203), (0, v205), (0, v207), (0, v209), (0, v213), (0, r256), (0, r254), (1, 0), (1, 0), (1, 0)]) rfl ?_
            refine pv_unset (i := 10) (L1 := [(3000, 0), (9, 0), (0, a2), (0, a3), (1, 0), (0, a5), (0, a6), (1, 0), (1, 0), (0, s0), (1, 0), (0, r201), (0, v203), (0, v205), (0, v207), (0, v209), (0, v213), (0, r256), (0, r254), (1, 0), (1, 0), (1, 0)]) rfl ?_
            refine pv_unset (i := 11) (L1 := [(3000, 0), (9, 0), (0, a2), (0, a3), (1, 0), (0, a5), (0, a6), (1, 0), (1, 0), (0, s0), (1, 0), (1, 0), (0, v203), (0, v205), (0, v207), (0, v209), (0, v213), (0, r256), (0, r254), (1, 0), (1, 0), (1, 0)]) rfl ?_
            refine pv_unset (i := 12) (L1 := [(3000, 0), (9, 0), (0, a2), (0, a3), (1, 0), (0, a5), (0, a6), (1, 0), (1, 0), (0, s0), (1, 0), (1, 0), (1, 0), (0, v205), (0, v207), (0, v209), (0, v213), (0, r256), (0, r254), (1, 0), (1, 0), (1, 0)]) rfl ?_
            refine pv_unset (i := 13) (L1 := [(3000, 0), (9, 0), (0, a2), (0, a3), (1, 0), (0, a5), (0, a6), (1, 0), (1, 0), (0, s0), (1, 0), (1, 0), (1, 0), (1, 0), (0, v207), (0, v209), (0, v213), (0, r256), (0, r254), (1, 0), (1, 0), (1, 0)]) rfl ?_
            refine pv_unset (i := 14) (L1 := [(3000, 0), (9, 0), (0, a2), (0, a3), (1, 0), (0, a5), (0, a6), (1, 0), (1, 0), (0, s0), (1, 0), (1, 0), (1, 0), (1, 0), (1, 0), (0, v209), (0, v213), (0, r256), (0, r254), (1, 0), (1, 0), (1, 0)]) rfl ?_
            refine pv_unset (i := 15) (L1 := [(3000, 0), (9, 0), (0, a2), (0, a3), (1, 0), (0, a5), (0, a6), (1, 0), (1, 0), (0, s0), (1, 0), (1, 0), (1, 0), (1, 0), (1, 0), (1, 0), (0, v213), (0, r256), (0, r254), (1, 0), (1, 0), (1, 0)]) rfl ?_
            refine pv_unset (i := 16) (L1 := [(3000, 0), (9, 0), (0, a2), (0, a3), (1, 0), (0, a5), (0, a6), (1, 0), (1, 0), (0, s0), (1, 0), (1, 0), (1, 0), (1, 0), (1, 0), (1, 0), (1, 0), (0, r256), (0, r254), (1, 0), (1, 0), (1, 0)]) rfl ?_
            refine pv_unset (i := 17) (L1 := [(3000, 0), (9, 0), (0, a2), (0, a3), (1, 0), (0, a5), (0, a6), (1, 0), (1, 0), (0, s0), (1, 0), (1, 0), (1, 0), (1, 0), (1, 0), (1, 0), (1, 0), (1, 0), (0, r254), (1, 0), (1, 0), (1, 0)]) rfl ?_
            refine pv_unset (i := 18) (L1 := [(3000, 0), (9, 0), (0, a2), (0, a3), (1, 0), (0, a5), (0, a6), (1, 0), (1, 0), (0, s0), (1, 0), (1, 0), (1, 0), (1, 0), (1, 0), (1, 0), (1, 0), (1, 0), (1, 0), (1, 0), (1, 0), (1, 0)]) rfl ?_
            exact vjp_L_law_515 hl0 hsc (by intros; exact hK53 _ _ _ _ _ _ (by assumption)) _ _ _ _ _ _ h
          · replace h := h.2 c258
            refine pv_iload (n := 486) d_L_law_484 rfl rfl ?_
            refine pv_bipush (v := 12) (n := 488) d_L_law_486 (by decide) rfl ?_
            refine pv_icmp_gt (n := 491) (tgt := 515) d_L_law_488 (by decide) rfl (fun c259 => ?_) (fun c259 => ?_)
            · replace h := h.1 c259
              refine pv_unset (i := 8) (L1 := [(3000, 0), (9, 0), (0, a2), (0, a3), (1, 0), (0, a5), (0, a6), (1, 0), (1, 0), (0, s0), (0, v198), (0, r201), (0, v203), (0, v205), (0, v207), (0, v209), (0, v213), (0, r256), (0, r254), (1, 0), (1, 0), (1, 0)]) rfl ?_
              refine pv_unset (i := 10) (L1 := [(3000, 0), (9, 0), (0, a2), (0, a3), (1, 0), (0, a5), (0, a6), (1, 0), (1, 0), (0, s0), (1, 0), (0, r201), (0, v203), (0, v205), (0, v207), (0, v209), (0, v213), (0, r256), (0, r254), (1, 0), (1, 0), (1, 0)]) rfl ?_
              refine pv_unset (i := 11) (L1 := [(3000, 0), (9, 0), (0, a2), (0, a3), (1, 0), (0, a5), (0, a6), (1, 0), (1, 0), (0, s0), (1, 0), (1, 0), (0, v203), (0, v205), (0, v207), (0, v209), (0, v213), (0, r256), (0, r254), (1, 0), (1, 0), (1, 0)]) rfl ?_
              refine pv_unset (i := 12) (L1 := [(3000, 0), (9, 0), (0, a2), (0, a3), (1, 0), (0, a5), (0, a6), (1, 0), (1, 0), (0, s0), (1, 0), (1, 0), (1, 0), (0, v205), (0, v207), (0, v209), (0, v213), (0, r256), (0, r254), (1, 0), (1, 0), (1, 0)]) rfl ?_
              refine pv_unset (i := 13) (L1 := [(3000, 0), (9, 0), (0, a2), (0, a3), (1, 0), (0, a5), (0, a6), (1, 0), (1, 0), (0, s0), (1, 0), (1, 0), (1, 0), (1, 0), (0, v207), (0, v209), (0, v213), (0, r256), (0, r254), (1, 0), (1, 0), (1, 0)]) rfl ?_
              refine pv_unset (i := 14) (L1 := [(3000, 0), (9, 0), (0, a2), (0, a3), (1, 0), (0, a5), (0, a6), (1, 0), (1, 0), (0, s0), (1, 0), (1, 0), (1, 0), (1, 0), (1, 0), (0, v209), (0, v213), (0, r256), (0, r254), (1, 0), (1, 0), (1, 0)]) rfl ?_
              refine pv_unset (i := 15) (L1 := [(3000, 0), (9, 0), (0, a2), (0, a3), (1, 0), (0, a5), (0, a6), (1, 0), (1, 0), (0, s0), (1, 0), (1, 0), (1, 0), (1, 0), (1, 0), (1, 0), (0, v213), (0, r256), (0, r254), (1, 0), (1, 0), (1, 0)]) rfl ?_
              refine pv_unset (i := 16) (L1 := [(3000, 0), (9, 0), (0, a2), (0, a3), (1, 0), (0, a5), (0, a6), (1, 0), (1, 0), (0, s0), (1, 0), (1, 0), (1, 0), (1, 0), (1, 0), (1, 0), (1, 0), (0, r256), (0, r254), (1, 0), (1, 0), (1, 0)]) rfl ?_
              refine pv_unset (i := 17) (L1 := [(3000, 0), (9, 0), (0, a2), (0, a3), (1, 0), (0, a5), (0, a6), (1, 0), (1, 0), (0, s0), (1, 0), (1, 0), (1, 0), (1, 0), (1, 0), (1, 0), (1, 0), (1, 0), (0, r254), (1, 0), (1, 0), (1, 0)]) rfl ?_
              refine pv_unset (i := 18) (L1 := [(3000, 0), (9, 0), (0, a2), (0, a3), (1, 0), (0, a5), (0, a6), (1, 0), (1, 0), (0, s0), (1, 0), (1, 0), (1, 0), (1, 0), (1, 0), (1, 0), (1, 0), (1, 0), (1, 0), (1, 0), (1, 0), (1, 0)]) rfl ?_
              exact vjp_L_law_515 hl0 hsc (by intros; exact hK53 _ _ _ _ _ _ (by assumption)) _ _ _ _ _ _ h
            · replace h := h.2 c259
              refine pv_aload_n (n := 492) d_L_law_491 rfl rfl rfl ?_
              refine pv_iload (n := 494) d_L_law_492 rfl rfl ?_
              refine pv_callV (n := 497) (x := 0) [(0, v209)] [] (con_X_disputed hl0 h) pw_cf7 rfl q_560 q_561 q_562 q_62 q_559 pyo_X_disputed (by decide) rfl rfl (by decide) d_L_law_494 rfl (fun w260 r261 h _ => ?_) (fun _ _ h => h.elim)
              show pw_V l g cx_L_law Q X 497 [(3000, 0), (9, 0), (0, a2), (0, a3), (1, 0), (0, a5), (0, a6), (1, 0), (0, a8), (0, s0), (0, v198), (0, r201), (0, v203), (0, v205), (0, v207), (0, v209), (0, v213), (0, r256), (0, r254), (1, 0), (1, 0), (1, 0)] [(0, r261)] w260
              refine pv_iload (n := 499) d_L_law_497 rfl rfl ?_
              refine pv_icmp_lt (n := 502) (tgt := 515) d_L_law_499 (by decide) rfl (fun c262 => ?_) (fun c262 => ?_)
              · replace h := h.1 c262
                refine pv_unset (i := 8) (L1 := [(3000, 0), (9, 0), (0, a2), (0, a3), (1, 0), (0, a5), (0, a6), (1, 0), (1, 0), (0, s0), (0, v198), (0, r201), (0, v203), (0, v205), (0, v207), (0, v209), (0, v213), (0, r256), (0, r254), (1, 0), (1, 0), (1, 0)]) rfl ?_
                refine pv_unset (i := 10) (L1 := [(3000, 0), (9, 0), (0, a2), (0, a3), (1, 0), (0, a5), (0, a6), (1, 0), (1, 0), (0, s0), (1, 0), (0, r201), (0, v203), (0, v205), (0, v207), (0, v209), (0, v213), (0, r256), (0, r254), (1, 0), (1, 0), (1, 0)]) rfl ?_
                refine pv_unset (i := 11) (L1 := [(3000, 0), (9, 0), (0, a2), (0, a3), (1, 0), (0, a5), (0, a6), (1, 0), (1, 0), (0, s0), (1, 0), (1, 0), (0, v203), (0, v205), (0, v207), (0, v209), (0, v213), (0, r256), (0, r254), (1, 0), (1, 0), (1, 0)]) rfl ?_
                refine pv_unset (i := 12) (L1 := [(3000, 0), (9, 0), (0, a2), (0, a3), (1, 0), (0, a5), (0, a6), (1, 0), (1, 0), (0, s0), (1, 0), (1, 0), (1, 0), (0, v205), (0, v207), (0, v209), (0, v213), (0, r256), (0, r254), (1, 0), (1, 0), (1, 0)]) rfl ?_
                refine pv_unset (i := 13) (L1 := [(3000, 0), (9, 0), (0, a2), (0, a3), (1, 0), (0, a5), (0, a6), (1, 0), (1, 0), (0, s0), (1, 0), (1, 0), (1, 0), (1, 0), (0, v207), (0, v209), (0, v213), (0, r256), (0, r254), (1, 0), (1, 0), (1, 0)]) rfl ?_
                refine pv_unset (i := 14) (L1 := [(3000, 0), (9, 0), (0, a2), (0, a3), (1, 0), (0, a5), (0, a6), (1, 0), (1, 0), (0, s0), (1, 0), (1, 0), (1, 0), (1, 0), (1, 0), (0, v209), (0, v213), (0, r256), (0, r254), (1, 0), (1, 0), (1, 0)]) rfl ?_
                refine pv_unset (i := 15) (L1 := [(3000, 0), (9, 0), (0, a2), (0, a3), (1, 0), (0, a5), (0, a6), (1, 0), (1, 0), (0, s0), (1, 0), (1, 0), (1, 0), (1, 0), (1, 0), (1, 0), (0, v213), (0, r256), (0, r254), (1, 0), (1, 0), (1, 0)]) rfl ?_
                refine pv_unset (i := 16) (L1 := [(3000, 0), (9, 0), (0, a2), (0, a3), (1, 0), (0, a5), (0, a6), (1, 0), (1, 0), (0, s0), (1, 0), (1, 0), (1, 0), (1, 0), (1, 0), (1, 0), (1, 0), (0, r256), (0, r254), (1, 0), (1, 0), (1, 0)]) rfl ?_
                refine pv_unset (i := 17) (L1 := [(3000, 0), (9, 0), (0, a2), (0, a3), (1, 0), (0, a5), (0, a6), (1, 0), (1, 0), (0, s0), (1, 0), (1, 0), (1, 0), (1, 0), (1, 0), (1, 0), (1, 0), (1, 0), (0, r254), (1, 0), (1, 0), (1, 0)]) rfl ?_
                refine pv_unset (i := 18) (L1 := [(3000, 0), (9, 0), (0, a2), (0, a3), (1, 0), (0, a5), (0, a6), (1, 0), (1, 0), (0, s0), (1, 0), (1, 0), (1, 0), (1, 0), (1, 0), (1, 0), (1, 0), (1, 0), (1, 0), (1, 0), (1, 0), (1, 0)]) rfl ?_
                exact vjp_L_law_515 hl0 hsc (by intros; exact hK53 _ _ _ _ _ _ (by assumption)) _ _ _ _ _ _ h
              · replace h := h.2 c262
                refine pv_aload_n (n := 503) d_L_law_502 rfl rfl rfl ?_
                refine pv_iload (n := 505) d_L_law_503 rfl rfl ?_
                refine pv_callV (n := 508) (x := 0) [(0, v209)] [] (con_X_disputed hl0 h) pw_cf7 rfl q_560 q_561 q_562 q_62 q_559 pyo_X_disputed (by decide) rfl rfl (by decide) d_L_law_505 rfl (fun w263 r264 h _ => ?_) (fun _ _ h => h.elim)
                show pw_V l g cx_L_law Q X 508 [(3000, 0), (9, 0), (0, a2), (0, a3), (1, 0), (0, a5), (0, a6), (1, 0), (0, a8), (0, s0), (0, v198), (0, r201), (0, v203), (0, v205), (0, v207), (0, v209), (0, v213), (0, r256), (0, r254), (1, 0), (1, 0), (1, 0)] [(0, r264)] w263
                refine pv_if_le (n := 511) (tgt := 515) d_L_law_508 (by decide) rfl (fun c265 => ?_) (fun c265 => ?_)
                · replace h := h.1 c265
                  refine pv_unset (i := 8) (L1 := [(3000, 0), (9, 0), (0, a2), (0, a3), (1, 0), (0, a5), (0, a6), (1, 0), (1, 0), (0, s0), (0, v198), (0, r201), (0, v203), (0, v205), (0, v207), (0, v209), (0, v213), (0, r256), (0, r254), (1, 0), (1, 0), (1, 0)]) rfl ?_
                  refine pv_unset (i := 10) (L1 := [(3000, 0), (9, 0), (0, a2), (0, a3), (1, 0), (0, a5), (0, a6), (1, 0), (1, 0), (0, s0), (1, 0), (0, r201), (0, v203), (0, v205), (0, v207), (0, v209), (0, v213), (0, r256), (0, r254), (1, 0), (1, 0), (1, 0)]) rfl ?_
                  refine pv_unset (i := 11) (L1 := [(3000, 0), (9, 0), (0, a2), (0, a3), (1, 0), (0, a5), (0, a6), (1, 0), (1, 0), (0, s0), (1, 0), (1, 0), (0, v203), (0, v205), (0, v207), (0, v209), (0, v213), (0, r256), (0, r254), (1, 0), (1, 0), (1, 0)]) rfl ?_
                  refine pv_unset (i := 12) (L1 := [(3000, 0), (9, 0), (0, a2), (0, a3), (1, 0), (0, a5), (0, a6), (1, 0), (1, 0), (0, s0), (1, 0), (1, 0), (1, 0), (0, v205), (0, v207), (0, v209), (0, v213), (0, r256), (0, r254), (1, 0), (1, 0), (1, 0)]) rfl ?_
                  refine pv_unset (i := 13) (L1 := [(3000, 0), (9, 0), (0, a2), (0, a3), (1, 0), (0, a5), (0, a6), (1, 0), (1, 0), (0, s0), (1, 0), (1, 0), (1, 0), (1, 0), (0, v207), (0, v209), (0, v213), (0, r256), (0, r254), (1, 0), (1, 0), (1, 0)]) rfl ?_
                  refine pv_unset (i := 14) (L1 := [(3000, 0), (9, 0), (0, a2), (0, a3), (1, 0), (0, a5), (0, a6), (1, 0), (1, 0), (0, s0), (1, 0), (1, 0), (1, 0), (1, 0), (1, 0), (0, v209), (0, v213), (0, r256), (0, r254), (1, 0), (1, 0), (1, 0)]) rfl ?_
                  refine pv_unset (i := 15) (L1 := [(3000, 0), (9, 0), (0, a2), (0, a3), (1, 0), (0, a5), (0, a6), (1, 0), (1, 0), (0, s0), (1, 0), (1, 0), (1, 0), (1, 0), (1, 0), (1, 0), (0, v213), (0, r256), (0, r254), (1, 0), (1, 0), (1, 0)]) rfl ?_
                  refine pv_unset (i := 16) (L1 := [(3000, 0), (9, 0), (0, a2), (0, a3), (1, 0), (0, a5), (0, a6), (1, 0), (1, 0), (0, s0), (1, 0), (1, 0), (1, 0), (1, 0), (1, 0), (1, 0), (1, 0), (0, r256), (0, r254), (1, 0), (1, 0), (1, 0)]) rfl ?_
                  refine pv_unset (i := 17) (L1 := [(3000, 0), (9, 0), (0, a2), (0, a3), (1, 0), (0, a5), (0, a6), (1, 0), (1, 0), (0, s0), (1, 0), (1, 0), (1, 0), (1, 0), (1, 0), (1, 0), (1, 0), (1, 0), (0, r254), (1, 0), (1, 0), (1, 0)]) rfl ?_
                  refine pv_unset (i := 18) (L1 := [(3000, 0), (9, 0), (0, a2), (0, a3), (1, 0), (0, a5), (0, a6), (1, 0), (1, 0), (0, s0), (1, 0), (1, 0), (1, 0), (1, 0), (1, 0), (1, 0), (1, 0), (1, 0), (1, 0), (1, 0), (1, 0), (1, 0)]) rfl ?_
                  exact vjp_L_law_515 hl0 hsc (by intros; exact hK53 _ _ _ _ _ _ (by assumption)) _ _ _ _ _ _ h
                · replace h := h.2 c265
                  refine pv_iconst (v := 1) (n := 512) d_L_law_511 (by decide) rfl ?_
                  refine pv_goto (tgt := 516) d_L_law_512 (by decide) ?_
                  refine pv_unset (i := 8) (L1 := [(3000, 0), (9, 0), (0, a2), (0, a3), (1, 0), (0, a5), (0, a6), (1, 0), (1, 0), (0, s0), (0, v198), (0, r201), (0, v203), (0, v205), (0, v207), (0, v209), (0, v213), (0, r256), (0, r254), (1, 0), (1, 0), (1, 0)]) rfl ?_
                  refine pv_unset (i := 10) (L1 := [(3000, 0), (9, 0), (0, a2), (0, a3), (1, 0), (0, a5), (0, a6), (1, 0), (1, 0), (0, s0), (1, 0), (0, r201), (0, v203), (0, v205), (0, v207), (0, v209), (0, v213), (0, r256), (0, r254), (1, 0), (1, 0), (1, 0)]) rfl ?_
                  refine pv_unset (i := 11) (L1 := [(3000, 0), (9, 0), (0, a2), (0, a3), (1, 0), (0, a5), (0, a6), (1, 0), (1, 0), (0, s0), (1, 0), (1, 0), (0, v203), (0, v205), (0, v207), (0, v209), (0, v213), (0, r256), (0, r254), (1, 0), (1, 0), (1, 0)]) rfl ?_
                  refine pv_unset (i := 12) (L1 := [(3000, 0), (9, 0), (0, a2), (0, a3), (1, 0), (0, a5), (0, a6), (1, 0), (1, 0), (0, s0), (1, 0), (1, 0), (1, 0), (0, v205), (0, v207), (0, v209), (0, v213), (0, r256), (0, r254), (1, 0), (1, 0), (1, 0)]) rfl ?_
                  refine pv_unset (i := 13) (L1 := [(3000, 0), (9, 0), (0, a2), (0, a3), (1, 0), (0, a5), (0, a6), (1, 0), (1, 0), (0, s0), (1, 0), (1, 0), (1, 0), (1, 0), (0, v207), (0, v209), (0, v213), (0, r256), (0, r254), (1, 0), (1, 0), (1, 0)]) rfl ?_
                  refine pv_unset (i := 14) (L1 := [(3000, 0), (9, 0), (0, a2), (0, a3), (1, 0), (0, a5), (0, a6), (1, 0), (1, 0), (0, s0), (1, 0), (1, 0), (1, 0), (1, 0), (1, 0), (0, v209), (0, v213), (0, r256), (0, r254), (1, 0), (1, 0), (1, 0)]) rfl ?_
                  refine pv_unset (i := 15) (L1 := [(3000, 0), (9, 0), (0, a2), (0, a3), (1, 0), (0, a5), (0, a6), (1, 0), (1, 0), (0, s0), (1, 0), (1, 0), (1, 0), (1, 0), (1, 0), (1, 0), (0, v213), (0, r256), (0, r254), (1, 0), (1, 0), (1, 0)]) rfl ?_
                  refine pv_unset (i := 16) (L1 := [(3000, 0), (9, 0), (0, a2), (0, a3), (1, 0), (0, a5), (0, a6), (1, 0), (1, 0), (0, s0), (1, 0), (1, 0), (1, 0), (1, 0), (1, 0), (1, 0), (1, 0), (0, r256), (0, r254), (1, 0), (1, 0), (1, 0)]) rfl ?_
                  refine pv_unset (i := 17) (L1 := [(3000, 0), (9, 0), (0, a2), (0, a3), (1, 0), (0, a5), (0, a6), (1, 0), (1, 0), (0, s0), (1, 0), (1, 0), (1, 0), (1, 0), (1, 0), (1, 0), (1, 0), (1, 0), (0, r254), (1, 0), (1, 0), (1, 0)]) rfl ?_
                  refine pv_unset (i := 18) (L1 := [(3000, 0), (9, 0), (0, a2), (0, a3), (1, 0), (0, a5), (0, a6), (1, 0), (1, 0), (0, s0), (1, 0), (1, 0), (1, 0), (1, 0), (1, 0), (1, 0), (1, 0), (1, 0), (1, 0), (1, 0), (1, 0), (1, 0)]) rfl ?_
                  exact vjp_L_law_516 hl0 hsc (by intros; exact hK53 _ _ _ _ _ _ (by assumption)) _ _ _ _ _ _ _ h
        · replace h := h.2 c257
          refine pv_aload_n (n := 461) d_L_law_460 rfl rfl rfl ?_
          refine pv_iload (n := 463) d_L_law_461 rfl rfl ?_
          refine pv_callV (n := 466) (x := 0) [(0, v209)] [] (con_X_disputed hl0 h) pw_cf7 rfl q_560 q_561 q_562 q_62 q_559 pyo_X_disputed (by decide) rfl rfl (by decide) d_L_law_463 rfl (fun w266 r267 h _ => ?_) (fun _ _ h => h.elim)
          show pw_V l g cx_L_law Q X 466 [(3000, 0), (9, 0), (0, a2), (0, a3), (1, 0), (0, a5), (0, a6), (1, 0), (0, a8), (0, s0), (0, v198), (0, r201), (0, v203), (0, v205), (0, v207), (0, v209), (0, v213), (0, r256), (0, r254), (1, 0), (1, 0), (1, 0)] [(0, r267)] w266
          refine pv_iload (n := 468) d_L_law_466 rfl rfl ?_
          refine pv_icmp_ne (n := 471) (tgt := 475) d_L_law_468 (by decide) rfl (fun c268 => ?_) (fun c268 => ?_)
          · replace h := h.1 c268
            refine pv_iconst (v := 0) (n := 476) d_L_law_475 (by decide) rfl ?_
            refine pv_goto (tgt := 516) d_L_law_476 (by decide) ?_
            refine pv_unset (i := 8) (L1 := [(3000, 0), (9, 0), (0, a2), (0, a3), (1, 0), (0, a5), (0, a6), (1, 0), (1, 0), (0, s0), (0, v198), (0, r201), (0, v203), (0, v205), (0, v207), (0, v209), (0, v213), (0, r256), (0, r254), (1, 0), (1, 0), (1, 0)]) rfl ?_
            refine pv_unset (i := 10) (L1 := [(3000, 0), (9, 0), (0, a2), (0, a3), (1, 0), (0, a5), (0, a6), (1, 0), (1, 0), (0, s0), (1, 0), (0, r201), (0, v203), (0, v205), (0, v207), (0, v209), (0, v213), (0, r256), (0, r254), (1, 0), (1, 0), (1, 0)]) rfl ?_
            refine pv_unset (i := 11) (L1 := [(3000, 0), (9, 0), (0, a2), (0, a3), (1, 0), (0, a5), (0, a6), (1, 0), (1, 0), (0, s0), (1, 0), (1, 0), (0, v203), (0, v205), (0, v207), (0, v209), (0, v213), (0, r256), (0, r254), (1, 0), (1, 0), (1, 0)]) rfl ?_
            refine pv_unset (i := 12) (L1 := [(3000, 0), (9, 0), (0, a2), (0, a3), (1, 0), (0, a5), (0, a6), (1, 0), (1, 0), (0, s0), (1, 0), (1, 0), (1, 0), (0, v205), (0, v207), (0, v209), (0, v213), (0, r256), (0, r254), (1, 0), (1, 0), (1, 0)]) rfl ?_
            refine pv_unset (i := 13) (L1 := [(3000, 0), (9, 0), (0, a2), (0, a3), (1, 0), (0, a5), (0, a6), (1, 0), (1, 0), (0, s0), (1, 0), (1, 0), (1, 0), (1, 0), (0, v207), (0, v209), (0, v213), (0, r256), (0, r254), (1, 0), (1, 0), (1, 0)]) rfl ?_
            refine pv_unset (i := 14) (L1 := [(3000, 0), (9, 0), (0, a2), (0, a3), (1, 0), (0, a5), (0, a6), (1, 0), (1, 0), (0, s0), (1, 0), (1, 0), (1, 0), (1, 0), (1, 0), (0, v209), (0, v213), (0, r256), (0, r254), (1, 0), (1, 0), (1, 0)]) rfl ?_
            refine pv_unset (i := 15) (L1 := [(3000, 0), (9, 0), (0, a2), (0, a3), (1, 0), (0, a5), (0, a6), (1, 0), (1, 0), (0, s0), (1, 0), (1, 0), (1, 0), (1, 0), (1, 0), (1, 0), (0, v213), (0, r256), (0, r254), (1, 0), (1, 0), (1, 0)]) rfl ?_
            refine pv_unset (i := 16) (L1 := [(3000, 0), (9, 0), (0, a2), (0, a3), (1, 0), (0, a5), (0, a6), (1, 0), (1, 0), (0, s0), (1, 0), (1, 0), (1, 0), (1, 0), (1, 0), (1, 0), (1, 0), (0, r256), (0, r254), (1, 0), (1, 0), (1, 0)]) rfl ?_
            refine pv_unset (i := 17) (L1 := [(3000, 0), (9, 0), (0, a2), (0, a3), (1, 0), (0, a5), (0, a6), (1, 0), (1, 0), (0, s0), (1, 0), (1, 0), (1, 0), (1, 0), (1, 0), (1, 0), (1, 0), (1, 0), (0, r254), (1, 0), (1, 0), (1, 0)]) rfl ?_
            refine pv_unset (i := 18) (L1 := [(3000, 0), (9, 0), (0, a2), (0, a3), (1, 0), (0, a5), (0, a6), (1, 0), (1, 0), (0, s0), (1, 0), (1, 0), (1, 0), (1, 0), (1, 0), (1, 0), (1, 0), (1, 0), (1, 0), (1, 0), (1, 0), (1, 0)]) rfl ?_
            exact vjp_L_law_516 hl0 hsc (by intros; exact hK53 _ _ _ _ _ _ (by assumption)) _ _ _ _ _ _ _ h
          · replace h := h.2 c268
            refine pv_iconst (v := 1) (n := 472) d_L_law_471 (by decide) rfl ?_
            refine pv_goto (tgt := 516) d_L_law_472 (by decide) ?_
            refine pv_unset (i := 8) (L1 := [(3000, 0), (9, 0), (0, a2), (0, a3), (1, 0), (0, a5), (0, a6), (1, 0), (1, 0), (0, s0), (0, v198), (0, r201), (0, v203), (0, v205), (0, v207), (0, v209), (0, v213), (0, r256), (0, r254), (1, 0), (1, 0), (1, 0)]) rfl ?_
            refine pv_unset (i := 10) (L1 := [(3000, 0), (9, 0), (0, a2), (0, a3), (1, 0), (0, a5), (0, a6), (1, 0), (1, 0), (0, s0), (1, 0), (0, r201), (0, v203), (0, v205), (0, v207), (0, v209), (0, v213), (0, r256), (0, r254), (1, 0), (1, 0), (1, 0)]) rfl ?_
            refine pv_unset (i := 11) (L1 := [(3000, 0), (9, 0), (0, a2), (0, a3), (1, 0), (0, a5), (0, a6), (1, 0), (1, 0), (0, s0), (1, 0), (1, 0), (0, v203), (0, v205), (0, v207), (0, v209), (0, v213), (0, r256), (0, r254), (1, 0), (1, 0), (1, 0)]) rfl ?_
            refine pv_unset (i := 12) (L1 := [(3000, 0), (9, 0), (0, a2), (0, a3), (1, 0), (0, a5), (0, a6), (1, 0), (1, 0), (0, s0), (1, 0), (1, 0), (1, 0), (0, v205), (0, v207), (0, v209), (0, v213), (0, r256), (0, r254), (1, 0), (1, 0), (1, 0)]) rfl ?_
            refine pv_unset (i := 13) (L1 := [(3000, 0), (9, 0), (0, a2), (0, a3), (1, 0), (0, a5), (0, a6), (1, 0), (1, 0), (0, s0), (1, 0), (1, 0), (1, 0), (1, 0), (0, v207), (0, v209), (0, v213), (0, r256), (0, r254), (1, 0), (1, 0), (1, 0)]) rfl ?_
            refine pv_unset (i := 14) (L1 := [(3000, 0), (9, 0), (0, a2), (0, a3), (1, 0), (0, a5), (0, a6), (1, 0), (1, 0), (0, s0), (1, 0), (1, 0), (1, 0), (1, 0), (1, 0), (0, v209), (0, v213), (0, r256), (0, r254), (1, 0), (1, 0), (1, 0)]) rfl ?_
            refine pv_unset (i := 15) (L1 := [(3000, 0), (9, 0), (0, a2), (0, a3), (1, 0), (0, a5), (0, a6), (1, 0), (1, 0), (0, s0), (1, 0), (1, 0), (1, 0), (1, 0), (1, 0), (1, 0), (0, v213), (0, r256), (0, r254), (1, 0), (1, 0), (1, 0)]) rfl ?_
            refine pv_unset (i := 16) (L1 := [(3000, 0), (9, 0), (0, a2), (0, a3), (1, 0), (0, a5), (0, a6), (1, 0), (1, 0), (0, s0), (1, 0), (1, 0), (1, 0), (1, 0), (1, 0), (1, 0), (1, 0), (0, r256), (0, r254), (1, 0), (1, 0), (1, 0)]) rfl ?_
            refine pv_unset (i := 17) (L1 := [(3000, 0), (9, 0), (0, a2), (0, a3), (1, 0), (0, a5), (0, a6), (1, 0), (1, 0), (0, s0), (1, 0), (1, 0), (1, 0), (1, 0), (1, 0), (1, 0), (1, 0), (1, 0), (0, r254), (1, 0), (1, 0), (1, 0)]) rfl ?_
            refine pv_unset (i := 18) (L1 := [(3000, 0), (9, 0), (0, a2), (0, a3), (1, 0), (0, a5), (0, a6), (1, 0), (1, 0), (0, s0), (1, 0), (1, 0), (1, 0), (1, 0), (1, 0), (1, 0), (1, 0), (1, 0), (1, 0), (1, 0), (1, 0), (1, 0)]) rfl ?_
            exact vjp_L_law_516 hl0 hsc (by intros; exact hK53 _ _ _ _ _ _ (by assumption)) _ _ _ _ _ _ _ h
    · replace h := h.2 c216
      refine pv_iload (n := 328) d_L_law_326 rfl rfl ?_
      refine pv_bipush (v := 20) (n := 330) d_L_law_328 (by decide) rfl ?_
      refine pv_ishr (n := 331) d_L_law_330 rfl ?_
      refine pv_iload (n := 333) d_L_law_331 rfl rfl ?_
      obtain ⟨g269, h⟩ := h
      refine pv_irem (n := 334) d_L_law_333 g269 rfl ?_
      refine pv_nm (fun v270 e271 => ?_)
      replace h := h v270 e271
      refine pv_istore (n := 336) (L' := [(3000, 0), (9, 0), (0, a2), (0, a3), (1, 0), (0, a5), (0, a6), (1, 0), (0, a8), (0, s0), (0, v198), (0, r201), (0, v203), (0, v205), (0, v207), (0, v209), (0, v213), (1, 0), (0, v270), (1, 0), (1, 0), (1, 0)]) d_L_law_334 (by decide) rfl rfl ?_
      refine pv_aload_n (n := 337) d_L_law_336 rfl rfl rfl ?_
      refine pv_iload (n := 339) d_L_law_337 rfl rfl ?_
      refine pv_callV (n := 342) (x := 0) [(0, v203)] [] (con_X_area hl0 h) pw_cf7 rfl q_497 q_498 q_499 q_62 q_496 pyo_X_area (by decide) rfl rfl (by decide) d_L_law_339 rfl (fun w272 r273 h _ => ?_) (fun _ _ h => h.elim)
      show pw_V l g cx_L_law Q X 342 [(3000, 0), (9, 0), (0, a2), (0, a3), (1, 0), (0, a5), (0, a6), (1, 0), (0, a8), (0, s0), (0, v198), (0, r201), (0, v203), (0, v205), (0, v207), (0, v209), (0, v213), (1, 0), (0, v270), (1, 0), (1, 0), (1, 0)] [(0, r273)] w272
      refine pv_aload_n (n := 343) d_L_law_342 rfl rfl rfl ?_
      refine pv_iload (n := 345) d_L_law_343 rfl rfl ?_
      refine pv_callV (n := 348) (x := 0) [(0, v270)] [(0, r273)] (con_X_area hl0 h) pw_cf7 rfl q_497 q_498 q_499 q_62 q_496 pyo_X_area (by decide) rfl rfl (by decide) d_L_law_345 rfl (fun w274 r275 h _ => ?_) (fun _ _ h => h.elim)
      show pw_V l g cx_L_law Q X 348 [(3000, 0), (9, 0), (0, a2), (0, a3), (1, 0), (0, a5), (0, a6), (1, 0), (0, a8), (0, s0), (0, v198), (0, r201), (0, v203), (0, v205), (0, v207), (0, v209), (0, v213), (1, 0), (0, v270), (1, 0), (1, 0), (1, 0)] [(0, r275), (0, r273)] w274
      refine pv_iadd (n := 349) d_L_law_348 rfl ?_
      refine pv_nm (fun v276 e277 => ?_)
      replace h := h v276 e277
      refine pv_istore (n := 351) (L' := [(3000, 0), (9, 0), (0, a2), (0, a3), (1, 0), (0, a5), (0, a6), (1, 0), (0, a8), (0, s0), (0, v198), (0, r201), (0, v203), (0, v205), (0, v207), (0, v209), (0, v213), (1, 0), (0, v270), (0, v276), (1, 0), (1, 0)]) d_L_law_349 (by decide) rfl rfl ?_
      refine pv_aload_n (n := 352) d_L_law_351 rfl rfl rfl ?_
      refine pv_iconst (v := 1) (n := 353) d_L_law_352 (by decide) rfl ?_
      refine pv_iload (n := 355) d_L_law_353 rfl rfl ?_
      refine pv_iload (n := 357) d_L_law_355 rfl rfl ?_
      refine pv_iconst (v := 0) (n := 358) d_L_law_357 (by decide) rfl ?_
      refine pv_iconst (v := 0) (n := 359) d_L_law_358 (by decide) rfl ?_
      refine pv_callSH (n := 362) [(9, 0), (0, 1), (0, v203), (0, v270), (0, 0), (0, 0)] [] (con_L_on hl0 h) q_541 q_542 q_483 q_540 pyo_L_on (by decide) rfl rfl d_L_law_359 rfl (fun w278 r279 h _ => ?_) (fun _ _ h => h.elim)
      show pw_V l g cx_L_law Q X 362 [(3000, 0), (9, 0), (0, a2), (0, a3), (1, 0), (0, a5), (0, a6), (1, 0), (0, a8), (0, s0), (0, v198), (0, r201), (0, v203), (0, v205), (0, v207), (0, v209), (0, v213), (1, 0), (0, v270), (0, v276), (1, 0), (1, 0)] [(0, r279)] w278
      refine pv_istore (n := 364) (L' := [(3000, 0), (9, 0), (0, a2), (0, a3), (1, 0), (0, a5), (0, a6), (1, 0), (0, a8), (0, s0), (0, v198), (0, r201), (0, v203), (0, v205), (0, v207), (0, v209), (0, v213), (0, r279), (0, v270), (0, v276), (1, 0), (1, 0)]) d_L_law_362 (by decide) rfl rfl ?_
      refine pv_iload (n := 366) d_L_law_364 rfl rfl ?_
      refine pv_bipush (v := -13) (n := 368) d_L_law_366 (by decide) rfl ?_
      refine pv_icmp_eq (n := 371) (tgt := 415) d_L_law_368 (by decide) rfl (fun c280 => ?_) (fun c280 => ?_)
      · replace h := h.1 c280
        refine pv_unset (i := 8) (L1 := [(3000, 0), (9, 0), (0, a2), (0, a3), (1, 0), (0, a5), (0, a6), (1, 0), (1, 0), (0, s0), (0, v198), (0, r201), (0, v203), (0, v205), (0, v207), (0, v209), (0, v213), (0, r279), (0, v270), (0, v276), (1, 0), (1, 0)]) rfl ?_
        refine pv_unset (i := 10) (L1 := [(3000, 0), (9, 0), (0, a2), (0, a3), (1, 0), (0, a5), (0, a6), (1, 0), (1, 0), (0, s0), (1, 0), (0, r201), (0, v203), (0, v205), (0, v207), (0, v209), (0, v213), (0, r279), (0, v270), (0, v276), (1, 0), (1, 0)]) rfl ?_
        refine pv_unset (i := 11) (L1 := [(3000, 0), (9, 0), (0, a2), (0, a3), (1, 0), (0, a5), (0, a6), (1, 0), (1, 0), (0, s0), (1, 0), (1, 0), (0, v203), (0, v205), (0, v207), (0, v209), (0, v213), (0, r279), (0, v270), (0, v276), (1, 0), (1, 0)]) rfl ?_
        refine pv_unset (i := 12) (L1 := [(3000, 0), (9, 0), (0, a2), (0, a3), (1, 0), (0, a5), (0, a6), (1, 0), (1, 0), (0, s0), (1, 0), (1, 0), (1, 0), (0, v205), (0, v207), (0, v209), (0, v213), (0, r279), (0, v270), (0, v276), (1, 0), (1, 0)]) rfl ?_
        refine pv_unset (i := 13) (L1 := [(3000, 0), (9, 0), (0, a2), (0, a3), (1, 0), (0, a5), (0, a6), (1, 0), (1, 0), (0, s0), (1, 0), (1, 0), (1, 0), (1, 0), (0, v207), (0, v209), (0, v213), (0, r279), (0, v270), (0, v276), (1, 0), (1, 0)]) rfl ?_
        refine pv_unset (i := 14) (L1 := [(3000, 0), (9, 0), (0, a2), (0, a3), (1, 0), (0, a5), (0, a6), (1, 0), (1, 0), (0, s0), (1, 0), (1, 0), (1, 0), (1, 0), (1, 0), (0, v209), (0, v213), (0, r279), (0, v270), (0, v276), (1, 0), (1, 0)]) rfl ?_
        refine pv_unset (i := 15) (L1 := [(3000, 0), (9, 0), (0, a2), (0, a3), (1, 0), (0, a5), (0, a6), (1, 0), (1, 0), (0, s0), (1, 0), (1, 0), (1, 0), (1, 0), (1, 0), (1, 0), (0, v213), (0, r279), (0, v270), (0, v276), (1, 0), (1, 0)]) rfl ?_
        refine pv_unset (i := 16) (L1 := [(3000, 0), (9, 0), (0, a2), (0, a3), (1, 0), (0, a5), (0, a6), (1, 0), (1, 0), (0, s0), (1, 0), (1, 0), (1, 0), (1, 0), (1, 0), (1, 0), (1, 0), (0, r279), (0, v270), (0, v276), (1, 0), (1, 0)]) rfl ?_
        refine pv_unset (i := 17) (L1 := [(3000, 0), (9, 0), (0, a2), (0, a3), (1, 0), (0, a5), (0, a6), (1, 0), (1, 0), (0, s0), (1, 0), (1, 0), (1, 0), (1, 0), (1, 0), (1, 0), (1, 0), (1, 0), (0, v270), (0, v276), (1, 0), (1, 0)]) rfl ?_
        refine pv_unset (i := 18) (L1 := [(3000, 0), (9, 0), (0, a2), (0, a3), (1, 0), (0, a5), (0, a6), (1, 0), (1, 0), (0, s0), (1, 0), (1, 0), (1, 0), (1, 0), (1, 0), (1, 0), (1, 0), (1, 0), (1, 0), (0, v276), (1, 0), (1, 0)]) rfl ?_
        refine pv_unset (i := 19) (L1 := [(3000, 0), (9, 0), (0, a2), (0, a3), (1, 0), (0, a5), (0, a6), (1, 0), (1, 0), (0, s0), (1, 0), (1, 0), (1, 0), (1, 0), (1, 0), (1, 0), (1, 0), (1, 0), (1, 0), (1, 0), (1, 0), (1, 0)]) rfl ?_
        exact vjp_L_law_415 hl0 hsc (by intros; exact hK53 _ _ _ _ _ _ (by assumption)) _ _ _ _ _ _ h
      · replace h := h.2 c280
        refine pv_iload (n := 373) d_L_law_371 rfl rfl ?_
        refine pv_iload (n := 375) d_L_law_373 rfl rfl ?_
        refine pv_icmp_ne (n := 378) (tgt := 419) d_L_law_375 (by decide) rfl (fun c281 => ?_) (fun c281 => ?_)
        · replace h := h.1 c281
          refine pv_unset (i := 8) (L1 := [(3000, 0), (9, 0), (0, a2), (0, a3), (1, 0), (0, a5), (0, a6), (1, 0), (1, 0), (0, s0), (0, v198), (0, r201), (0, v203), (0, v205), (0, v207), (0, v209), (0, v213), (0, r279), (0, v270), (0, v276), (1, 0), (1, 0)]) rfl ?_
          refine pv_unset (i := 10) (L1 := [(3000, 0), (9, 0), (0, a2), (0, a3), (1, 0), (0, a5), (0, a6), (1, 0), (1, 0), (0, s0), (1, 0), (0, r201), (0, v203), (0, v205), (0, v207), (0, v209), (0, v213), (0, r279), (0, v270), (0, v276), (1, 0), (1, 0)]) rfl ?_
          refine pv_unset (i := 11) (L1 := [(3000, 0), (9, 0), (0, a2), (0, a3), (1, 0), (0, a5), (0, a6), (1, 0), (1, 0), (0, s0), (1, 0), (1, 0), (0, v203), (0, v205), (0, v207), (0, v209), (0, v213), (0, r279), (0, v270), (0, v276), (1, 0), (1, 0)]) rfl ?_
          refine pv_unset (i := 12) (L1 := [(3000, 0), (9, 0), (0, a2), (0, a3), (1, 0), (0, a5), (0, a6), (1, 0), (1, 0), (0, s0), (1, 0), (1, 0), (1, 0), (0, v205), (0, v207), (0, v209), (0, v213), (0, r279), (0, v270), (0, v276), (1, 0), (1, 0)]) rfl ?_
          refine pv_unset (i := 13) (L1 := [(3000, 0), (9, 0), (0, a2), (0, a3), (1, 0), (0, a5), (0, a6), (1, 0), (1, 0), (0, s0), (1, 0), (1, 0), (1, 0), (1, 0), (0, v207), (0, v209), (0, v213), (0, r279), (0, v270), (0, v276), (1, 0), (1, 0)]) rfl ?_
          refine pv_unset (i := 14) (L1 := [(3000, 0), (9, 0), (0, a2), (0, a3), (1, 0), (0, a5), (0, a6), (1, 0), (1, 0), (0, s0), (1, 0), (1, 0), (1, 0), (1, 0), (1, 0), (0, v209), (0, v213), (0, r279), (0, v270), (0, v276), (1, 0), (1, 0)]) rfl ?_
          refine pv_unset (i := 15) (L1 := [(3000, 0), (9, 0), (0, a2), (0, a3), (1, 0), (0, a5), (0, a6), (1, 0), (1, 0), (0, s0), (1, 0), (1, 0), (1, 0), (1, 0), (1, 0), (1, 0), (0, v213), (0, r279), (0, v270), (0, v276), (1, 0), (1, 0)]) rfl ?_
          refine pv_unset (i := 16) (L1 := [(3000, 0), (9, 0), (0, a2), (0, a3), (1, 0), (0, a5), (0, a6), (1, 0), (1, 0), (0, s0), (1, 0), (1, 0), (1, 0), (1, 0), (1, 0), (1, 0), (1, 0), (0, r279), (0, v270), (0, v276), (1, 0), (1, 0)]) rfl ?_
          refine pv_unset (i := 17) (L1 := [(3000, 0), (9, 0), (0, a2), (0, a3), (1, 0), (0, a5), (0, a6), (1, 0), (1, 0), (0, s0), (1, 0), (1, 0), (1, 0), (1, 0), (1, 0), (1, 0), (1, 0), (1, 0), (0, v270), (0, v276), (1, 0), (1, 0)]) rfl ?_
          refine pv_unset (i := 18) (L1 := [(3000, 0), (9, 0), (0, a2), (0, a3), (1, 0), (0, a5), (0, a6), (1, 0), (1, 0), (0, s0), (1, 0), (1, 0), (1, 0), (1, 0), (1, 0), (1, 0), (1, 0), (1, 0), (1, 0), (0, v276), (1, 0), (1, 0)]) rfl ?_
          refine pv_unset (i := 19) (L1 := [(3000, 0), (9, 0), (0, a2), (0, a3), (1, 0), (0, a5), (0, a6), (1, 0), (1, 0), (0, s0), (1, 0), (1, 0), (1, 0), (1, 0), (1, 0), (1, 0), (1, 0), (1, 0), (1, 0), (1, 0), (1, 0), (1, 0)]) rfl ?_
          exact vjp_L_law_419 hl0 hsc (by intros; exact hK53 _ _ _ _ _ _ (by assumption)) _ _ _ _ _ _ h
        · replace h := h.2 c281
          refine pv_aload_n (n := 379) d_L_law_378 rfl rfl rfl ?_
          refine pv_iload (n := 381) d_L_law_379 rfl rfl ?_
          refine pv_callV (n := 384) (x := 0) [(0, v203)] [] (con_X_area hl0 h) pw_cf7 rfl q_497 q_498 q_499 q_62 q_496 pyo_X_area (by decide) rfl rfl (by decide) d_L_law_381 rfl (fun w282 r283 h _ => ?_) (fun _ _ h => h.elim)
          show pw_V l g cx_L_law Q X 384 [(3000, 0), (9, 0), (0, a2), (0, a3), (1, 0), (0, a5), (0, a6), (1, 0), (0, a8), (0, s0), (0, v198), (0, r201), (0, v203), (0, v205), (0, v207), (0, v209), (0, v213), (0, r279), (0, v270), (0, v276), (1, 0), (1, 0)] [(0, r283)] w282
          refine pv_iload (n := 386) d_L_law_384 rfl rfl ?_
          refine pv_icmp_ne (n := 389) (tgt := 419) d_L_law_386 (by decide) rfl (fun c284 => ?_) (fun c284 => ?_)
          · replace h := h.1 c284
            refine pv_unset (i := 8) (L1 := [(3000, 0), (9, 0), (0, a2), (0, a3), (1, 0), (0, a5), (0, a6), (1, 0), (1, 0), (0, s0), (0, v198), (0, r201), (0, v203), (0, v205), (0, v207), (0, v209), (0, v213), (0, r279), (0, v270), (0, v276), (1, 0), (1, 0)]) rfl ?_
            refine pv_unset (i := 10) (L1 := [(3000, 0), (9, 0), (0, a2), (0, a3), (1, 0), (0, a5), (0, a6), (1, 0), (1, 0), (0, s0), (1, 0), (0, r201), (0, v203), (0, v205), (0, v207), (0, v209), (0, v213), (0, r279), (0, v270), (0, v276), (1, 0), (1, 0)]) rfl ?_
            refine pv_unset (i := 11) (L1 := [(3000, 0), (9, 0), (0, a2), (0, a3), (1, 0), (0, a5), (0, a6), (1, 0), (1, 0), (0, s0), (1, 0), (1, 0), (0, v203), (0, v205), (0, v207), (0, v209), (0, v213), (0, r279), (0, v270), (0, v276), (1, 0), (1, 0)]) rfl ?_
            refine pv_unset (i := 12) (L1 := [(3000, 0), (9, 0), (0, a2), (0, a3), (1, 0), (0, a5), (0, a6), (1, 0), (1, 0), (0, s0), (1, 0), (1, 0), (1, 0), (0, v205), (0, v207), (0, v209), (0, v213), (0, r279), (0, v270), (0, v276), (1, 0), (1, 0)]) rfl ?_
            refine pv_unset (i := 13) (L1 := [(3000, 0), (9, 0), (0, a2), (0, a3), (1, 0), (0, a5), (0, a6), (1, 0), (1, 0), (0, s0), (1, 0), (1, 0), (1, 0), (1, 0), (0, v207), (0, v209), (0, v213), (0, r279), (0, v270), (0, v276), (1, 0), (1, 0)]) rfl ?_
            refine pv_unset (i := 14) (L1 := [(3000, 0), (9, 0), (0, a2), (0, a3), (1, 0), (0, a5), (0, a6), (1, 0), (1, 0), (0, s0), (1, 0), (1, 0), (1, 0), (1, 0), (1, 0), (0, v209), (0, v213), (0, r279), (0, v270), (0, v276), (1, 0), (1, 0)]) rfl ?_
            refine pv_unset (i := 15) (L1 := [(3000, 0), (9, 0), (0, a2), (0, a3), (1, 0), (0, a5), (0, a6), (1, 0), (1, 0), (0, s0), (1, 0), (1, 0), (1, 0), (1, 0), (1, 0), (1, 0), (0, v213), (0, r279), (0, v270), (0, v276), (1, 0), (1, 0)]) rfl ?_
            refine pv_unset (i := 16) (L1 := [(3000, 0), (9, 0), (0, a2), (0, a3), (1, 0), (0, a5), (0, a6), (1, 0), (1, 0), (0, s0), (1, 0), (1, 0), (1, 0), (1, 0), (1, 0), (1, 0), (1, 0), (0, r279), (0, v270), (0, v276), (1, 0), (1, 0)]) rfl ?_
            refine pv_unset (i := 17) (L1 := [(3000, 0), (9, 0), (0, a2), (0, a3), (1, 0), (0, a5), (0, a6), (1, 0), (1, 0), (0, s0), (1, 0), (1, 0), (1, 0), (1, 0), (1, 0), (1, 0), (1, 0), (1, 0), (0, v270), (0, v276), (1, 0), (1, 0)]) rfl ?_
            refine pv_unset (i := 18) (L1 := [(3000, 0), (9, 0), (0, a2), (0, a3), (1, 0), (0, a5), (0, a6), (1, 0), (1, 0), (0, s0), (1, 0), (1, 0), (1, 0), (1, 0), (1, 0), (1, 0), (1, 0), (1, 0), (1, 0), (0, v276), (1, 0), (1, 0)]) rfl ?_
            refine pv_unset (i := 19) (L1 := [(3000, 0), (9, 0), (0, a2), (0, a3), (1, 0), (0, a5), (0, a6), (1, 0), (1, 0), (0, s0), (1, 0), (1, 0), (1, 0), (1, 0), (1, 0), (1, 0), (1, 0), (1, 0), (1, 0), (1, 0), (1, 0), (1, 0)]) rfl ?_
            exact vjp_L_law_419 hl0 hsc (by intros; exact hK53 _ _ _ _ _ _ (by assumption)) _ _ _ _ _ _ h
          · replace h := h.2 c284
            refine pv_aload_n (n := 390) d_L_law_389 rfl rfl rfl ?_
            refine pv_iload (n := 392) d_L_law_390 rfl rfl ?_
            refine pv_callV (n := 395) (x := 0) [(0, v270)] [] (con_X_area hl0 h) pw_cf7 rfl q_497 q_498 q_499 q_62 q_496 pyo_X_area (by decide) rfl rfl (by decide) d_L_law_392 rfl (fun w285 r286 h _ => ?_) (fun _ _ h => h.elim)
            show pw_V l g cx_L_law Q X 395 [(3000, 0), (9, 0), (0, a2), (0, a3), (1, 0), (0, a5), (0, a6), (1, 0), (0, a8), (0, s0), (0, v198), (0, r201), (0, v203), (0, v205), (0, v207), (0, v209), (0, v213), (0, r279), (0, v270), (0, v276), (1, 0), (1, 0)] [(0, r286)] w285
            refine pv_iload (n := 397) d_L_law_395 rfl rfl ?_
            refine pv_icmp_ne (n := 400) (tgt := 419) d_L_law_397 (by decide) rfl (fun c287 => ?_) (fun c287 => ?_)
            · replace h := h.1 c287
              refine pv_unset (i := 8) (L1 := [(3000, 0), (9, 0), (0, a2), (0, a3), (1, 0), (0, a5), (0, a6), (1, 0), (1, 0), (0, s0), (0, v198), (0, r201), (0, v203), (0, v205), (0, v207), (0, v209), (0, v213), (0, r279), (0, v270), (0, v276), (1, 0), (1, 0)]) rfl ?_
              refine pv_unset (i := 10) (L1 := [(3000, 0), (9, 0), (0, a2), (0, a3), (1, 0), (0, a5), (0, a6), (1, 0), (1, 0), (0, s0), (1, 0), (0, r201), (0, v203), (0, v205), (0, v207), (0, v209), (0, v213), (0, r279), (0, v270), (0, v276), (1, 0), (1, 0)]) rfl ?_
              refine pv_unset (i := 11) (L1 := [(3000, 0), (9, 0), (0, a2), (0, a3), (1, 0), (0, a5), (0, a6), (1, 0), (1, 0), (0, s0), (1, 0), (1, 0), (0, v203), (0, v205), (0, v207), (0, v209), (0, v213), (0, r279), (0, v270), (0, v276), (1, 0), (1, 0)]) rfl ?_
              refine pv_unset (i := 12) (L1 := [(3000, 0), (9, 0), (0, a2), (0, a3), (1, 0), (0, a5), (0, a6), (1, 0), (1, 0), (0, s0), (1, 0), (1, 0), (1, 0), (0, v205), (0, v207), (0, v209), (0, v213), (0, r279), (0, v270), (0, v276), (1, 0), (1, 0)]) rfl ?_
              refine pv_unset (i := 13) (L1 := [(3000, 0), (9, 0), (0, a2), (0, a3), (1, 0), (0, a5), (0, a6), (1, 0), (1, 0), (0, s0), (1, 0), (1, 0), (1, 0), (1, 0), (0, v207), (0, v209), (0, v213), (0, r279), (0, v270), (0, v276), (1, 0), (1, 0)]) rfl ?_
              refine pv_unset (i := 14) (L1 := [(3000, 0), (9, 0), (0, a2), (0, a3), (1, 0), (0, a5), (0, a6), (1, 0), (1, 0), (0, s0), (1, 0), (1, 0), (1, 0), (1, 0), (1, 0), (0, v209), (0, v213), (0, r279), (0, v270), (0, v276), (1, 0), (1, 0)]) rfl ?_
              refine pv_unset (i := 15) (L1 := [(3000, 0), (9, 0), (0, a2), (0, a3), (1, 0), (0, a5), (0, a6), (1, 0), (1, 0), (0, s0), (1, 0), (1, 0), (1, 0), (1, 0), (1, 0), (1, 0), (0, v213), (0, r279), (0, v270), (0, v276), (1, 0), (1, 0)]) rfl ?_
              refine pv_unset (i := 16) (L1 := [(3000, 0), (9, 0), (0, a2), (0, a3), (1, 0), (0, a5), (0, a6), (1, 0), (1, 0), (0, s0), (1, 0), (1, 0), (1, 0), (1, 0), (1, 0), (1, 0), (1, 0), (0, r279), (0, v270), (0, v276), (1, 0), (1, 0)]) rfl ?_
              refine pv_unset (i := 17) (L1 := [(3000, 0), (9, 0), (0, a2), (0, a3), (1, 0), (0, a5), (0, a6), (1, 0), (1, 0), (0, s0), (1, 0), (1, 0), (1, 0), (1, 0), (1, 0), (1, 0), (1, 0), (1, 0), (0, v270), (0, v276), (1, 0), (1, 0)]) rfl ?_
              refine pv_unset (i := 18) (L1 := [(3000, 0), (9, 0), (0, a2), (0, a3), (1, 0), (0, a5), (0, a6), (1, 0), (1, 0), (0, s0), (1, 0), (1, 0), (1, 0), (1, 0), (1, 0), (1, 0), (1, 0), (1, 0), (1, 0), (0, v276), (1, 0), (1, 0)]) rfl ?_
              refine pv_unset (i := 19) (L1 := [(3000, 0), (9, 0), (0, a2), (0, a3), (1, 0), (0, a5), (0, a6), (1, 0), (1, 0), (0, s0), (1, 0), (1, 0), (1, 0), (1, 0), (1, 0), (1, 0), (1, 0), (1, 0), (1, 0), (1, 0), (1, 0), (1, 0)]) rfl ?_
              exact vjp_L_law_419 hl0 hsc (by intros; exact hK53 _ _ _ _ _ _ (by assumption)) _ _ _ _ _ _ h
            · replace h := h.2 c287
              refine pv_aload_n (n := 401) d_L_law_400 rfl rfl rfl ?_
              refine pv_iload (n := 403) d_L_law_401 rfl rfl ?_
              refine pv_callV (n := 406) (x := 0) [(0, v203)] [] (con_X_owner hl0 h) pw_cf7 rfl q_564 q_565 q_566 q_62 q_563 pyo_X_owner (by decide) rfl rfl (by decide) d_L_law_403 rfl (fun w288 r289 h _ => ?_) (fun _ _ h => h.elim)
              show pw_V l g cx_L_law Q X 406 [(3000, 0), (9, 0), (0, a2), (0, a3), (1, 0), (0, a5), (0, a6), (1, 0), (0, a8), (0, s0), (0, v198), (0, r201), (0, v203), (0, v205), (0, v207), (0, v209), (0, v213), (0, r279), (0, v270), (0, v276), (1, 0), (1, 0)] [(0, r289)] w288
              refine pv_aload_n (n := 407) d_L_law_406 rfl rfl rfl ?_
              refine pv_iload (n := 409) d_L_law_407 rfl rfl ?_
              refine pv_callV (n := 412) (x := 0) [(0, v270)] [(0, r289)] (con_X_owner hl0 h) pw_cf7 rfl q_564 q_565 q_566 q_62 q_563 pyo_X_owner (by decide) rfl rfl (by decide) d_L_law_409 rfl (fun w290 r291 h _ => ?_) (fun _ _ h => h.elim)
              show pw_V l g cx_L_law Q X 412 [(3000, 0), (9, 0), (0, a2), (0, a3), (1, 0), (0, a5), (0, a6), (1, 0), (0, a8), (0, s0), (0, v198), (0, r201), (0, v203), (0, v205), (0, v207), (0, v209), (0, v213), (0, r279), (0, v270), (0, v276), (1, 0), (1, 0)] [(0, r291), (0, r289)] w290
              refine pv_icmp_ne (n := 415) (tgt := 419) d_L_law_412 (by decide) rfl (fun c292 => ?_) (fun c292 => ?_)
              · replace h := h.1 c292
                refine pv_unset (i := 8) (L1 := [(3000, 0), (9, 0), (0, a2), (0, a3), (1, 0), (0, a5), (0, a6), (1, 0), (1, 0), (0, s0), (0, v198), (0, r201), (0, v203), (0, v205), (0, v207), (0, v209), (0, v213), (0, r279), (0, v270), (0, v276), (1, 0), (1, 0)]) rfl ?_
                refine pv_unset (i := 10) (L1 := [(3000, 0), (9, 0), (0, a2), (0, a3), (1, 0), (0, a5), (0, a6), (1, 0), (1, 0), (0, s0), (1, 0), (0, r201), (0, v203), (0, v205), (0, v207), (0, v209), (0, v213), (0, r279), (0, v270), (0, v276), (1, 0), (1, 0)]) rfl ?_
                refine pv_unset (i := 11) (L1 := [(3000, 0), (9, 0), (0, a2), (0, a3), (1, 0), (0, a5), (0, a6), (1, 0), (1, 0), (0, s0), (1, 0), (1, 0), (0, v203), (0, v205), (0, v207), (0, v209), (0, v213), (0, r279), (0, v270), (0, v276), (1, 0), (1, 0)]) rfl ?_
                refine pv_unset (i := 12) (L1 := [(3000, 0), (9, 0), (0, a2), (0, a3), (1, 0), (0, a5), (0, a6), (1, 0), (1, 0), (0, s0), (1, 0), (1, 0), (1, 0), (0, v205), (0, v207), (0, v209), (0, v213), (0, r279), (0, v270), (0, v276), (1, 0), (1, 0)]) rfl ?_
                refine pv_unset (i := 13) (L1 := [(3000, 0), (9, 0), (0, a2), (0, a3), (1, 0), (0, a5), (0, a6), (1, 0), (1, 0), (0, s0), (1, 0), (1, 0), (1, 0), (1, 0), (0, v207), (0, v209), (0, v213), (0, r279), (0, v270), (0, v276), (1, 0), (1, 0)]) rfl ?_
                refine pv_unset (i := 14) (L1 := [(3000, 0), (9, 0), (0, a2), (0, a3), (1, 0), (0, a5), (0, a6), (1, 0), (1, 0), (0, s0), (1, 0), (1, 0), (1, 0), (1, 0), (1, 0), (0, v209), (0, v213), (0, r279), (0, v270), (0, v276), (1, 0), (1, 0)]) rfl ?_
                refine pv_unset (i := 15) (L1 := [(3000, 0), (9, 0), (0, a2), (0, a3), (1, 0), (0, a5), (0, a6), (1, 0), (1, 0), (0, s0), (1, 0), (1, 0), (1, 0), (1, 0), (1, 0), (1, 0), (0, v213), (0, r279), (0, v270), (0, v276), (1, 0), (1, 0)]) rfl ?_
                refine pv_unset (i := 16) (L1 := [(3000, 0), (9, 0), (0, a2), (0, a3), (1, 0), (0, a5), (0, a6), (1, 0), (1, 0), (0, s0), (1, 0), (1, 0), (1, 0), (1, 0), (1, 0), (1, 0), (1, 0), (0, r279), (0, v270), (0, v276), (1, 0), (1, 0)]) rfl ?_
                refine pv_unset (i := 17) (L1 := [(3000, 0), (9, 0), (0, a2), (0, a3), (1, 0), (0, a5), (0, a6), (1, 0), (1, 0), (0, s0), (1, 0), (1, 0), (1, 0), (1, 0), (1, 0), (1, 0), (1, 0), (1, 0), (0, v270), (0, v276), (1, 0), (1, 0)]) rfl ?_
                refine pv_unset (i := 18) (L1 := [(3000, 0), (9, 0), (0, a2), (0, a3), (1, 0), (0, a5), (0, a6), (1, 0), (1, 0), (0, s0), (1, 0), (1, 0), (1, 0), (1, 0), (1, 0), (1, 0), (1, 0), (1, 0), (1, 0), (0, v276), (1, 0), (1, 0)]) rfl ?_
                refine pv_unset (i := 19) (L1 := [(3000, 0), (9, 0), (0, a2), (0, a3), (1, 0), (0, a5), (0, a6), (1, 0), (1, 0), (0, s0), (1, 0), (1, 0), (1, 0), (1, 0), (1, 0), (1, 0), (1, 0), (1, 0), (1, 0), (1, 0), (1, 0), (1, 0)]) rfl ?_
                exact vjp_L_law_419 hl0 hsc (by intros; exact hK53 _ _ _ _ _ _ (by assumption)) _ _ _ _ _ _ h
              · replace h := h.2 c292
                refine pv_unset (i := 8) (L1 := [(3000, 0), (9, 0), (0, a2), (0, a3), (1, 0), (0, a5), (0, a6), (1, 0), (1, 0), (0, s0), (0, v198), (0, r201), (0, v203), (0, v205), (0, v207), (0, v209), (0, v213), (0, r279), (0, v270), (0, v276), (1, 0), (1, 0)]) rfl ?_
                refine pv_unset (i := 10) (L1 := [(3000, 0), (9, 0), (0, a2), (0, a3), (1, 0), (0, a5), (0, a6), (1, 0), (1, 0), (0, s0), (1, 0), (0, r201), (0, v203), (0, v205), (0, v207), (0, v209), (0, v213), (0, r279), (0, v270), (0, v276), (1, 0), (1, 0)]) rfl ?_
                refine pv_unset (i := 11) (L1 := [(3000, 0), (9, 0), (0, a2), (0, a3), (1, 0), (0, a5), (0, a6), (1, 0), (1, 0), (0, s0), (1, 0), (1, 0), (0, v203), (0, v205), (0, v207), (0, v209), (0, v213), (0, r279), (0, v270), (0, v276), (1, 0), (1, 0)]) rfl ?_
                refine pv_unset (i := 12) (L1 := [(3000, 0), (9, 0), (0, a2), (0, a3), (1, 0), (0, a5), (0, a6), (1, 0), (1, 0), (0, s0), (1, 0), (1, 0), (1, 0), (0, v205), (0, v207), (0, v209), (0, v213), (0, r279), (0, v270), (0, v276), (1, 0), (1, 0)]) rfl ?_
                refine pv_unset (i := 13) (L1 := [(3000, 0), (9, 0), (0, a2), (0, a3), (1, 0), (0, a5), (0, a6), (1, 0), (1, 0), (0, s0), (1, 0), (1, 0), (1, 0), (1, 0), (0, v207), (0, v209), (0, v213), (0, r279), (0, v270), (0, v276), (1, 0), (1, 0)]) rfl ?_
                refine pv_unset (i := 14) (L1 := [(3000, 0), (9, 0), (0, a2), (0, a3), (1, 0), (0, a5), (0, a6), (1, 0), (1, 0), (0, s0), (1, 0), (1, 0), (1, 0), (1, 0), (1, 0), (0, v209), (0, v213), (0, r279), (0, v270), (0, v276), (1, 0), (1, 0)]) rfl ?_
                refine pv_unset (i := 15) (L1 := [(3000, 0), (9, 0), (0, a2), (0, a3), (1, 0), (0, a5), (0, a6), (1, 0), (1, 0), (0, s0), (1, 0), (1, 0), (1, 0), (1, 0), (1, 0), (1, 0), (0, v213), (0, r279), (0, v270), (0, v276), (1, 0), (1, 0)]) rfl ?_
                refine pv_unset (i := 16) (L1 := [(3000, 0), (9, 0), (0, a2), (0, a3), (1, 0), (0, a5), (0, a6), (1, 0), (1, 0), (0, s0), (1, 0), (1, 0), (1, 0), (1, 0), (1, 0), (1, 0), (1, 0), (0, r279), (0, v270), (0, v276), (1, 0), (1, 0)]) rfl ?_
                refine pv_unset (i := 17) (L1 := [(3000, 0), (9, 0), (0, a2), (0, a3), (1, 0), (0, a5), (0, a6), (1, 0), (1, 0), (0, s0), (1, 0), (1, 0), (1, 0), (1, 0), (1, 0), (1, 0), (1, 0), (1, 0), (0, v270), (0, v276), (1, 0), (1, 0)]) rfl ?_
                refine pv_unset (i := 18) (L1 := [(3000, 0), (9, 0), (0, a2), (0, a3), (1, 0), (0, a5), (0, a6), (1, 0), (1, 0), (0, s0), (1, 0), (1, 0), (1, 0), (1, 0), (1, 0), (1, 0), (1, 0), (1, 0), (1, 0), (0, v276), (1, 0), (1, 0)]) rfl ?_
                refine pv_unset (i := 19) (L1 := [(3000, 0), (9, 0), (0, a2), (0, a3), (1, 0), (0, a5), (0, a6), (1, 0), (1, 0), (0, s0), (1, 0), (1, 0), (1, 0), (1, 0), (1, 0), (1, 0), (1, 0), (1, 0), (1, 0), (1, 0), (1, 0), (1, 0)]) rfl ?_
                exact vjp_L_law_415 hl0 hsc (by intros; exact hK53 _ _ _ _ _ _ (by assumption)) _ _ _ _ _ _ h
  · replace h := h.2 c215
    refine pv_aload_n (n := 217) d_L_law_216 rfl rfl rfl ?_
    refine pv_iload (n := 219) d_L_law_217 rfl rfl ?_
    refine pv_callV (n := 222) (x := 0) [(0, v203)] [] (con_X_area hl0 h) pw_cf7 rfl q_497 q_498 q_499 q_62 q_496 pyo_X_area (by decide) rfl rfl (by decide) d_L_law_219 rfl (fun w293 r294 h _ => ?_) (fun _ _ h => h.elim)
    show pw_V l g cx_L_law Q X 222 [(3000, 0), (9, 0), (0, a2), (0, a3), (1, 0), (0, a5), (0, a6), (1, 0), (0, a8), (0, s0), (0, v198), (0, r201), (0, v203), (0, v205), (0, v207), (0, v209), (0, v213), (1, 0), (1, 0), (1, 0), (1, 0), (1, 0)] [(0, r294)] w293
    refine pv_istore (n := 224) (L' := [(3000, 0), (9, 0), (0, a2), (0, a3), (1, 0), (0, a5), (0, a6), (1, 0), (0, a8), (0, s0), (0, v198), (0, r201), (0, v203), (0, v205), (0, v207), (0, v209), (0, v213), (1, 0), (0, r294), (1, 0), (1, 0), (1, 0)]) d_L_law_222 (by decide) rfl rfl ?_
    refine pv_aload_n (n := 225) d_L_law_224 rfl rfl rfl ?_
    refine pv_iconst (v := 0) (n := 226) d_L_law_225 (by decide) rfl ?_
    refine pv_iload (n := 228) d_L_law_226 rfl rfl ?_
    refine pv_iload (n := 230) d_L_law_228 rfl rfl ?_
    refine pv_iload (n := 232) d_L_law_230 rfl rfl ?_
    refine pv_iload (n := 234) d_L_law_232 rfl rfl ?_
    refine pv_callSH (n := 237) [(9, 0), (0, 0), (0, v203), (0, v209), (0, v213), (0, v198)] [] (con_L_on hl0 h) q_541 q_542 q_483 q_540 pyo_L_on (by decide) rfl rfl d_L_law_234 rfl (fun w295 r296 h _ => ?_) (fun _ _ h => h.elim)
    show pw_V l g cx_L_law Q X 237 [(3000, 0), (9, 0), (0, a2), (0, a3), (1, 0), (0, a5), (0, a6), (1, 0), (0, a8), (0, s0), (0, v198), (0, r201), (0, v203), (0, v205), (0, v207), (0, v209), (0, v213), (1, 0), (0, r294), (1, 0), (1, 0), (1, 0)] [(0, r296)] w295
    refine pv_istore (n := 239) (L' := [(3000, 0), (9, 0), (0, a2), (0, a3), (1, 0), (0, a5), (0, a6), (1, 0), (0, a8), (0, s0), (0, v198), (0, r201), (0, v203), (0, v205), (0, v207), (0, v209), (0, v213), (0, r296), (0, r294), (1, 0), (1, 0), (1, 0)]) d_L_law_237 (by decide) rfl rfl ?_
    refine pv_iload (n := 241) d_L_law_239 rfl rfl ?_
    refine pv_bipush (v := -13) (n := 243) d_L_law_241 (by decide) rfl ?_
    refine pv_icmp_ne (n := 246) (tgt := 265) d_L_law_243 (by decide) rfl (fun c297 => ?_) (fun c297 => ?_)
    · replace h := h.1 c297
      refine pv_iload (n := 267) d_L_law_265 rfl rfl ?_
      refine pv_iload (n := 269) d_L_law_267 rfl rfl ?_
      refine pv_icmp_ne (n := 272) (tgt := 314) d_L_law_269 (by decide) rfl (fun c298 => ?_) (fun c298 => ?_)
      · replace h := h.1 c298
        refine pv_unset (i := 8) (L1 := [(3000, 0), (9, 0), (0, a2), (0, a3), (1, 0), (0, a5), (0, a6), (1, 0), (1, 0), (0, s0), (0, v198), (0, r201), (0, v203), (0, v205), (0, v207), (0, v209), (0, v213), (0, r296), (0, r294), (1, 0), (1, 0), (1, 0)]) rfl ?_
        refine pv_unset (i := 10) (L1 := [(3000, 0), (9, 0), (0, a2), (0, a3), (1, 0), (0, a5), (0, a6), (1, 0), (1, 0), (0, s0), (1, 0), (0, r201), (0, v203), (0, v205), (0, v207), (0, v209), (0, v213), (0, r296), (0, r294), (1, 0), (1, 0), (1, 0)]) rfl ?_
        refine pv_unset (i := 11) (L1 := [(3000, 0), (9, 0), (0, a2), (0, a3), (1, 0), (0, a5), (0, a6), (1, 0), (1, 0), (0, s0), (1, 0), (1, 0), (0, v203), (0, v205), (0, v207), (0, v209), (0, v213), (0, r296), (0, r294), (1, 0), (1, 0), (1, 0)]) rfl ?_
        refine pv_unset (i := 12) (L1 := [(3000, 0), (9, 0), (0, a2), (0, a3), (1, 0), (0, a5), (0, a6), (1, 0), (1, 0), (0, s0), (1, 0), (1, 0), (1, 0), (0, v205), (0, v207), (0, v209), (0, v213), (0, r296), (0, r294), (1, 0), (1, 0), (1, 0)]) rfl ?_
        refine pv_unset (i := 13) (L1 := [(3000, 0), (9, 0), (0, a2), (0, a3), (1, 0), (0, a5), (0, a6), (1, 0), (1, 0), (0, s0), (1, 0), (1, 0), (1, 0), (1, 0), (0, v207), (0, v209), (0, v213), (0, r296), (0, r294), (1, 0), (1, 0), (1, 0)]) rfl ?_
        refine pv_unset (i := 14) (L1 := [(3000, 0), (9, 0), (0, a2), (0, a3), (1, 0), (0, a5), (0, a6), (1, 0), (1, 0), (0, s0), (1, 0), (1, 0), (1, 0), (1, 0), (1, 0), (0, v209), (0, v213), (0, r296), (0, r294), (1, 0), (1, 0), (1, 0)]) rfl ?_
        refine pv_unset (i := 15) (L1 := [(3000, 0), (9, 0), (0, a2), (0, a3), (1, 0), (0, a5), (0, a6), (1, 0), (1, 0), (0, s0), (1, 0), (1, 0), (1, 0), (1, 0), (1, 0), (1, 0), (0, v213), (0, r296), (0, r294), (1, 0), (1, 0), (1, 0)]) rfl ?_
        refine pv_unset (i := 16) (L1 := [(3000, 0), (9, 0), (0, a2), (0, a3), (1, 0), (0, a5), (0, a6), (1, 0), (1, 0), (0, s0), (1, 0), (1, 0), (1, 0), (1, 0), (1, 0), (1, 0), (1, 0), (0, r296), (0, r294), (1, 0), (1, 0), (1, 0)]) rfl ?_
        refine pv_unset (i := 17) (L1 := [(3000, 0), (9, 0), (0, a2), (0, a3), (1, 0), (0, a5), (0, a6), (1, 0), (1, 0), (0, s0), (1, 0), (1, 0), (1, 0), (1, 0), (1, 0), (1, 0), (1, 0), (1, 0), (0, r294), (1, 0), (1, 0), (1, 0)]) rfl ?_
        refine pv_unset (i := 18) (L1 := [(3000, 0), (9, 0), (0, a2), (0, a3), (1, 0), (0, a5), (0, a6), (1, 0), (1, 0), (0, s0), (1, 0), (1, 0), (1, 0), (1, 0), (1, 0), (1, 0), (1, 0), (1, 0), (1, 0), (1, 0), (1, 0), (1, 0)]) rfl ?_
        exact vjp_L_law_314 hl0 hsc (by intros; exact hK53 _ _ _ _ _ _ (by assumption)) _ _ _ _ _ _ h
      · replace h := h.2 c298
        refine pv_aload_n (n := 273) d_L_law_272 rfl rfl rfl ?_
        refine pv_iload (n := 275) d_L_law_273 rfl rfl ?_
        refine pv_callV (n := 278) (x := 0) [(0, r296)] [] (con_X_owner hl0 h) pw_cf7 rfl q_564 q_565 q_566 q_62 q_563 pyo_X_owner (by decide) rfl rfl (by decide) d_L_law_275 rfl (fun w299 r300 h _ => ?_) (fun _ _ h => h.elim)
        show pw_V l g cx_L_law Q X 278 [(3000, 0), (9, 0), (0, a2), (0, a3), (1, 0), (0, a5), (0, a6), (1, 0), (0, a8), (0, s0), (0, v198), (0, r201), (0, v203), (0, v205), (0, v207), (0, v209), (0, v213), (0, r296), (0, r294), (1, 0), (1, 0), (1, 0)] [(0, r300)] w299
        refine pv_iload (n := 280) d_L_law_278 rfl rfl ?_
        refine pv_icmp_ne (n := 283) (tgt := 314) d_L_law_280 (by decide) rfl (fun c301 => ?_) (fun c301 => ?_)
        · replace h := h.1 c301
          refine pv_unset (i := 8) (L1 := [(3000, 0), (9, 0), (0, a2), (0, a3), (1, 0), (0, a5), (0, a6), (1, 0), (1, 0), (0, s0), (0, v198), (0, r201), (0, v203), (0, v205), (0, v207), (0, v209), (0, v213), (0, r296), (0, r294), (1, 0), (1, 0), (1, 0)]) rfl ?_
          refine pv_unset (i := 10) (L1 := [(3000, 0), (9, 0), (0, a2), (0, a3), (1, 0), (0, a5), (0, a6), (1, 0), (1, 0), (0, s0), (1, 0), (0, r201), (0, v203), (0, v205), (0, v207), (0, v209), (0, v213), (0, r296), (0, r294), (1, 0), (1, 0), (1, 0)]) rfl ?_
          refine pv_unset (i := 11) (L1 := [(3000, 0), (9, 0), (0, a2), (0, a3), (1, 0), (0, a5), (0, a6), (1, 0), (1, 0), (0, s0), (1, 0), (1, 0), (0, v203), (0, v205), (0, v207), (0, v209), (0, v213), (0, r296), (0, r294), (1, 0), (1, 0), (1, 0)]) rfl ?_
          refine pv_unset (i := 12) (L1 := [(3000, 0), (9, 0), (0, a2), (0, a3), (1, 0), (0, a5), (0, a6), (1, 0), (1, 0), (0, s0), (1, 0), (1, 0), (1, 0), (0, v205), (0, v207), (0, v209), (0, v213), (0, r296), (0, r294), (1, 0), (1, 0), (1, 0)]) rfl ?_
          refine pv_unset (i := 13) (L1 := [(3000, 0), (9, 0), (0, a2), (0, a3), (1, 0), (0, a5), (0, a6), (1, 0), (1, 0), (0, s0), (1, 0), (1, 0), (1, 0), (1, 0), (0, v207), (0, v209), (0, v213), (0, r296), (0, r294), (1, 0), (1, 0), (1, 0)]) rfl ?_
          refine pv_unset (i := 14) (L1 := [(3000, 0), (9, 0), (0, a2), (0, a3), (1, 0), (0, a5), (0, a6), (1, 0), (1, 0), (0, s0), (1, 0), (1, 0), (1, 0), (1, 0), (1, 0), (0, v209), (0, v213), (0, r296), (0, r294), (1, 0), (1, 0), (1, 0)]) rfl ?_
          refine pv_unset (i := 15) (L1 := [(3000, 0), (9, 0), (0, a2), (0, a3), (1, 0), (0, a5), (0, a6), (1, 0), (1, 0), (0, s0), (1, 0), (1, 0), (1, 0), (1, 0), (1, 0), (1, 0), (0, v213), (0, r296), (0, r294), (1, 0), (1, 0), (1, 0)]) rfl ?_
          refine pv_unset (i := 16) (L1 := [(3000, 0), (9, 0), (0, a2), (0, a3), (1, 0), (0, a5), (0, a6), (1, 0), (1, 0), (0, s0), (1, 0), (1, 0), (1, 0), (1, 0), (1, 0), (1, 0), (1, 0), (0, r296), (0, r294), (1, 0), (1, 0), (1, 0)]) rfl ?_
          refine pv_unset (i := 17) (L1 := [(3000, 0), (9, 0), (0, a2), (0, a3), (1, 0), (0, a5), (0, a6), (1, 0), (1, 0), (0, s0), (1, 0), (1, 0), (1, 0), (1, 0), (1, 0), (1, 0), (1, 0), (1, 0), (0, r294), (1, 0), (1, 0), (1, 0)]) rfl ?_
          refine pv_unset (i := 18) (L1 := [(3000, 0), (9, 0), (0, a2), (0, a3), (1, 0), (0, a5), (0, a6), (1, 0), (1, 0), (0, s0), (1, 0), (1, 0), (1, 0), (1, 0), (1, 0), (1, 0), (1, 0), (1, 0), (1, 0), (1, 0), (1, 0), (1, 0)]) rfl ?_
          exact vjp_L_law_314 hl0 hsc (by intros; exact hK53 _ _ _ _ _ _ (by assumption)) _ _ _ _ _ _ h
        · replace h := h.2 c301
          refine pv_aload_n (n := 284) d_L_law_283 rfl rfl rfl ?_
          refine pv_iload (n := 286) d_L_law_284 rfl rfl ?_
          refine pv_callV (n := 289) (x := 0) [(0, r296)] [] (con_X_area hl0 h) pw_cf7 rfl q_497 q_498 q_499 q_62 q_496 pyo_X_area (by decide) rfl rfl (by decide) d_L_law_286 rfl (fun w302 r303 h _ => ?_) (fun _ _ h => h.elim)
          show pw_V l g cx_L_law Q X 289 [(3000, 0), (9, 0), (0, a2), (0, a3), (1, 0), (0, a5), (0, a6), (1, 0), (0, a8), (0, s0), (0, v198), (0, r201), (0, v203), (0, v205), (0, v207), (0, v209), (0, v213), (0, r296), (0, r294), (1, 0), (1, 0), (1, 0)] [(0, r303)] w302
          refine pv_if_le (n := 292) (tgt := 314) d_L_law_289 (by decide) rfl (fun c304 => ?_) (fun c304 => ?_)
          · replace h := h.1 c304
            refine pv_unset (i := 8) (L1 := [(3000, 0), (9, 0), (0, a2), (0, a3), (1, 0), (0, a5), (0, a6), (1, 0), (1, 0), (0, s0), (0, v198), (0, r201), (0, v203), (0, v205), (0, v207), (0, v209), (0, v213), (0, r296), (0, r294), (1, 0), (1, 0), (1, 0)]) rfl ?_
            refine pv_unset (i := 10) (L1 := [(3000, 0), (9, 0), (0, a2), (0, a3), (1, 0), (0, a5), (0, a6), (1, 0), (1, 0), (0, s0), (1, 0), (0, r201), (0, v203), (0, v205), (0, v207), (0, v209), (0, v213), (0, r296), (0, r294), (1, 0), (1, 0), (1, 0)]) rfl ?_
            refine pv_unset (i := 11) (L1 := [(3000, 0), (9, 0), (0, a2), (0, a3), (1, 0), (0, a5), (0, a6), (1, 0), (1, 0), (0, s0), (1, 0), (1, 0), (0, v203), (0, v205), (0, v207), (0, v209), (0, v213), (0, r296), (0, r294), (1, 0), (1, 0), (1, 0)]) rfl ?_
            refine pv_unset (i := 12) (L1 := [(3000, 0), (9, 0), (0, a2), (0, a3), (1, 0), (0, a5), (0, a6), (1, 0), (1, 0), (0, s0), (1, 0), (1, 0), (1, 0), (0, v205), (0, v207), (0, v209), (0, v213), (0, r296), (0, r294), (1, 0), (1, 0), (1, 0)]) rfl ?_
            refine pv_unset (i := 13) (L1 := [(3000, 0), (9, 0), (0, a2), (0, a3), (1, 0), (0, a5), (0, a6), (1, 0), (1, 0), (0, s0), (1, 0), (1, 0), (1, 0), (1, 0), (0, v207), (0, v209), (0, v213), (0, r296), (0, r294), (1, 0), (1, 0), (1, 0)]) rfl ?_
            refine pv_unset (i := 14) (L1 := [(3000, 0), (9, 0), (0, a2), (0, a3), (1, 0), (0, a5), (0, a6), (1, 0), (1, 0), (0, s0), (1, 0), (1, 0), (1, 0), (1, 0), (1, 0), (0, v209), (0, v213), (0, r296), (0, r294), (1, 0), (1, 0), (1, 0)]) rfl ?_
            refine pv_unset (i := 15) (L1 := [(3000, 0), (9, 0), (0, a2), (0, a3), (1, 0), (0, a5), (0, a6), (1, 0), (1, 0), (0, s0), (1, 0), (1, 0), (1, 0), (1, 0), (1, 0), (1, 0), (0, v213), (0, r296), (0, r294), (1, 0), (1, 0), (1, 0)]) rfl ?_
            refine pv_unset (i := 16) (L1 := [(3000, 0), (9, 0), (0, a2), (0, a3), (1, 0), (0, a5), (0, a6), (1, 0), (1, 0), (0, s0), (1, 0), (1, 0), (1, 0), (1, 0), (1, 0), (1, 0), (1, 0), (0, r296), (0, r294), (1, 0), (1, 0), (1, 0)]) rfl ?_
            refine pv_unset (i := 17) (L1 := [(3000, 0), (9, 0), (0, a2), (0, a3), (1, 0), (0, a5), (0, a6), (1, 0), (1, 0), (0, s0), (1, 0), (1, 0), (1, 0), (1, 0), (1, 0), (1, 0), (1, 0), (1, 0), (0, r294), (1, 0), (1, 0), (1, 0)]) rfl ?_
            refine pv_unset (i := 18) (L1 := [(3000, 0), (9, 0), (0, a2), (0, a3), (1, 0), (0, a5), (0, a6), (1, 0), (1, 0), (0, s0), (1, 0), (1, 0), (1, 0), (1, 0), (1, 0), (1, 0), (1, 0), (1, 0), (1, 0), (1, 0), (1, 0), (1, 0)]) rfl ?_
            exact vjp_L_law_314 hl0 hsc (by intros; exact hK53 _ _ _ _ _ _ (by assumption)) _ _ _ _ _ _ h
          · replace h := h.2 c304
            refine pv_aload_n (n := 293) d_L_law_292 rfl rfl rfl ?_
            refine pv_iload (n := 295) d_L_law_293 rfl rfl ?_
            refine pv_callV (n := 298) (x := 0) [(0, r296)] [] (con_X_area hl0 h) pw_cf7 rfl q_497 q_498 q_499 q_62 q_496 pyo_X_area (by decide) rfl rfl (by decide) d_L_law_295 rfl (fun w305 r306 h _ => ?_) (fun _ _ h => h.elim)
            show pw_V l g cx_L_law Q X 298 [(3000, 0), (9, 0), (0, a2), (0, a3), (1, 0), (0, a5), (0, a6), (1, 0), (0, a8), (0, s0), (0, v198), (0, r201), (0, v203), (0, v205), (0, v207), (0, v209), (0, v213), (0, r296), (0, r294), (1, 0), (1, 0), (1, 0)] [(0, r306)] w305
            refine pv_aload_n (n := 299) d_L_law_298 rfl rfl rfl ?_
            refine pv_iload (n := 301) d_L_law_299 rfl rfl ?_
            refine pv_callV (n := 304) (x := 0) [(0, v203)] [(0, r306)] (con_X_area hl0 h) pw_cf7 rfl q_497 q_498 q_499 q_62 q_496 pyo_X_area (by decide) rfl rfl (by decide) d_L_law_301 rfl (fun w307 r308 h _ => ?_) (fun _ _ h => h.elim)
            show pw_V l g cx_L_law Q X 304 [(3000, 0), (9, 0), (0, a2), (0, a3), (1, 0), (0, a5), (0, a6), (1, 0), (0, a8), (0, s0), (0, v198), (0, r201), (0, v203), (0, v205), (0, v207), (0, v209), (0, v213), (0, r296), (0, r294), (1, 0), (1, 0), (1, 0)] [(0, r308), (0, r306)] w307
            refine pv_iadd (n := 305) d_L_law_304 rfl ?_
            refine pv_iload (n := 307) d_L_law_305 rfl rfl ?_
            refine pv_icmp_ne (n := 310) (tgt := 314) d_L_law_307 (by decide) rfl (fun c309 => ?_) (fun c309 => ?_)
            · replace h := h.1 c309
              refine pv_unset (i := 8) (L1 := [(3000, 0), (9, 0), (0, a2), (0, a3), (1, 0), (0, a5), (0, a6), (1, 0), (1, 0), (0, s0), (0, v198), (0, r201), (0, v203), (0, v205), (0, v207), (0, v209), (0, v213), (0, r296), (0, r294), (1, 0), (1, 0), (1, 0)]) rfl ?_
              refine pv_unset (i := 10) (L1 := [(3000, 0), (9, 0), (0, a2), (0, a3), (1, 0), (0, a5), (0, a6), (1, 0), (1, 0), (0, s0), (1, 0), (0, r201), (0, v203), (0, v205), (0, v207), (0, v209), (0, v213), (0, r296), (0, r294), (1, 0), (1, 0), (1, 0)]) rfl ?_
              refine pv_unset (i := 11) (L1 := [(3000, 0), (9, 0), (0, a2), (0, a3), (1, 0), (0, a5), (0, a6), (1, 0), (1, 0), (0, s0), (1, 0), (1, 0), (0, v203), (0, v205), (0, v207), (0, v209), (0, v213), (0, r296), (0, r294), (1, 0), (1, 0), (1, 0)]) rfl ?_
              refine pv_unset (i := 12) (L1 := [(3000, 0), (9, 0), (0, a2), (0, a3), (1, 0), (0, a5), (0, a6), (1, 0), (1, 0), (0, s0), (1, 0), (1, 0), (1, 0), (0, v205), (0, v207), (0, v209), (0, v213), (0, r296), (0, r294), (1, 0), (1, 0), (1, 0)]) rfl ?_
              refine pv_unset (i := 13) (L1 := [(3000, 0), (9, 0), (0, a2), (0, a3), (1, 0), (0, a5), (0, a6), (1, 0), (1, 0), (0, s0), (1, 0), (1, 0), (1, 0), (1, 0), (0, v207), (0, v209), (0, v213), (0, r296), (0, r294), (1, 0), (1, 0), (1, 0)]) rfl ?_
              refine pv_unset (i := 14) (L1 := [(3000, 0), (9, 0), (0, a2), (0, a3), (1, 0), (0, a5), (0, a6), (1, 0), (1, 0), (0, s0), (1, 0), (1, 0), (1, 0), (1, 0), (1, 0), (0, v209), (0, v213), (0, r296), (0, r294), (1, 0), (1, 0), (1, 0)]) rfl ?_
              refine pv_unset (i := 15) (L1 := [(3000, 0), (9, 0), (0, a2), (0, a3), (1, 0), (0, a5), (0, a6), (1, 0), (1, 0), (0, s0), (1, 0), (1, 0), (1, 0), (1, 0), (1, 0), (1, 0), (0, v213), (0, r296), (0, r294), (1, 0), (1, 0), (1, 0)]) rfl ?_
              refine pv_unset (i := 16) (L1 := [(3000, 0), (9, 0), (0, a2), (0, a3), (1, 0), (0, a5), (0, a6), (1, 0), (1, 0), (0, s0), (1, 0), (1, 0), (1, 0), (1, 0), (1, 0), (1, 0), (1, 0), (0, r296), (0, r294), (1, 0), (1, 0), (1, 0)]) rfl ?_
              refine pv_unset (i := 17) (L1 := [(3000, 0), (9, 0), (0, a2), (0, a3), (1, 0), (0, a5), (0, a6), (1, 0), (1, 0), (0, s0), (1, 0), (1, 0), (1, 0), (1, 0), (1, 0), (1, 0), (1, 0), (1, 0), (0, r294), (1, 0), (1, 0), (1, 0)]) rfl ?_
              refine pv_unset (i := 18) (L1 := [(3000, 0), (9, 0), (0, a2), (0, a3), (1, 0), (0, a5), (0, a6), (1, 0), (1, 0), (0, s0), (1, 0), (1, 0), (1, 0), (1, 0), (1, 0), (1, 0), (1, 0), (1, 0), (1, 0), (1, 0), (1, 0), (1, 0)]) rfl ?_
              exact vjp_L_law_314 hl0 hsc (by intros; exact hK53 _ _ _ _ _ _ (by assumption)) _ _ _ _ _ _ h
            · replace h := h.2 c309
              refine pv_iconst (v := 1) (n := 311) d_L_law_310 (by decide) rfl ?_
              refine pv_goto (tgt := 315) d_L_law_311 (by decide) ?_
              refine pv_unset (i := 8) (L1 := [(3000, 0), (9, 0), (0, a2), (0, a3), (1, 0), (0, a5), (0, a6), (1, 0), (1, 0), (0, s0), (0, v198), (0, r201), (0, v203), (0, v205), (0, v207), (0, v209), (0, v213), (0, r296), (0, r294), (1, 0), (1, 0), (1, 0)]) rfl ?_
              refine pv_unset (i := 10) (L1 := [(3000, 0), (9, 0), (0, a2), (0, a3), (1, 0), (0, a5), (0, a6), (1, 0), (1, 0), (0, s0), (1, 0), (0, r201), (0, v203), (0, v205), (0, v207), (0, v209), (0, v213), (0, r296), (0, r294), (1, 0), (1, 0), (1, 0)]) rfl ?_
              refine pv_unset (i := 11) (L1 := [(3000, 0), (9, 0), (0, a2), (0, a3), (1, 0), (0, a5), (0, a6), (1, 0), (1, 0), (0, s0), (1, 0), (1, 0), (0, v203), (0, v205), (0, v207), (0, v209), (0, v213), (0, r296), (0, r294), (1, 0), (1, 0), (1, 0)]) rfl ?_
              refine pv_unset (i := 12) (L1 := [(3000, 0), (9, 0), (0, a2), (0, a3), (1, 0), (0, a5), (0, a6), (1, 0), (1, 0), (0, s0), (1, 0), (1, 0), (1, 0), (0, v205), (0, v207), (0, v209), (0, v213), (0, r296), (0, r294), (1, 0), (1, 0), (1, 0)]) rfl ?_
              refine pv_unset (i := 13) (L1 := [(3000, 0), (9, 0), (0, a2), (0, a3), (1, 0), (0, a5), (0, a6), (1, 0), (1, 0), (0, s0), (1, 0), (1, 0), (1, 0), (1, 0), (0, v207), (0, v209), (0, v213), (0, r296), (0, r294), (1, 0), (1, 0), (1, 0)]) rfl ?_
              refine pv_unset (i := 14) (L1 := [(3000, 0), (9, 0), (0, a2), (0, a3), (1, 0), (0, a5), (0, a6), (1, 0), (1, 0), (0, s0), (1, 0), (1, 0), (1, 0), (1, 0), (1, 0), (0, v209), (0, v213), (0, r296), (0, r294), (1, 0), (1, 0), (1, 0)]) rfl ?_
              refine pv_unset (i := 15) (L1 := [(3000, 0), (9, 0), (0, a2), (0, a3), (1, 0), (0, a5), (0, a6), (1, 0), (1, 0), (0, s0), (1, 0), (1, 0), (1, 0), (1, 0), (1, 0), (1, 0), (0, v213), (0, r296), (0, r294), (1, 0), (1, 0), (1, 0)]) rfl ?_
              refine pv_unset (i := 16) (L1 := [(3000, 0), (9, 0), (0, a2), (0, a3), (1, 0), (0, a5), (0, a6), (1, 0), (1, 0), (0, s0), (1, 0), (1, 0), (1, 0), (1, 0), (1, 0), (1, 0), (1, 0), (0, r296), (0, r294), (1, 0), (1, 0), (1, 0)]) rfl ?_
              refine pv_unset (i := 17) (L1 := [(3000, 0), (9, 0), (0, a2), (0, a3), (1, 0), (0, a5), (0, a6), (1, 0), (1, 0), (0, s0), (1, 0), (1, 0), (1, 0), (1, 0), (1, 0), (1, 0), (1, 0), (1, 0), (0, r294), (1, 0), (1, 0), (1, 0)]) rfl ?_
              refine pv_unset (i := 18) (L1 := [(3000, 0), (9, 0), (0, a2), (0, a3), (1, 0), (0, a5), (0, a6), (1, 0), (1, 0), (0, s0), (1, 0), (1, 0), (1, 0), (1, 0), (1, 0), (1, 0), (1, 0), (1, 0), (1, 0), (1, 0), (1, 0), (1, 0)]) rfl ?_
              exact vjp_L_law_315 hl0 hsc (by intros; exact hK53 _ _ _ _ _ _ (by assumption)) _ _ _ _ _ _ _ h
    · replace h := h.2 c297
      refine pv_aload_n (n := 247) d_L_law_246 rfl rfl rfl ?_
      refine pv_iload (n := 249) d_L_law_247 rfl rfl ?_
      refine pv_callV (n := 252) (x := 0) [(0, v203)] [] (con_X_area hl0 h) pw_cf7 rfl q_497 q_498 q_499 q_62 q_496 pyo_X_area (by decide) rfl rfl (by decide) d_L_law_249 rfl (fun w310 r311 h _ => ?_) (fun _ _ h => h.elim)
      show pw_V l g cx_L_law Q X 252 [(3000, 0), (9, 0), (0, a2), (0, a3), (1, 0), (0, a5), (0, a6), (1, 0), (0, a8), (0, s0), (0, v198), (0, r201), (0, v203), (0, v205), (0, v207), (0, v209), (0, v213), (0, r296), (0, r294), (1, 0), (1, 0), (1, 0)] [(0, r311)] w310
      refine pv_iload (n := 254) d_L_law_252 rfl rfl ?_
      refine pv_icmp_ne (n := 257) (tgt := 261) d_L_law_254 (by decide) rfl (fun c312 => ?_) (fun c312 => ?_)
      · replace h := h.1 c312
        refine pv_iconst (v := 0) (n := 262) d_L_law_261 (by decide) rfl ?_
        refine pv_goto (tgt := 315) d_L_law_262 (by decide) ?_
        refine pv_unset (i := 8) (L1 := [(3000, 0), (9, 0), (0, a2), (0, a3), (1, 0), (0, a5), (0, a6), (1, 0), (1, 0), (0, s0), (0, v198), (0, r201), (0, v203), (0, v205), (0, v207), (0, v209), (0, v213), (0, r296), (0, r294), (1, 0), (1, 0), (1, 0)]) rfl ?_
        refine pv_unset (i := 10) (L1 := [(3000, 0), (9, 0), (0, a2), (0, a3), (1, 0), (0, a5), (0, a6), (1, 0), (1, 0), (0, s0), (1, 0), (0, r201), (0, v203), (0, v205), (0, v207), (0, v209), (0, v213), (0, r296), (0, r294), (1, 0), (1, 0), (1, 0)]) rfl ?_
        refine pv_unset (i := 11) (L1 := [(3000, 0), (9, 0), (0, a2), (0, a3), (1, 0), (0, a5), (0, a6), (1, 0), (1, 0), (0, s0), (1, 0), (1, 0), (0, v203), (0, v205), (0, v207), (0, v209), (0, v213), (0, r296), (0, r294), (1, 0), (1, 0), (1, 0)]) rfl ?_
        refine pv_unset (i := 12) (L1 := [(3000, 0), (9, 0), (0, a2), (0, a3), (1, 0), (0, a5), (0, a6), (1, 0), (1, 0), (0, s0), (1, 0), (1, 0), (1, 0), (0, v205), (0, v207), (0, v209), (0, v213), (0, r296), (0, r294), (1, 0), (1, 0), (1, 0)]) rfl ?_
        refine pv_unset (i := 13) (L1 := [(3000, 0), (9, 0), (0, a2), (0, a3), (1, 0), (0, a5), (0, a6), (1, 0), (1, 0), (0, s0), (1, 0), (1, 0), (1, 0), (1, 0), (0, v207), (0, v209), (0, v213), (0, r296), (0, r294), (1, 0), (1, 0), (1, 0)]) rfl ?_
        refine pv_unset (i := 14) (L1 := [(3000, 0), (9, 0), (0, a2), (0, a3), (1, 0), (0, a5), (0, a6), (1, 0), (1, 0), (0, s0), (1, 0), (1, 0), (1, 0), (1, 0), (1, 0), (0, v209), (0, v213), (0, r296), (0, r294), (1, 0), (1, 0), (1, 0)]) rfl ?_
        refine pv_unset (i := 15) (L1 := [(3000, 0), (9, 0), (0, a2), (0, a3), (1, 0), (0, a5), (0, a6), (1, 0), (1, 0), (0, s0), (1, 0), (1, 0), (1, 0), (1, 0), (1, 0), (1, 0), (0, v213), (0, r296), (0, r294), (1, 0), (1, 0), (1, 0)]) rfl ?_
        refine pv_unset (i := 16) (L1 := [(3000, 0), (9, 0), (0, a2), (0, a3), (1, 0), (0, a5), (0, a6), (1, 0), (1, 0), (0, s0), (1, 0), (1, 0), (1, 0), (1, 0), (1, 0), (1, 0), (1, 0), (0, r296), (0, r294), (1, 0), (1, 0), (1, 0)]) rfl ?_
        refine pv_unset (i := 17) (L1 := [(3000, 0), (9, 0), (0, a2), (0, a3), (1, 0), (0, a5), (0, a6), (1, 0), (1, 0), (0, s0), (1, 0), (1, 0), (1, 0), (1, 0), (1, 0), (1, 0), (1, 0), (1, 0), (0, r294), (1, 0), (1, 0), (1, 0)]) rfl ?_
        refine pv_unset (i := 18) (L1 := [(3000, 0), (9, 0), (0, a2), (0, a3), (1, 0), (0, a5), (0, a6), (1, 0), (1, 0), (0, s0), (1, 0), (1, 0), (1, 0), (1, 0), (1, 0), (1, 0), (1, 0), (1, 0), (1, 0), (1, 0), (1, 0), (1, 0)]) rfl ?_
        exact vjp_L_law_315 hl0 hsc (by intros; exact hK53 _ _ _ _ _ _ (by assumption)) _ _ _ _ _ _ _ h
      · replace h := h.2 c312
        refine pv_iconst (v := 1) (n := 258) d_L_law_257 (by decide) rfl ?_
        refine pv_goto (tgt := 315) d_L_law_258 (by decide) ?_
        refine pv_unset (i := 8) (L1 := [(3000, 0), (9, 0), (0, a2), (0, a3), (1, 0), (0, a5), (0, a6), (1, 0), (1, 0), (0, s0), (0, v198), (0, r201), (0, v203), (0, v205), (0, v207), (0, v209), (0, v213), (0, r296), (0, r294), (1, 0), (1, 0), (1, 0)]) rfl ?_
        refine pv_unset (i := 10) (L1 := [(3000, 0), (9, 0), (0, a2), (0, a3), (1, 0), (0, a5), (0, a6), (1, 0), (1, 0), (0, s0), (1, 0), (0, r201), (0, v203), (0, v205), (0, v207), (0, v209), (0, v213), (0, r296), (0, r294), (1, 0), (1, 0), (1, 0)]) rfl ?_
        refine pv_unset (i := 11) (L1 := [(3000, 0), (9, 0), (0, a2), (0, a3), (1, 0), (0, a5), (0, a6), (1, 0), (1, 0), (0, s0), (1, 0), (1, 0), (0, v203), (0, v205), (0, v207), (0, v209), (0, v213), (0, r296), (0, r294), (1, 0), (1, 0), (1, 0)]) rfl ?_
        refine pv_unset (i := 12) (L1 := [(3000, 0), (9, 0), (0, a2), (0, a3), (1, 0), (0, a5), (0, a6), (1, 0), (1, 0), (0, s0), (1, 0), (1, 0), (1, 0), (0, v205), (0, v207), (0, v209), (0, v213), (0, r296), (0, r294), (1, 0), (1, 0), (1, 0)]) rfl ?_
        refine pv_unset (i := 13) (L1 := [(3000, 0), (9, 0), (0, a2), (0, a3), (1, 0), (0, a5), (0, a6), (1, 0), (1, 0), (0, s0), (1, 0), (1, 0), (1, 0), (1, 0), (0, v207), (0, v209), (0, v213), (0, r296), (0, r294), (1, 0), (1, 0), (1, 0)]) rfl ?_
        refine pv_unset (i := 14) (L1 := [(3000, 0), (9, 0), (0, a2), (0, a3), (1, 0), (0, a5), (0, a6), (1, 0), (1, 0), (0, s0), (1, 0), (1, 0), (1, 0), (1, 0), (1, 0), (0, v209), (0, v213), (0, r296), (0, r294), (1, 0), (1, 0), (1, 0)]) rfl ?_
        refine pv_unset (i := 15) (L1 := [(3000, 0), (9, 0), (0, a2), (0, a3), (1, 0), (0, a5), (0, a6), (1, 0), (1, 0), (0, s0), (1, 0), (1, 0), (1, 0), (1, 0), (1, 0), (1, 0), (0, v213), (0, r296), (0, r294), (1, 0), (1, 0), (1, 0)]) rfl ?_
        refine pv_unset (i := 16) (L1 := [(3000, 0), (9, 0), (0, a2), (0, a3), (1, 0), (0, a5), (0, a6), (1, 0), (1, 0), (0, s0), (1, 0), (1, 0), (1, 0), (1, 0), (1, 0), (1, 0), (1, 0), (0, r296), (0, r294), (1, 0), (1, 0), (1, 0)]) rfl ?_
        refine pv_unset (i := 17) (L1 := [(3000, 0), (9, 0), (0, a2), (0, a3), (1, 0), (0, a5), (0, a6), (1, 0), (1, 0), (0, s0), (1, 0), (1, 0), (1, 0), (1, 0), (1, 0), (1, 0), (1, 0), (1, 0), (0, r294), (1, 0), (1, 0), (1, 0)]) rfl ?_
        refine pv_unset (i := 18) (L1 := [(3000, 0), (9, 0), (0, a2), (0, a3), (1, 0), (0, a5), (0, a6), (1, 0), (1, 0), (0, s0), (1, 0), (1, 0), (1, 0), (1, 0), (1, 0), (1, 0), (1, 0), (1, 0), (1, 0), (1, 0), (1, 0), (1, 0)]) rfl ?_
        exact vjp_L_law_315 hl0 hsc (by intros; exact hK53 _ _ _ _ _ _ (by assumption)) _ _ _ _ _ _ _ h
set_option maxHeartbeats 4000000 in
set_option maxRecDepth 20000 in
def jp_L_law_97 (Ln : Nat) (xs : Nat → Int32) (Q : pw_W → Int32 → Prop) (X : pw_W → Nat → Prop) (K53 : Int32 → Int32 → Int32 → Int32 → Int32 → pw_W → Prop) (a2 a3 a5 a6 s0 : Int32) (w : pw_W) : Prop := ∀ v313, v313 = ((s0 >>> (4 &&& 31)) &&& 268435455) → ((2 : Int32) ≤ a6 → jp_L_law_123 Ln xs Q X K53 a2 a3 a5 a6 v313 (s0 &&& 15) w) ∧ (¬ (2 : Int32) ≤ a6 → jp_L_law_123 Ln xs Q X K53 a2 a3 a5 a6 v313 0 w)
set_option maxHeartbeats 4000000 in
set_option maxRecDepth 20000 in
theorem vjp_L_law_97 {l : Launch} {g : pw_G} {Q : pw_W → Int32 → Prop} {X : pw_W → Nat → Prop} {Ln : Nat} {xs : Nat → Int32} (hl0 : l.stackTraces = false) (hsc : pw_sc g Ln xs) {K53 : Int32 → Int32 → Int32 → Int32 → Int32 → pw_W → Prop} (hK53 : ∀ (a2 a3 a4 a5 a6 : Int32) (w : pw_W), K53 a2 a3 a4 a5 a6 w → pw_V l g cx_L_law Q X 53 [(3000, 0), (9, 0), (0, a2), (0, a3), (0, a4), (0, a5), (0, a6), (1, 0), (1, 0), (1, 0), (1, 0), (1, 0), (1, 0), (1, 0), (1, 0), (1, 0), (1, 0), (1, 0), (1, 0), (1, 0), (1, 0), (1, 0)] [] w) (a2 a3 a5 a6 s0 : Int32) (w : pw_W) (h : jp_L_law_97 Ln xs Q X K53 a2 a3 a5 a6 s0 w) : pw_V l g cx_L_law Q X 97 [(3000, 0), (9, 0), (0, a2), (0, a3), (1, 0), (0, a5), (0, a6), (1, 0), (1, 0), (1, 0), (1, 0), (1, 0), (1, 0), (1, 0), (1, 0), (1, 0), (1, 0), (1, 0), (1, 0), (1, 0), (1, 0), (1, 0)] [(0, s0)] w := by
  unfold jp_L_law_97 at h
  refine pv_istore (n := 99) (L' := [(3000, 0), (9, 0), (0, a2), (0, a3), (1, 0), (0, a5), (0, a6), (0, s0), (1, 0), (1, 0), (1, 0), (1, 0), (1, 0), (1, 0), (1, 0), (1, 0), (1, 0), (1, 0), (1, 0), (1, 0), (1, 0), (1, 0)]) d_L_law_97 (by decide) rfl rfl ?_
  refine pv_iload (n := 101) d_L_law_99 rfl rfl ?_
  refine pv_iconst (v := 4) (n := 102) d_L_law_101 (by decide) rfl ?_
  refine pv_ishr (n := 103) d_L_law_102 rfl ?_
  refine pv_ldc (v := 268435455) (n := 105) d_L_law_103 q_567 rfl ?_
  refine pv_iand (n := 106) d_L_law_105 rfl ?_
  refine pv_nm (fun v313 e314 => ?_)
  replace h := h v313 e314
  refine pv_istore (n := 108) (L' := [(3000, 0), (9, 0), (0, a2), (0, a3), (1, 0), (0, a5), (0, a6), (0, s0), (0, v313), (1, 0), (1, 0), (1, 0), (1, 0), (1, 0), (1, 0), (1, 0), (1, 0), (1, 0), (1, 0), (1, 0), (1, 0), (1, 0)]) d_L_law_106 (by decide) rfl rfl ?_
  refine pv_iload (n := 110) d_L_law_108 rfl rfl ?_
  refine pv_iconst (v := 2) (n := 111) d_L_law_110 (by decide) rfl ?_
  refine pv_icmp_ge (n := 114) (tgt := 118) d_L_law_111 (by decide) rfl (fun c315 => ?_) (fun c315 => ?_)
  · replace h := h.1 c315
    refine pv_iload (n := 120) d_L_law_118 rfl rfl ?_
    refine pv_bipush (v := 15) (n := 122) d_L_law_120 (by decide) rfl ?_
    refine pv_iand (n := 123) d_L_law_122 rfl ?_
    refine pv_unset (i := 7) (L1 := [(3000, 0), (9, 0), (0, a2), (0, a3), (1, 0), (0, a5), (0, a6), (1, 0), (0, v313), (1, 0), (1, 0), (1, 0), (1, 0), (1, 0), (1, 0), (1, 0), (1, 0), (1, 0), (1, 0), (1, 0), (1, 0), (1, 0)]) rfl ?_
    exact vjp_L_law_123 hl0 hsc (by intros; exact hK53 _ _ _ _ _ _ (by assumption)) _ _ _ _ _ _ _ h
  · replace h := h.2 c315
    refine pv_iconst (v := 0) (n := 115) d_L_law_114 (by decide) rfl ?_
    refine pv_goto (tgt := 123) d_L_law_115 (by decide) ?_
    refine pv_unset (i := 7) (L1 := [(3000, 0), (9, 0), (0, a2), (0, a3), (1, 0), (0, a5), (0, a6), (1, 0), (0, v313), (1, 0), (1, 0), (1, 0), (1, 0), (1, 0), (1, 0), (1, 0), (1, 0), (1, 0), (1, 0), (1, 0), (1, 0), (1, 0)]) rfl ?_
    exact vjp_L_law_123 hl0 hsc (by intros; exact hK53 _ _ _ _ _ _ (by assumption)) _ _ _ _ _ _ _ h
set_option maxHeartbeats 4000000 in
set_option maxRecDepth 20000 in
def lp_L_law_53 (Ln : Nat) (xs : Nat → Int32) (Q : pw_W → Int32 → Prop) (X : pw_W → Nat → Prop) : Nat → Int32 → Int32 → Int32 → Int32 → Int32 → pw_W → Prop := fun k => Nat.rec (motive := fun _ => Int32 → Int32 → Int32 → Int32 → Int32 → pw_W → Prop) (fun _ _ _ _ _ _ => False) (fun _ ih a2 a3 a4 a5 a6 w => (a5 ≤ a6 → (a4 = 0 ∨ a4 = 1) ∧ Q w a4) ∧ (¬ a5 ≤ a6 → (a4 = 0 → (a4 = 0 ∨ a4 = 1) ∧ Q w a4) ∧ (¬ a4 = 0 → ((nI Ln) ≤ a6 → jp_L_law_97 Ln xs Q X ih a2 a3 a5 a6 (((((3390017 : Int32) * a6) * a6) + ((118043 : Int32) * a6)) + 223) w) ∧ (¬ (nI Ln) ≤ a6 → pw_jn a6 Ln ∧ jp_L_law_97 Ln xs Q X ih a2 a3 a5 a6 (xs (pw_i a6)) w)))) k
set_option maxHeartbeats 4000000 in
set_option maxRecDepth 20000 in
theorem lp_L_law_53_s {Q : pw_W → Int32 → Prop} {X : pw_W → Nat → Prop} {Ln : Nat} {xs : Nat → Int32}  {k : Nat} {a2 a3 a4 a5 a6 : Int32} {w : pw_W} : lp_L_law_53 Ln xs Q X (k + 1) a2 a3 a4 a5 a6 w = (let ih := lp_L_law_53 Ln xs Q X k; (a5 ≤ a6 → (a4 = 0 ∨ a4 = 1) ∧ Q w a4) ∧ (¬ a5 ≤ a6 → (a4 = 0 → (a4 = 0 ∨ a4 = 1) ∧ Q w a4) ∧ (¬ a4 = 0 → ((nI Ln) ≤ a6 → jp_L_law_97 Ln xs Q X ih a2 a3 a5 a6 (((((3390017 : Int32) * a6) * a6) + ((118043 : Int32) * a6)) + 223) w) ∧ (¬ (nI Ln) ≤ a6 → pw_jn a6 Ln ∧ jp_L_law_97 Ln xs Q X ih a2 a3 a5 a6 (xs (pw_i a6)) w)))) := rfl
set_option maxHeartbeats 4000000 in
set_option maxRecDepth 20000 in
theorem vlp_L_law_53 {l : Launch} {g : pw_G} {Q : pw_W → Int32 → Prop} {X : pw_W → Nat → Prop} {Ln : Nat} {xs : Nat → Int32} (hl0 : l.stackTraces = false) (hsc : pw_sc g Ln xs) : ∀ (k : Nat) (a2 a3 a4 a5 a6 : Int32) (w : pw_W), lp_L_law_53 Ln xs Q X k a2 a3 a4 a5 a6 w → pw_V l g cx_L_law Q X 53 [(3000, 0), (9, 0), (0, a2), (0, a3), (0, a4), (0, a5), (0, a6), (1, 0), (1, 0), (1, 0), (1, 0), (1, 0), (1, 0), (1, 0), (1, 0), (1, 0), (1, 0), (1, 0), (1, 0), (1, 0), (1, 0), (1, 0)] [] w := by
  intro k; induction k with
  | zero => intro _ _ _ _ _ _ h; exact h.elim
  | succ k ih =>
    intro a2 a3 a4 a5 a6 w h
    rw [lp_L_law_53_s] at h
    refine pv_iload (n := 55) d_L_law_53 rfl rfl ?_
    refine pv_iload (n := 57) d_L_law_55 rfl rfl ?_
    refine pv_icmp_ge (n := 60) (tgt := 1883) d_L_law_57 (by decide) rfl (fun c316 => ?_) (fun c316 => ?_)
    · replace h := h.1 c316
      refine pv_iload (n := 1885) d_L_law_1883 rfl rfl ?_
      obtain ⟨g317, h⟩ := h
      exact pv_zret rfl rfl d_L_law_1885 g317 h
    · replace h := h.2 c316
      refine pv_iload (n := 62) d_L_law_60 rfl rfl ?_
      refine pv_if_eq (n := 65) (tgt := 1883) d_L_law_62 (by decide) rfl (fun c318 => ?_) (fun c318 => ?_)
      · replace h := h.1 c318
        refine pv_iload (n := 1885) d_L_law_1883 rfl rfl ?_
        obtain ⟨g319, h⟩ := h
        exact pv_zret rfl rfl d_L_law_1885 g319 h
      · replace h := h.2 c318
        refine pv_iload (n := 67) d_L_law_65 rfl rfl ?_
        refine pv_aload_n (n := 68) d_L_law_67 rfl rfl rfl ?_
        refine pv_slen (n := 69) hsc d_L_law_68 rfl ?_
        refine pv_icmp_ge (n := 72) (tgt := 79) d_L_law_69 (by decide) rfl (fun c320 => ?_) (fun c320 => ?_)
        · replace h := h.1 c320
          refine pv_ldc (v := 3390017) (n := 81) d_L_law_79 q_568 rfl ?_
          refine pv_iload (n := 83) d_L_law_81 rfl rfl ?_
          refine pv_imul (n := 84) d_L_law_83 rfl ?_
          refine pv_iload (n := 86) d_L_law_84 rfl rfl ?_
          refine pv_imul (n := 87) d_L_law_86 rfl ?_
          refine pv_ldc (v := 118043) (n := 89) d_L_law_87 q_569 rfl ?_
          refine pv_iload (n := 91) d_L_law_89 rfl rfl ?_
          refine pv_imul (n := 92) d_L_law_91 rfl ?_
          refine pv_iadd (n := 93) d_L_law_92 rfl ?_
          refine pv_sipush (v := 223) (n := 96) d_L_law_93 (by decide) rfl ?_
          refine pv_iadd (n := 97) d_L_law_96 rfl ?_
          refine pv_unset (i := 4) (L1 := [(3000, 0), (9, 0), (0, a2), (0, a3), (1, 0), (0, a5), (0, a6), (1, 0), (1, 0), (1, 0), (1, 0), (1, 0), (1, 0), (1, 0), (1, 0), (1, 0), (1, 0), (1, 0), (1, 0), (1, 0), (1, 0), (1, 0)]) rfl ?_
          exact vjp_L_law_97 hl0 hsc (by intros; exact ih _ _ _ _ _ _ (by assumption)) _ _ _ _ _ _ h
        · replace h := h.2 c320
          refine pv_aload_n (n := 73) d_L_law_72 rfl rfl rfl ?_
          refine pv_iload (n := 75) d_L_law_73 rfl rfl ?_
          obtain ⟨g321, h⟩ := h
          refine pv_sld (n := 76) hsc d_L_law_75 g321 rfl ?_
          refine pv_goto (tgt := 97) d_L_law_76 (by decide) ?_
          refine pv_unset (i := 4) (L1 := [(3000, 0), (9, 0), (0, a2), (0, a3), (1, 0), (0, a5), (0, a6), (1, 0), (1, 0), (1, 0), (1, 0), (1, 0), (1, 0), (1, 0), (1, 0), (1, 0), (1, 0), (1, 0), (1, 0), (1, 0), (1, 0), (1, 0)]) rfl ?_
          exact vjp_L_law_97 hl0 hsc (by intros; exact ih _ _ _ _ _ _ (by assumption)) _ _ _ _ _ _ h
set_option maxHeartbeats 4000000 in
set_option maxRecDepth 20000 in
def jp_L_law_48 (Ln : Nat) (xs : Nat → Int32) (Q : pw_W → Int32 → Prop) (X : pw_W → Nat → Prop) (a2 a3 a4 s0 : Int32) (w : pw_W) : Prop := ∃ k322, lp_L_law_53 Ln xs Q X k322 a2 a3 a4 s0 0 w
set_option maxHeartbeats 4000000 in
set_option maxRecDepth 20000 in
theorem vjp_L_law_48 {l : Launch} {g : pw_G} {Q : pw_W → Int32 → Prop} {X : pw_W → Nat → Prop} {Ln : Nat} {xs : Nat → Int32} (hl0 : l.stackTraces = false) (hsc : pw_sc g Ln xs) (a2 a3 a4 s0 : Int32) (w : pw_W) (h : jp_L_law_48 Ln xs Q X a2 a3 a4 s0 w) : pw_V l g cx_L_law Q X 48 [(3000, 0), (9, 0), (0, a2), (0, a3), (0, a4), (1, 0), (1, 0), (1, 0), (1, 0), (1, 0), (1, 0), (1, 0), (1, 0), (1, 0), (1, 0), (1, 0), (1, 0), (1, 0), (1, 0), (1, 0), (1, 0), (1, 0)] [(0, s0)] w := by
  unfold jp_L_law_48 at h
  refine pv_istore (n := 50) (L' := [(3000, 0), (9, 0), (0, a2), (0, a3), (0, a4), (0, s0), (1, 0), (1, 0), (1, 0), (1, 0), (1, 0), (1, 0), (1, 0), (1, 0), (1, 0), (1, 0), (1, 0), (1, 0), (1, 0), (1, 0), (1, 0), (1, 0)]) d_L_law_48 (by decide) rfl rfl ?_
  refine pv_iconst (v := 0) (n := 51) d_L_law_50 (by decide) rfl ?_
  refine pv_istore (n := 53) (L' := [(3000, 0), (9, 0), (0, a2), (0, a3), (0, a4), (0, s0), (0, 0), (1, 0), (1, 0), (1, 0), (1, 0), (1, 0), (1, 0), (1, 0), (1, 0), (1, 0), (1, 0), (1, 0), (1, 0), (1, 0), (1, 0), (1, 0)]) d_L_law_51 (by decide) rfl rfl ?_
  obtain ⟨k322, h⟩ := h
  exact vlp_L_law_53 hl0 hsc _ _ _ _ _ _ _ h
set_option maxHeartbeats 4000000 in
set_option maxRecDepth 20000 in
def wp_L_law (Ln : Nat) (xs : Nat → Int32) (w : pw_W) (Q : pw_W → Int32 → Prop) (X : pw_W → Nat → Prop) : Prop := pw_nv w 7 = 0 ∧ pw_rm w 7 12 ∧ ∀ w325, w325 = pw_nw w 7 0 12 → wp_X_init w325  (fun w327 r328 => wp_L_isWhole w327  (fun w329 r330 => ((40 : Int32) ≤ (nI Ln) → ((80 : Int32) ≤ (nI Ln) → jp_L_law_48 Ln xs Q X 0 0 r330 210 w329) ∧ (¬ (80 : Int32) ≤ (nI Ln) → jp_L_law_48 Ln xs Q X 0 0 r330 ((2 : Int32) * (nI Ln)) w329)) ∧ (¬ (40 : Int32) ≤ (nI Ln) → jp_L_law_48 Ln xs Q X 0 0 r330 130 w329)) (fun _ _ => False)) (fun _ _ => False)
set_option maxHeartbeats 4000000 in
set_option maxRecDepth 20000 in
theorem vw_L_law {l : Launch} {g : pw_G} {Q : pw_W → Int32 → Prop} {X : pw_W → Nat → Prop} {Ln : Nat} {xs : Nat → Int32} (hl0 : l.stackTraces = false) (hsc : pw_sc g Ln xs) {w : pw_W} (h : wp_L_law Ln xs w Q X) : pw_V l g cx_L_law Q X 0 [(3000, 0), (1, 0), (1, 0), (1, 0), (1, 0), (1, 0), (1, 0), (1, 0), (1, 0), (1, 0), (1, 0), (1, 0), (1, 0), (1, 0), (1, 0), (1, 0), (1, 0), (1, 0), (1, 0), (1, 0), (1, 0), (1, 0)] [] w := by
  unfold wp_L_law at h
  obtain ⟨g323, h⟩ := h
  obtain ⟨g324, h⟩ := h
  refine nw0_7 (n := 3) g323 q_570 d_L_law_0 g324 rfl (fun w325 e326 => ?_)
  replace h := h w325 e326
  refine pv_dup (n := 4) d_L_law_3 (by decide) rfl ?_
  refine pv_callI (n := 7) (x := 0) (f := 7) [] [(9, 0)] (con_X_init hl0 h) rfl rfl q_572 q_573 q_62 q_571 pyo_X_init (by decide) rfl rfl (by decide) d_L_law_4 rfl (fun w327 r328 h _ => ?_) (fun _ _ h => h.elim)
  show pw_V l g cx_L_law Q X 7 [(3000, 0), (1, 0), (1, 0), (1, 0), (1, 0), (1, 0), (1, 0), (1, 0), (1, 0), (1, 0), (1, 0), (1, 0), (1, 0), (1, 0), (1, 0), (1, 0), (1, 0), (1, 0), (1, 0), (1, 0), (1, 0), (1, 0)] [(9, 0)] w327
  refine pv_astore_n (n := 8) (L' := [(3000, 0), (9, 0), (1, 0), (1, 0), (1, 0), (1, 0), (1, 0), (1, 0), (1, 0), (1, 0), (1, 0), (1, 0), (1, 0), (1, 0), (1, 0), (1, 0), (1, 0), (1, 0), (1, 0), (1, 0), (1, 0), (1, 0)]) d_L_law_7 rfl (by decide) rfl rfl ?_
  refine pv_iconst (v := 0) (n := 9) d_L_law_8 (by decide) rfl ?_
  refine pv_istore_n (n := 10) (L' := [(3000, 0), (9, 0), (0, 0), (1, 0), (1, 0), (1, 0), (1, 0), (1, 0), (1, 0), (1, 0), (1, 0), (1, 0), (1, 0), (1, 0), (1, 0), (1, 0), (1, 0), (1, 0), (1, 0), (1, 0), (1, 0), (1, 0)]) d_L_law_9 rfl (by decide) rfl rfl ?_
  refine pv_iconst (v := 0) (n := 11) d_L_law_10 (by decide) rfl ?_
  refine pv_istore_n (n := 12) (L' := [(3000, 0), (9, 0), (0, 0), (0, 0), (1, 0), (1, 0), (1, 0), (1, 0), (1, 0), (1, 0), (1, 0), (1, 0), (1, 0), (1, 0), (1, 0), (1, 0), (1, 0), (1, 0), (1, 0), (1, 0), (1, 0), (1, 0)]) d_L_law_11 rfl (by decide) rfl rfl ?_
  refine pv_aload_n (n := 13) d_L_law_12 rfl rfl rfl ?_
  refine pv_callS (n := 16) [(9, 0)] [] (con_L_isWhole hl0 h) q_531 q_532 q_483 q_530 pyo_L_isWhole (by decide) rfl rfl d_L_law_13 rfl (fun w329 r330 h _ => ?_) (fun _ _ h => h.elim)
  show pw_V l g cx_L_law Q X 16 [(3000, 0), (9, 0), (0, 0), (0, 0), (1, 0), (1, 0), (1, 0), (1, 0), (1, 0), (1, 0), (1, 0), (1, 0), (1, 0), (1, 0), (1, 0), (1, 0), (1, 0), (1, 0), (1, 0), (1, 0), (1, 0), (1, 0)] [(0, r330)] w329
  refine pv_istore (n := 18) (L' := [(3000, 0), (9, 0), (0, 0), (0, 0), (0, r330), (1, 0), (1, 0), (1, 0), (1, 0), (1, 0), (1, 0), (1, 0), (1, 0), (1, 0), (1, 0), (1, 0), (1, 0), (1, 0), (1, 0), (1, 0), (1, 0), (1, 0)]) d_L_law_16 (by decide) rfl rfl ?_
  refine pv_aload_n (n := 19) d_L_law_18 rfl rfl rfl ?_
  refine pv_slen (n := 20) hsc d_L_law_19 rfl ?_
  refine pv_bipush (v := 40) (n := 22) d_L_law_20 (by decide) rfl ?_
  refine pv_icmp_ge (n := 25) (tgt := 31) d_L_law_22 (by decide) rfl (fun c331 => ?_) (fun c331 => ?_)
  · replace h := h.1 c331
    refine pv_aload_n (n := 32) d_L_law_31 rfl rfl rfl ?_
    refine pv_slen (n := 33) hsc d_L_law_32 rfl ?_
    refine pv_bipush (v := 80) (n := 35) d_L_law_33 (by decide) rfl ?_
    refine pv_icmp_ge (n := 38) (tgt := 45) d_L_law_35 (by decide) rfl (fun c332 => ?_) (fun c332 => ?_)
    · replace h := h.1 c332
      refine pv_sipush (v := 210) (n := 48) d_L_law_45 (by decide) rfl ?_
      exact vjp_L_law_48 hl0 hsc _ _ _ _ _ h
    · replace h := h.2 c332
      refine pv_iconst (v := 2) (n := 39) d_L_law_38 (by decide) rfl ?_
      refine pv_aload_n (n := 40) d_L_law_39 rfl rfl rfl ?_
      refine pv_slen (n := 41) hsc d_L_law_40 rfl ?_
      refine pv_imul (n := 42) d_L_law_41 rfl ?_
      refine pv_goto (tgt := 48) d_L_law_42 (by decide) ?_
      exact vjp_L_law_48 hl0 hsc _ _ _ _ _ h
  · replace h := h.2 c331
    refine pv_sipush (v := 130) (n := 28) d_L_law_25 (by decide) rfl ?_
    refine pv_goto (tgt := 48) d_L_law_28 (by decide) ?_
    exact vjp_L_law_48 hl0 hsc _ _ _ _ _ h
