theorem d_M_merge_0 : decode (pw_cc cx_M_merge) 0 = .ok (.aload_n 0, 1) := by decide +kernel
theorem d_M_merge_1 : decode (pw_cc cx_M_merge) 1 = .ok (.iload_n 1, 1) := by decide +kernel
theorem d_M_merge_2 : decode (pw_cc cx_M_merge) 2 = .ok (.invokevirtual 159, 3) := by decide +kernel
theorem d_M_merge_5 : decode (pw_cc cx_M_merge) 5 = .ok (.ifCond .eq 15, 3) := by decide +kernel
theorem d_M_merge_8 : decode (pw_cc cx_M_merge) 8 = .ok (.aload_n 0, 1) := by decide +kernel
theorem d_M_merge_9 : decode (pw_cc cx_M_merge) 9 = .ok (.iload_n 2, 1) := by decide +kernel
theorem d_M_merge_10 : decode (pw_cc cx_M_merge) 10 = .ok (.invokevirtual 159, 3) := by decide +kernel
theorem d_M_merge_13 : decode (pw_cc cx_M_merge) 13 = .ok (.ifCond .eq 7, 3) := by decide +kernel
theorem d_M_merge_16 : decode (pw_cc cx_M_merge) 16 = .ok (.iconst 1, 1) := by decide +kernel
theorem d_M_merge_17 : decode (pw_cc cx_M_merge) 17 = .ok (.goto 4, 3) := by decide +kernel
theorem d_M_merge_20 : decode (pw_cc cx_M_merge) 20 = .ok (.iconst 0, 1) := by decide +kernel
theorem d_M_merge_21 : decode (pw_cc cx_M_merge) 21 = .ok (.istore_n 3, 1) := by decide +kernel
theorem d_M_merge_22 : decode (pw_cc cx_M_merge) 22 = .ok (.iload_n 3, 1) := by decide +kernel
theorem d_M_merge_23 : decode (pw_cc cx_M_merge) 23 = .ok (.ifCond .eq 11, 3) := by decide +kernel
theorem d_M_merge_26 : decode (pw_cc cx_M_merge) 26 = .ok (.aload_n 0, 1) := by decide +kernel
theorem d_M_merge_27 : decode (pw_cc cx_M_merge) 27 = .ok (.iload_n 1, 1) := by decide +kernel
theorem d_M_merge_28 : decode (pw_cc cx_M_merge) 28 = .ok (.invokevirtual 172, 3) := by decide +kernel
theorem d_M_merge_31 : decode (pw_cc cx_M_merge) 31 = .ok (.goto 4, 3) := by decide +kernel
theorem d_M_merge_34 : decode (pw_cc cx_M_merge) 34 = .ok (.iconst 0, 1) := by decide +kernel
theorem d_M_merge_35 : decode (pw_cc cx_M_merge) 35 = .ok (.istore 4, 2) := by decide +kernel
theorem d_M_merge_37 : decode (pw_cc cx_M_merge) 37 = .ok (.iload_n 3, 1) := by decide +kernel
theorem d_M_merge_38 : decode (pw_cc cx_M_merge) 38 = .ok (.ifCond .eq 11, 3) := by decide +kernel
theorem d_M_merge_41 : decode (pw_cc cx_M_merge) 41 = .ok (.aload_n 0, 1) := by decide +kernel
theorem d_M_merge_42 : decode (pw_cc cx_M_merge) 42 = .ok (.iload_n 2, 1) := by decide +kernel
theorem d_M_merge_43 : decode (pw_cc cx_M_merge) 43 = .ok (.invokevirtual 172, 3) := by decide +kernel
theorem d_M_merge_46 : decode (pw_cc cx_M_merge) 46 = .ok (.goto 4, 3) := by decide +kernel
theorem d_M_merge_49 : decode (pw_cc cx_M_merge) 49 = .ok (.iconst 0, 1) := by decide +kernel
theorem d_M_merge_50 : decode (pw_cc cx_M_merge) 50 = .ok (.istore 5, 2) := by decide +kernel
theorem d_M_merge_52 : decode (pw_cc cx_M_merge) 52 = .ok (.iload_n 3, 1) := by decide +kernel
theorem d_M_merge_53 : decode (pw_cc cx_M_merge) 53 = .ok (.ifCond .eq 49, 3) := by decide +kernel
theorem d_M_merge_56 : decode (pw_cc cx_M_merge) 56 = .ok (.iload 4, 2) := by decide +kernel
theorem d_M_merge_58 : decode (pw_cc cx_M_merge) 58 = .ok (.iload 5, 2) := by decide +kernel
theorem d_M_merge_60 : decode (pw_cc cx_M_merge) 60 = .ok (.if_icmp .eq 42, 3) := by decide +kernel
theorem d_M_merge_63 : decode (pw_cc cx_M_merge) 63 = .ok (.aload_n 0, 1) := by decide +kernel
theorem d_M_merge_64 : decode (pw_cc cx_M_merge) 64 = .ok (.getfield 40, 3) := by decide +kernel
theorem d_M_merge_67 : decode (pw_cc cx_M_merge) 67 = .ok (.iload 4, 2) := by decide +kernel
theorem d_M_merge_69 : decode (pw_cc cx_M_merge) 69 = .ok (.iaload, 1) := by decide +kernel
theorem d_M_merge_70 : decode (pw_cc cx_M_merge) 70 = .ok (.aload_n 0, 1) := by decide +kernel
theorem d_M_merge_71 : decode (pw_cc cx_M_merge) 71 = .ok (.getfield 40, 3) := by decide +kernel
theorem d_M_merge_74 : decode (pw_cc cx_M_merge) 74 = .ok (.iload 5, 2) := by decide +kernel
theorem d_M_merge_76 : decode (pw_cc cx_M_merge) 76 = .ok (.iaload, 1) := by decide +kernel
theorem d_M_merge_77 : decode (pw_cc cx_M_merge) 77 = .ok (.if_icmp .ne 25, 3) := by decide +kernel
theorem d_M_merge_80 : decode (pw_cc cx_M_merge) 80 = .ok (.aload_n 0, 1) := by decide +kernel
theorem d_M_merge_81 : decode (pw_cc cx_M_merge) 81 = .ok (.getfield 131, 3) := by decide +kernel
theorem d_M_merge_84 : decode (pw_cc cx_M_merge) 84 = .ok (.aload_n 0, 1) := by decide +kernel
theorem d_M_merge_85 : decode (pw_cc cx_M_merge) 85 = .ok (.iload 4, 2) := by decide +kernel
theorem d_M_merge_87 : decode (pw_cc cx_M_merge) 87 = .ok (.iload 5, 2) := by decide +kernel
theorem d_M_merge_89 : decode (pw_cc cx_M_merge) 89 = .ok (.invokevirtual 195, 3) := by decide +kernel
theorem d_M_merge_92 : decode (pw_cc cx_M_merge) 92 = .ok (.iadd, 1) := by decide +kernel
theorem d_M_merge_93 : decode (pw_cc cx_M_merge) 93 = .ok (.bipush 80, 2) := by decide +kernel
theorem d_M_merge_95 : decode (pw_cc cx_M_merge) 95 = .ok (.if_icmp .gt 7, 3) := by decide +kernel
theorem d_M_merge_98 : decode (pw_cc cx_M_merge) 98 = .ok (.iconst 1, 1) := by decide +kernel
theorem d_M_merge_99 : decode (pw_cc cx_M_merge) 99 = .ok (.goto 4, 3) := by decide +kernel
theorem d_M_merge_102 : decode (pw_cc cx_M_merge) 102 = .ok (.iconst 0, 1) := by decide +kernel
theorem d_M_merge_103 : decode (pw_cc cx_M_merge) 103 = .ok (.istore 6, 2) := by decide +kernel
theorem d_M_merge_105 : decode (pw_cc cx_M_merge) 105 = .ok (.aload_n 0, 1) := by decide +kernel
theorem d_M_merge_106 : decode (pw_cc cx_M_merge) 106 = .ok (.iload_n 3, 1) := by decide +kernel
theorem d_M_merge_107 : decode (pw_cc cx_M_merge) 107 = .ok (.ifCond .ne 7, 3) := by decide +kernel
theorem d_M_merge_110 : decode (pw_cc cx_M_merge) 110 = .ok (.iconst 1, 1) := by decide +kernel
theorem d_M_merge_111 : decode (pw_cc cx_M_merge) 111 = .ok (.goto 13, 3) := by decide +kernel
theorem d_M_merge_114 : decode (pw_cc cx_M_merge) 114 = .ok (.iload 6, 2) := by decide +kernel
theorem d_M_merge_116 : decode (pw_cc cx_M_merge) 116 = .ok (.ifCond .ne 7, 3) := by decide +kernel
theorem d_M_merge_119 : decode (pw_cc cx_M_merge) 119 = .ok (.iconst 2, 1) := by decide +kernel
theorem d_M_merge_120 : decode (pw_cc cx_M_merge) 120 = .ok (.goto 4, 3) := by decide +kernel
theorem d_M_merge_123 : decode (pw_cc cx_M_merge) 123 = .ok (.iconst 0, 1) := by decide +kernel
theorem d_M_merge_124 : decode (pw_cc cx_M_merge) 124 = .ok (.invokevirtual 179, 3) := by decide +kernel
theorem d_M_merge_127 : decode (pw_cc cx_M_merge) 127 = .ok (.ifCond .ne 5, 3) := by decide +kernel
theorem d_M_merge_130 : decode (pw_cc cx_M_merge) 130 = .ok (.iconst 0, 1) := by decide +kernel
theorem d_M_merge_131 : decode (pw_cc cx_M_merge) 131 = .ok (.ireturn, 1) := by decide +kernel
theorem d_M_merge_132 : decode (pw_cc cx_M_merge) 132 = .ok (.iconst 0, 1) := by decide +kernel
theorem d_M_merge_133 : decode (pw_cc cx_M_merge) 133 = .ok (.istore 7, 2) := by decide +kernel
theorem d_M_merge_135 : decode (pw_cc cx_M_merge) 135 = .ok (.iload 7, 2) := by decide +kernel
theorem d_M_merge_137 : decode (pw_cc cx_M_merge) 137 = .ok (.bipush 100, 2) := by decide +kernel
theorem d_M_merge_139 : decode (pw_cc cx_M_merge) 139 = .ok (.if_icmp .ge 30, 3) := by decide +kernel
theorem d_M_merge_142 : decode (pw_cc cx_M_merge) 142 = .ok (.aload_n 0, 1) := by decide +kernel
theorem d_M_merge_143 : decode (pw_cc cx_M_merge) 143 = .ok (.getfield 16, 3) := by decide +kernel
theorem d_M_merge_146 : decode (pw_cc cx_M_merge) 146 = .ok (.iload 7, 2) := by decide +kernel
theorem d_M_merge_148 : decode (pw_cc cx_M_merge) 148 = .ok (.iaload, 1) := by decide +kernel
theorem d_M_merge_149 : decode (pw_cc cx_M_merge) 149 = .ok (.iload 4, 2) := by decide +kernel
theorem d_M_merge_151 : decode (pw_cc cx_M_merge) 151 = .ok (.if_icmp .ne 12, 3) := by decide +kernel
theorem d_M_merge_154 : decode (pw_cc cx_M_merge) 154 = .ok (.aload_n 0, 1) := by decide +kernel
theorem d_M_merge_155 : decode (pw_cc cx_M_merge) 155 = .ok (.iload 7, 2) := by decide +kernel
theorem d_M_merge_157 : decode (pw_cc cx_M_merge) 157 = .ok (.iload 5, 2) := by decide +kernel
theorem d_M_merge_159 : decode (pw_cc cx_M_merge) 159 = .ok (.invokevirtual 185, 3) := by decide +kernel
theorem d_M_merge_162 : decode (pw_cc cx_M_merge) 162 = .ok (.pop, 1) := by decide +kernel
theorem d_M_merge_163 : decode (pw_cc cx_M_merge) 163 = .ok (.iinc 7 1, 3) := by decide +kernel
theorem d_M_merge_166 : decode (pw_cc cx_M_merge) 166 = .ok (.goto (-31), 3) := by decide +kernel
theorem d_M_merge_169 : decode (pw_cc cx_M_merge) 169 = .ok (.iconst 0, 1) := by decide +kernel
theorem d_M_merge_170 : decode (pw_cc cx_M_merge) 170 = .ok (.istore 7, 2) := by decide +kernel
theorem d_M_merge_172 : decode (pw_cc cx_M_merge) 172 = .ok (.iload 7, 2) := by decide +kernel
theorem d_M_merge_174 : decode (pw_cc cx_M_merge) 174 = .ok (.bipush 12, 2) := by decide +kernel
theorem d_M_merge_176 : decode (pw_cc cx_M_merge) 176 = .ok (.if_icmp .ge 52, 3) := by decide +kernel
theorem d_M_merge_179 : decode (pw_cc cx_M_merge) 179 = .ok (.aload_n 0, 1) := by decide +kernel
theorem d_M_merge_180 : decode (pw_cc cx_M_merge) 180 = .ok (.getfield 46, 3) := by decide +kernel
theorem d_M_merge_183 : decode (pw_cc cx_M_merge) 183 = .ok (.bipush 12, 2) := by decide +kernel
theorem d_M_merge_185 : decode (pw_cc cx_M_merge) 185 = .ok (.iload 5, 2) := by decide +kernel
theorem d_M_merge_187 : decode (pw_cc cx_M_merge) 187 = .ok (.imul, 1) := by decide +kernel
theorem d_M_merge_188 : decode (pw_cc cx_M_merge) 188 = .ok (.iload 7, 2) := by decide +kernel
theorem d_M_merge_190 : decode (pw_cc cx_M_merge) 190 = .ok (.iadd, 1) := by decide +kernel
theorem d_M_merge_191 : decode (pw_cc cx_M_merge) 191 = .ok (.dup2, 1) := by decide +kernel
theorem d_M_merge_192 : decode (pw_cc cx_M_merge) 192 = .ok (.iaload, 1) := by decide +kernel
theorem d_M_merge_193 : decode (pw_cc cx_M_merge) 193 = .ok (.aload_n 0, 1) := by decide +kernel
theorem d_M_merge_194 : decode (pw_cc cx_M_merge) 194 = .ok (.getfield 46, 3) := by decide +kernel
theorem d_M_merge_197 : decode (pw_cc cx_M_merge) 197 = .ok (.bipush 12, 2) := by decide +kernel
theorem d_M_merge_199 : decode (pw_cc cx_M_merge) 199 = .ok (.iload 4, 2) := by decide +kernel
theorem d_M_merge_201 : decode (pw_cc cx_M_merge) 201 = .ok (.imul, 1) := by decide +kernel
theorem d_M_merge_202 : decode (pw_cc cx_M_merge) 202 = .ok (.iload 7, 2) := by decide +kernel
theorem d_M_merge_204 : decode (pw_cc cx_M_merge) 204 = .ok (.iadd, 1) := by decide +kernel
theorem d_M_merge_205 : decode (pw_cc cx_M_merge) 205 = .ok (.iaload, 1) := by decide +kernel
theorem d_M_merge_206 : decode (pw_cc cx_M_merge) 206 = .ok (.iadd, 1) := by decide +kernel
theorem d_M_merge_207 : decode (pw_cc cx_M_merge) 207 = .ok (.iastore, 1) := by decide +kernel
theorem d_M_merge_208 : decode (pw_cc cx_M_merge) 208 = .ok (.aload_n 0, 1) := by decide +kernel
theorem d_M_merge_209 : decode (pw_cc cx_M_merge) 209 = .ok (.getfield 46, 3) := by decide +kernel
theorem d_M_merge_212 : decode (pw_cc cx_M_merge) 212 = .ok (.bipush 12, 2) := by decide +kernel
theorem d_M_merge_214 : decode (pw_cc cx_M_merge) 214 = .ok (.iload 4, 2) := by decide +kernel
theorem d_M_merge_216 : decode (pw_cc cx_M_merge) 216 = .ok (.imul, 1) := by decide +kernel
theorem d_M_merge_217 : decode (pw_cc cx_M_merge) 217 = .ok (.iload 7, 2) := by decide +kernel
theorem d_M_merge_219 : decode (pw_cc cx_M_merge) 219 = .ok (.iadd, 1) := by decide +kernel
theorem d_M_merge_220 : decode (pw_cc cx_M_merge) 220 = .ok (.iconst 0, 1) := by decide +kernel
theorem d_M_merge_221 : decode (pw_cc cx_M_merge) 221 = .ok (.iastore, 1) := by decide +kernel
theorem d_M_merge_222 : decode (pw_cc cx_M_merge) 222 = .ok (.iinc 7 1, 3) := by decide +kernel
theorem d_M_merge_225 : decode (pw_cc cx_M_merge) 225 = .ok (.goto (-53), 3) := by decide +kernel
theorem d_M_merge_228 : decode (pw_cc cx_M_merge) 228 = .ok (.aload_n 0, 1) := by decide +kernel
theorem d_M_merge_229 : decode (pw_cc cx_M_merge) 229 = .ok (.getfield 131, 3) := by decide +kernel
theorem d_M_merge_232 : decode (pw_cc cx_M_merge) 232 = .ok (.istore 7, 2) := by decide +kernel
theorem d_M_merge_234 : decode (pw_cc cx_M_merge) 234 = .ok (.iconst 0, 1) := by decide +kernel
theorem d_M_merge_235 : decode (pw_cc cx_M_merge) 235 = .ok (.istore 8, 2) := by decide +kernel
theorem d_M_merge_237 : decode (pw_cc cx_M_merge) 237 = .ok (.iload 8, 2) := by decide +kernel
theorem d_M_merge_239 : decode (pw_cc cx_M_merge) 239 = .ok (.iload 7, 2) := by decide +kernel
theorem d_M_merge_241 : decode (pw_cc cx_M_merge) 241 = .ok (.if_icmp .ge 80, 3) := by decide +kernel
theorem d_M_merge_244 : decode (pw_cc cx_M_merge) 244 = .ok (.aload_n 0, 1) := by decide +kernel
theorem d_M_merge_245 : decode (pw_cc cx_M_merge) 245 = .ok (.iload 8, 2) := by decide +kernel
theorem d_M_merge_247 : decode (pw_cc cx_M_merge) 247 = .ok (.iload 4, 2) := by decide +kernel
theorem d_M_merge_249 : decode (pw_cc cx_M_merge) 249 = .ok (.invokevirtual 134, 3) := by decide +kernel
theorem d_M_merge_252 : decode (pw_cc cx_M_merge) 252 = .ok (.ifCond .eq 63, 3) := by decide +kernel
theorem d_M_merge_255 : decode (pw_cc cx_M_merge) 255 = .ok (.aload_n 0, 1) := by decide +kernel
theorem d_M_merge_256 : decode (pw_cc cx_M_merge) 256 = .ok (.aload_n 0, 1) := by decide +kernel
theorem d_M_merge_257 : decode (pw_cc cx_M_merge) 257 = .ok (.getfield 49, 3) := by decide +kernel
theorem d_M_merge_260 : decode (pw_cc cx_M_merge) 260 = .ok (.iload 8, 2) := by decide +kernel
theorem d_M_merge_262 : decode (pw_cc cx_M_merge) 262 = .ok (.iaload, 1) := by decide +kernel
theorem d_M_merge_263 : decode (pw_cc cx_M_merge) 263 = .ok (.iload 5, 2) := by decide +kernel
theorem d_M_merge_265 : decode (pw_cc cx_M_merge) 265 = .ok (.aload_n 0, 1) := by decide +kernel
theorem d_M_merge_266 : decode (pw_cc cx_M_merge) 266 = .ok (.getfield 55, 3) := by decide +kernel
theorem d_M_merge_269 : decode (pw_cc cx_M_merge) 269 = .ok (.iload 8, 2) := by decide +kernel
theorem d_M_merge_271 : decode (pw_cc cx_M_merge) 271 = .ok (.iaload, 1) := by decide +kernel
theorem d_M_merge_272 : decode (pw_cc cx_M_merge) 272 = .ok (.invokevirtual 192, 3) := by decide +kernel
theorem d_M_merge_275 : decode (pw_cc cx_M_merge) 275 = .ok (.ifCond .ne 32, 3) := by decide +kernel
theorem d_M_merge_278 : decode (pw_cc cx_M_merge) 278 = .ok (.aload_n 0, 1) := by decide +kernel
theorem d_M_merge_279 : decode (pw_cc cx_M_merge) 279 = .ok (.aload_n 0, 1) := by decide +kernel
theorem d_M_merge_280 : decode (pw_cc cx_M_merge) 280 = .ok (.getfield 49, 3) := by decide +kernel
theorem d_M_merge_283 : decode (pw_cc cx_M_merge) 283 = .ok (.iload 8, 2) := by decide +kernel
theorem d_M_merge_285 : decode (pw_cc cx_M_merge) 285 = .ok (.iaload, 1) := by decide +kernel
theorem d_M_merge_286 : decode (pw_cc cx_M_merge) 286 = .ok (.iload 5, 2) := by decide +kernel
theorem d_M_merge_288 : decode (pw_cc cx_M_merge) 288 = .ok (.aload_n 0, 1) := by decide +kernel
theorem d_M_merge_289 : decode (pw_cc cx_M_merge) 289 = .ok (.getfield 55, 3) := by decide +kernel
theorem d_M_merge_292 : decode (pw_cc cx_M_merge) 292 = .ok (.iload 8, 2) := by decide +kernel
theorem d_M_merge_294 : decode (pw_cc cx_M_merge) 294 = .ok (.iaload, 1) := by decide +kernel
theorem d_M_merge_295 : decode (pw_cc cx_M_merge) 295 = .ok (.aload_n 0, 1) := by decide +kernel
theorem d_M_merge_296 : decode (pw_cc cx_M_merge) 296 = .ok (.getfield 58, 3) := by decide +kernel
theorem d_M_merge_299 : decode (pw_cc cx_M_merge) 299 = .ok (.iload 8, 2) := by decide +kernel
theorem d_M_merge_301 : decode (pw_cc cx_M_merge) 301 = .ok (.iaload, 1) := by decide +kernel
theorem d_M_merge_302 : decode (pw_cc cx_M_merge) 302 = .ok (.iload 8, 2) := by decide +kernel
theorem d_M_merge_304 : decode (pw_cc cx_M_merge) 304 = .ok (.invokevirtual 188, 3) := by decide +kernel
theorem d_M_merge_307 : decode (pw_cc cx_M_merge) 307 = .ok (.aload_n 0, 1) := by decide +kernel
theorem d_M_merge_308 : decode (pw_cc cx_M_merge) 308 = .ok (.getfield 64, 3) := by decide +kernel
theorem d_M_merge_311 : decode (pw_cc cx_M_merge) 311 = .ok (.iload 8, 2) := by decide +kernel
theorem d_M_merge_313 : decode (pw_cc cx_M_merge) 313 = .ok (.iconst 1, 1) := by decide +kernel
theorem d_M_merge_314 : decode (pw_cc cx_M_merge) 314 = .ok (.bastore, 1) := by decide +kernel
theorem d_M_merge_315 : decode (pw_cc cx_M_merge) 315 = .ok (.iinc 8 1, 3) := by decide +kernel
theorem d_M_merge_318 : decode (pw_cc cx_M_merge) 318 = .ok (.goto (-81), 3) := by decide +kernel
theorem d_M_merge_321 : decode (pw_cc cx_M_merge) 321 = .ok (.aload_n 0, 1) := by decide +kernel
theorem d_M_merge_322 : decode (pw_cc cx_M_merge) 322 = .ok (.getfield 43, 3) := by decide +kernel
theorem d_M_merge_325 : decode (pw_cc cx_M_merge) 325 = .ok (.iload 4, 2) := by decide +kernel
theorem d_M_merge_327 : decode (pw_cc cx_M_merge) 327 = .ok (.iload 5, 2) := by decide +kernel
theorem d_M_merge_329 : decode (pw_cc cx_M_merge) 329 = .ok (.iastore, 1) := by decide +kernel
theorem d_M_merge_330 : decode (pw_cc cx_M_merge) 330 = .ok (.aload_n 0, 1) := by decide +kernel
theorem d_M_merge_331 : decode (pw_cc cx_M_merge) 331 = .ok (.iload 5, 2) := by decide +kernel
theorem d_M_merge_333 : decode (pw_cc cx_M_merge) 333 = .ok (.invokevirtual 138, 3) := by decide +kernel
theorem d_M_merge_336 : decode (pw_cc cx_M_merge) 336 = .ok (.ireturn, 1) := by decide +kernel
set_option maxHeartbeats 4000000 in
set_option maxRecDepth 20000 in
def jp_M_merge_307 (Q : pw_W → Int32 → Prop) (X : pw_W → Nat → Prop) (K237 : Int32 → Int32 → Int32 → Int32 → pw_W → Prop) (a4 a5 a7 a8 : Int32) (w : pw_W) : Prop := w.1 8 0 25 = 0 ∧ pw_jn a8 (pw_ln w 225 0) ∧ ∀ w3, w3 = pw_ps w 225 0 (pw_i a8) 1 → K237 a4 a5 a7 (a8 + 1) w3
set_option maxHeartbeats 4000000 in
set_option maxRecDepth 20000 in
theorem vjp_M_merge_307 {l : Launch} {g : pw_G} {Q : pw_W → Int32 → Prop} {X : pw_W → Nat → Prop} (hl0 : l.stackTraces = false) {K237 : Int32 → Int32 → Int32 → Int32 → pw_W → Prop} (hK237 : ∀ (a4 a5 a7 a8 : Int32) (w : pw_W), K237 a4 a5 a7 a8 w → pw_V l g cx_M_merge Q X 237 [(10, 0), (1, 0), (1, 0), (1, 0), (0, a4), (0, a5), (1, 0), (0, a7), (0, a8)] [] w) (a4 a5 a7 a8 : Int32) (w : pw_W) (h : jp_M_merge_307 Q X K237 a4 a5 a7 a8 w) : pw_V l g cx_M_merge Q X 307 [(10, 0), (1, 0), (1, 0), (1, 0), (0, a4), (0, a5), (1, 0), (0, a7), (0, a8)] [] w := by
  unfold jp_M_merge_307 at h
  refine pv_aload_n (n := 308) d_M_merge_307 rfl rfl rfl ?_
  obtain ⟨g1, h⟩ := h
  refine gt_M_64 (n := 311) rfl d_M_merge_308 (by decide) g1 rfl ?_
  refine pv_iload (n := 313) d_M_merge_311 rfl rfl ?_
  refine pv_iconst (v := 1) (n := 314) d_M_merge_313 (by decide) rfl ?_
  obtain ⟨g2, h⟩ := h
  refine pv_zast1 (n := 315) (f := 225) (by decide) rfl (fun _ => rfl) d_M_merge_314 (by decide) g2 (by decide) rfl (fun w3 e4 => ?_)
  replace h := h w3 e4
  refine pv_iinc (v := (a8 + 1)) (n := 318) (L1 := [(10, 0), (1, 0), (1, 0), (1, 0), (0, a4), (0, a5), (1, 0), (0, a7), (0, (a8 + 1))]) d_M_merge_315 rfl rfl rfl (by decide) rfl ?_
  refine pv_goto (tgt := 237) d_M_merge_318 (by decide) ?_
  exact hK237 _ _ _ _ _ h
set_option maxHeartbeats 4000000 in
set_option maxRecDepth 20000 in
def lp_M_merge_237 (Q : pw_W → Int32 → Prop) (X : pw_W → Nat → Prop) : Nat → Int32 → Int32 → Int32 → Int32 → pw_W → Prop := fun k => Nat.rec (motive := fun _ => Int32 → Int32 → Int32 → Int32 → pw_W → Prop) (fun _ _ _ _ _ => False) (fun _ ih a4 a5 a7 a8 w => (a7 ≤ a8 → w.1 8 0 17 = 0 ∧ pw_jn a4 (pw_ln w 217 0) ∧ ∀ w8, w8 = pw_ps w 217 0 (pw_i a4) a5 → wp_M_areaOf w8 a5 (fun w10 r11 => Q w10 r11) (fun _ _ => False)) ∧ (¬ a7 ≤ a8 → wp_M_isOn w a8 a4 (fun w12 r13 => (r13 = 0 → ih a4 a5 a7 (a8 + 1) w12) ∧ (¬ r13 = 0 → w12.1 8 0 20 = 0 ∧ pw_jn a8 (pw_ln w12 220 0) ∧ w12.1 8 0 22 = 0 ∧ pw_jn a8 (pw_ln w12 222 0) ∧ wp_M_hasRight w12 (w12.1 220 0 (pw_i a8)) a5 (w12.1 222 0 (pw_i a8)) (fun w19 r20 => (¬ r20 = 0 → jp_M_merge_307 Q X ih a4 a5 a7 a8 w19) ∧ (r20 = 0 → w19.1 8 0 20 = 0 ∧ pw_jn a8 (pw_ln w19 220 0) ∧ w19.1 8 0 22 = 0 ∧ pw_jn a8 (pw_ln w19 222 0) ∧ w19.1 8 0 23 = 0 ∧ pw_jn a8 (pw_ln w19 223 0) ∧ wp_M_makesRight w19 (w19.1 220 0 (pw_i a8)) a5 (w19.1 222 0 (pw_i a8)) (w19.1 223 0 (pw_i a8)) a8 (fun w28 r29 => jp_M_merge_307 Q X ih a4 a5 a7 a8 w28) (fun _ _ => False))) (fun _ _ => False))) (fun _ _ => False))) k
set_option maxHeartbeats 4000000 in
set_option maxRecDepth 20000 in
theorem lp_M_merge_237_s {Q : pw_W → Int32 → Prop} {X : pw_W → Nat → Prop}  {k : Nat} {a4 a5 a7 a8 : Int32} {w : pw_W} : lp_M_merge_237 Q X (k + 1) a4 a5 a7 a8 w = (let ih := lp_M_merge_237 Q X k; (a7 ≤ a8 → w.1 8 0 17 = 0 ∧ pw_jn a4 (pw_ln w 217 0) ∧ ∀ w8, w8 = pw_ps w 217 0 (pw_i a4) a5 → wp_M_areaOf w8 a5 (fun w10 r11 => Q w10 r11) (fun _ _ => False)) ∧ (¬ a7 ≤ a8 → wp_M_isOn w a8 a4 (fun w12 r13 => (r13 = 0 → ih a4 a5 a7 (a8 + 1) w12) ∧ (¬ r13 = 0 → w12.1 8 0 20 = 0 ∧ pw_jn a8 (pw_ln w12 220 0) ∧ w12.1 8 0 22 = 0 ∧ pw_jn a8 (pw_ln w12 222 0) ∧ wp_M_hasRight w12 (w12.1 220 0 (pw_i a8)) a5 (w12.1 222 0 (pw_i a8)) (fun w19 r20 => (¬ r20 = 0 → jp_M_merge_307 Q X ih a4 a5 a7 a8 w19) ∧ (r20 = 0 → w19.1 8 0 20 = 0 ∧ pw_jn a8 (pw_ln w19 220 0) ∧ w19.1 8 0 22 = 0 ∧ pw_jn a8 (pw_ln w19 222 0) ∧ w19.1 8 0 23 = 0 ∧ pw_jn a8 (pw_ln w19 223 0) ∧ wp_M_makesRight w19 (w19.1 220 0 (pw_i a8)) a5 (w19.1 222 0 (pw_i a8)) (w19.1 223 0 (pw_i a8)) a8 (fun w28 r29 => jp_M_merge_307 Q X ih a4 a5 a7 a8 w28) (fun _ _ => False))) (fun _ _ => False))) (fun _ _ => False))) := rfl
set_option maxHeartbeats 4000000 in
set_option maxRecDepth 20000 in
theorem vlp_M_merge_237 {l : Launch} {g : pw_G} {Q : pw_W → Int32 → Prop} {X : pw_W → Nat → Prop} (hl0 : l.stackTraces = false) : ∀ (k : Nat) (a4 a5 a7 a8 : Int32) (w : pw_W), lp_M_merge_237 Q X k a4 a5 a7 a8 w → pw_V l g cx_M_merge Q X 237 [(10, 0), (1, 0), (1, 0), (1, 0), (0, a4), (0, a5), (1, 0), (0, a7), (0, a8)] [] w := by
  intro k; induction k with
  | zero => intro _ _ _ _ _ h; exact h.elim
  | succ k ih =>
    intro a4 a5 a7 a8 w h
    rw [lp_M_merge_237_s] at h
    refine pv_iload (n := 239) d_M_merge_237 rfl rfl ?_
    refine pv_iload (n := 241) d_M_merge_239 rfl rfl ?_
    refine pv_icmp_ge (n := 244) (tgt := 321) d_M_merge_241 (by decide) rfl (fun c5 => ?_) (fun c5 => ?_)
    · replace h := h.1 c5
      refine pv_aload_n (n := 322) d_M_merge_321 rfl rfl rfl ?_
      obtain ⟨g6, h⟩ := h
      refine gt_M_43 (n := 325) rfl d_M_merge_322 (by decide) g6 rfl ?_
      refine pv_iload (n := 327) d_M_merge_325 rfl rfl ?_
      refine pv_iload (n := 329) d_M_merge_327 rfl rfl ?_
      obtain ⟨g7, h⟩ := h
      refine pv_iast1 (n := 330) (f := 217) (by decide) rfl (fun _ => rfl) d_M_merge_329 (by decide) g7 rfl (fun w8 e9 => ?_)
      replace h := h w8 e9
      refine pv_aload_n (n := 331) d_M_merge_330 rfl rfl rfl ?_
      refine pv_iload (n := 333) d_M_merge_331 rfl rfl ?_
      refine pv_callV (n := 336) (x := 0) [(0, a5)] [] (con_M_areaOf hl0 h) pw_cf8 rfl q_471 q_472 q_473 q_458 q_470 pyo_M_areaOf (by decide) rfl rfl (by decide) d_M_merge_333 rfl (fun w10 r11 h _ => ?_) (fun _ _ h => h.elim)
      show pw_V l g cx_M_merge Q X 336 [(10, 0), (1, 0), (1, 0), (1, 0), (0, a4), (0, a5), (1, 0), (0, a7), (0, a8)] [(0, r11)] w10
      exact pv_iret rfl rfl d_M_merge_336 h
    · replace h := h.2 c5
      refine pv_aload_n (n := 245) d_M_merge_244 rfl rfl rfl ?_
      refine pv_iload (n := 247) d_M_merge_245 rfl rfl ?_
      refine pv_iload (n := 249) d_M_merge_247 rfl rfl ?_
      refine pv_callV (n := 252) (x := 0) [(0, a8), (0, a4)] [] (con_M_isOn hl0 h) pw_cf8 rfl q_464 q_465 q_466 q_458 q_463 pyo_M_isOn (by decide) rfl rfl (by decide) d_M_merge_249 rfl (fun w12 r13 h _ => ?_) (fun _ _ h => h.elim)
      show pw_V l g cx_M_merge Q X 252 [(10, 0), (1, 0), (1, 0), (1, 0), (0, a4), (0, a5), (1, 0), (0, a7), (0, a8)] [(0, r13)] w12
      refine pv_if_eq (n := 255) (tgt := 315) d_M_merge_252 (by decide) rfl (fun c14 => ?_) (fun c14 => ?_)
      · replace h := h.1 c14
        refine pv_iinc (v := (a8 + 1)) (n := 318) (L1 := [(10, 0), (1, 0), (1, 0), (1, 0), (0, a4), (0, a5), (1, 0), (0, a7), (0, (a8 + 1))]) d_M_merge_315 rfl rfl rfl (by decide) rfl ?_
        refine pv_goto (tgt := 237) d_M_merge_318 (by decide) ?_
        exact ih _ _ _ _ _ h
      · replace h := h.2 c14
        refine pv_aload_n (n := 256) d_M_merge_255 rfl rfl rfl ?_
        refine pv_aload_n (n := 257) d_M_merge_256 rfl rfl rfl ?_
        obtain ⟨g15, h⟩ := h
        refine gt_M_49 (n := 260) rfl d_M_merge_257 (by decide) g15 rfl ?_
        refine pv_iload (n := 262) d_M_merge_260 rfl rfl ?_
        obtain ⟨g16, h⟩ := h
        refine pv_iald (n := 263) (f := 220) (by decide) rfl d_M_merge_262 (by decide) g16 rfl ?_
        refine pv_iload (n := 265) d_M_merge_263 rfl rfl ?_
        refine pv_aload_n (n := 266) d_M_merge_265 rfl rfl rfl ?_
        obtain ⟨g17, h⟩ := h
        refine gt_M_55 (n := 269) rfl d_M_merge_266 (by decide) g17 rfl ?_
        refine pv_iload (n := 271) d_M_merge_269 rfl rfl ?_
        obtain ⟨g18, h⟩ := h
        refine pv_iald (n := 272) (f := 222) (by decide) rfl d_M_merge_271 (by decide) g18 rfl ?_
        refine pv_callV (n := 275) (x := 0) [(0, (w12.1 220 0 (pw_i a8))), (0, a5), (0, (w12.1 222 0 (pw_i a8)))] [] (con_M_hasRight hl0 h) pw_cf8 rfl q_527 q_528 q_529 q_458 q_526 pyo_M_hasRight (by decide) rfl rfl (by decide) d_M_merge_272 rfl (fun w19 r20 h _ => ?_) (fun _ _ h => h.elim)
        show pw_V l g cx_M_merge Q X 275 [(10, 0), (1, 0), (1, 0), (1, 0), (0, a4), (0, a5), (1, 0), (0, a7), (0, a8)] [(0, r20)] w19
        refine pv_if_ne (n := 278) (tgt := 307) d_M_merge_275 (by decide) rfl (fun c21 => ?_) (fun c21 => ?_)
        · replace h := h.1 c21
          exact vjp_M_merge_307 hl0 (by intros; exact ih _ _ _ _ _ (by assumption)) _ _ _ _ _ h
        · replace h := h.2 c21
          refine pv_aload_n (n := 279) d_M_merge_278 rfl rfl rfl ?_
          refine pv_aload_n (n := 280) d_M_merge_279 rfl rfl rfl ?_
          obtain ⟨g22, h⟩ := h
          refine gt_M_49 (n := 283) rfl d_M_merge_280 (by decide) g22 rfl ?_
          refine pv_iload (n := 285) d_M_merge_283 rfl rfl ?_
          obtain ⟨g23, h⟩ := h
          refine pv_iald (n := 286) (f := 220) (by decide) rfl d_M_merge_285 (by decide) g23 rfl ?_
          refine pv_iload (n := 288) d_M_merge_286 rfl rfl ?_
          refine pv_aload_n (n := 289) d_M_merge_288 rfl rfl rfl ?_
          obtain ⟨g24, h⟩ := h
          refine gt_M_55 (n := 292) rfl d_M_merge_289 (by decide) g24 rfl ?_
          refine pv_iload (n := 294) d_M_merge_292 rfl rfl ?_
          obtain ⟨g25, h⟩ := h
          refine pv_iald (n := 295) (f := 222) (by decide) rfl d_M_merge_294 (by decide) g25 rfl ?_
          refine pv_aload_n (n := 296) d_M_merge_295 rfl rfl rfl ?_
          obtain ⟨g26, h⟩ := h
          refine gt_M_58 (n := 299) rfl d_M_merge_296 (by decide) g26 rfl ?_
          refine pv_iload (n := 301) d_M_merge_299 rfl rfl ?_
          obtain ⟨g27, h⟩ := h
          refine pv_iald (n := 302) (f := 223) (by decide) rfl d_M_merge_301 (by decide) g27 rfl ?_
          refine pv_iload (n := 304) d_M_merge_302 rfl rfl ?_
          refine pv_callV (n := 307) (x := 0) [(0, (w19.1 220 0 (pw_i a8))), (0, a5), (0, (w19.1 222 0 (pw_i a8))), (0, (w19.1 223 0 (pw_i a8))), (0, a8)] [] (con_M_makesRight hl0 h) pw_cf8 rfl q_490 q_491 q_492 q_458 q_489 pyo_M_makesRight (by decide) rfl rfl (by decide) d_M_merge_304 rfl (fun w28 r29 h _ => ?_) (fun _ _ h => h.elim)
          show pw_V l g cx_M_merge Q X 307 [(10, 0), (1, 0), (1, 0), (1, 0), (0, a4), (0, a5), (1, 0), (0, a7), (0, a8)] [] w28
          exact vjp_M_merge_307 hl0 (by intros; exact ih _ _ _ _ _ (by assumption)) _ _ _ _ _ h
set_option maxHeartbeats 4000000 in
set_option maxRecDepth 20000 in
def lp_M_merge_172 (Q : pw_W → Int32 → Prop) (X : pw_W → Nat → Prop) : Nat → Int32 → Int32 → Int32 → pw_W → Prop := fun k => Nat.rec (motive := fun _ => Int32 → Int32 → Int32 → pw_W → Prop) (fun _ _ _ _ => False) (fun _ ih a4 a5 a7 w => ((12 : Int32) ≤ a7 → ∀ v31, v31 = (w.1 8 0 26) → ∃ k33, lp_M_merge_237 Q X k33 a4 a5 v31 0 w) ∧ (¬ (12 : Int32) ≤ a7 → w.1 8 0 19 = 0 ∧ pw_jn (((12 : Int32) * a5) + a7) (pw_ln w 219 0) ∧ w.1 8 0 19 = 0 ∧ pw_jn (((12 : Int32) * a4) + a7) (pw_ln w 219 0) ∧ pw_jn (((12 : Int32) * a5) + a7) (pw_ln w 219 0) ∧ ∀ w39, w39 = pw_ps w 219 0 (pw_i (((12 : Int32) * a5) + a7)) ((w.1 219 0 (pw_i (((12 : Int32) * a5) + a7))) + (w.1 219 0 (pw_i (((12 : Int32) * a4) + a7)))) → w39.1 8 0 19 = 0 ∧ pw_jn (((12 : Int32) * a4) + a7) (pw_ln w39 219 0) ∧ ∀ w43, w43 = pw_ps w39 219 0 (pw_i (((12 : Int32) * a4) + a7)) 0 → ih a4 a5 (a7 + 1) w43)) k
set_option maxHeartbeats 4000000 in
set_option maxRecDepth 20000 in
theorem lp_M_merge_172_s {Q : pw_W → Int32 → Prop} {X : pw_W → Nat → Prop}  {k : Nat} {a4 a5 a7 : Int32} {w : pw_W} : lp_M_merge_172 Q X (k + 1) a4 a5 a7 w = (let ih := lp_M_merge_172 Q X k; ((12 : Int32) ≤ a7 → ∀ v31, v31 = (w.1 8 0 26) → ∃ k33, lp_M_merge_237 Q X k33 a4 a5 v31 0 w) ∧ (¬ (12 : Int32) ≤ a7 → w.1 8 0 19 = 0 ∧ pw_jn (((12 : Int32) * a5) + a7) (pw_ln w 219 0) ∧ w.1 8 0 19 = 0 ∧ pw_jn (((12 : Int32) * a4) + a7) (pw_ln w 219 0) ∧ pw_jn (((12 : Int32) * a5) + a7) (pw_ln w 219 0) ∧ ∀ w39, w39 = pw_ps w 219 0 (pw_i (((12 : Int32) * a5) + a7)) ((w.1 219 0 (pw_i (((12 : Int32) * a5) + a7))) + (w.1 219 0 (pw_i (((12 : Int32) * a4) + a7)))) → w39.1 8 0 19 = 0 ∧ pw_jn (((12 : Int32) * a4) + a7) (pw_ln w39 219 0) ∧ ∀ w43, w43 = pw_ps w39 219 0 (pw_i (((12 : Int32) * a4) + a7)) 0 → ih a4 a5 (a7 + 1) w43)) := rfl
set_option maxHeartbeats 4000000 in
set_option maxRecDepth 20000 in
theorem vlp_M_merge_172 {l : Launch} {g : pw_G} {Q : pw_W → Int32 → Prop} {X : pw_W → Nat → Prop} (hl0 : l.stackTraces = false) : ∀ (k : Nat) (a4 a5 a7 : Int32) (w : pw_W), lp_M_merge_172 Q X k a4 a5 a7 w → pw_V l g cx_M_merge Q X 172 [(10, 0), (1, 0), (1, 0), (1, 0), (0, a4), (0, a5), (1, 0), (0, a7), (1, 0)] [] w := by
  intro k; induction k with
  | zero => intro _ _ _ _ h; exact h.elim
  | succ k ih =>
    intro a4 a5 a7 w h
    rw [lp_M_merge_172_s] at h
    refine pv_iload (n := 174) d_M_merge_172 rfl rfl ?_
    refine pv_bipush (v := 12) (n := 176) d_M_merge_174 (by decide) rfl ?_
    refine pv_icmp_ge (n := 179) (tgt := 228) d_M_merge_176 (by decide) rfl (fun c30 => ?_) (fun c30 => ?_)
    · replace h := h.1 c30
      refine pv_aload_n (n := 229) d_M_merge_228 rfl rfl rfl ?_
      refine gt_M_131 (n := 232) rfl d_M_merge_229 (by decide) rfl ?_
      refine pv_nm (fun v31 e32 => ?_)
      replace h := h v31 e32
      refine pv_istore (n := 234) (L' := [(10, 0), (1, 0), (1, 0), (1, 0), (0, a4), (0, a5), (1, 0), (0, v31), (1, 0)]) d_M_merge_232 (by decide) rfl rfl ?_
      refine pv_iconst (v := 0) (n := 235) d_M_merge_234 (by decide) rfl ?_
      refine pv_istore (n := 237) (L' := [(10, 0), (1, 0), (1, 0), (1, 0), (0, a4), (0, a5), (1, 0), (0, v31), (0, 0)]) d_M_merge_235 (by decide) rfl rfl ?_
      obtain ⟨k33, h⟩ := h
      exact vlp_M_merge_237 hl0 _ _ _ _ _ _ h
    · replace h := h.2 c30
      refine pv_aload_n (n := 180) d_M_merge_179 rfl rfl rfl ?_
      obtain ⟨g34, h⟩ := h
      refine gt_M_46 (n := 183) rfl d_M_merge_180 (by decide) g34 rfl ?_
      refine pv_bipush (v := 12) (n := 185) d_M_merge_183 (by decide) rfl ?_
      refine pv_iload (n := 187) d_M_merge_185 rfl rfl ?_
      refine pv_imul (n := 188) d_M_merge_187 rfl ?_
      refine pv_iload (n := 190) d_M_merge_188 rfl rfl ?_
      refine pv_iadd (n := 191) d_M_merge_190 rfl ?_
      refine pv_dup2 (n := 192) d_M_merge_191 (by decide) (by decide) rfl ?_
      obtain ⟨g35, h⟩ := h
      refine pv_iald (n := 193) (f := 219) (by decide) rfl d_M_merge_192 (by decide) g35 rfl ?_
      refine pv_aload_n (n := 194) d_M_merge_193 rfl rfl rfl ?_
      obtain ⟨g36, h⟩ := h
      refine gt_M_46 (n := 197) rfl d_M_merge_194 (by decide) g36 rfl ?_
      refine pv_bipush (v := 12) (n := 199) d_M_merge_197 (by decide) rfl ?_
      refine pv_iload (n := 201) d_M_merge_199 rfl rfl ?_
      refine pv_imul (n := 202) d_M_merge_201 rfl ?_
      refine pv_iload (n := 204) d_M_merge_202 rfl rfl ?_
      refine pv_iadd (n := 205) d_M_merge_204 rfl ?_
      obtain ⟨g37, h⟩ := h
      refine pv_iald (n := 206) (f := 219) (by decide) rfl d_M_merge_205 (by decide) g37 rfl ?_
      refine pv_iadd (n := 207) d_M_merge_206 rfl ?_
      obtain ⟨g38, h⟩ := h
      refine pv_iast1 (n := 208) (f := 219) (by decide) rfl (fun _ => rfl) d_M_merge_207 (by decide) g38 rfl (fun w39 e40 => ?_)
      replace h := h w39 e40
      refine pv_aload_n (n := 209) d_M_merge_208 rfl rfl rfl ?_
      obtain ⟨g41, h⟩ := h
      refine gt_M_46 (n := 212) rfl d_M_merge_209 (by decide) g41 rfl ?_
      refine pv_bipush (v := 12) (n := 214) d_M_merge_212 (by decide) rfl ?_
      refine pv_iload (n := 216) d_M_merge_214 rfl rfl ?_
      refine pv_imul (n := 217) d_M_merge_216 rfl ?_
      refine pv_iload (n := 219) d_M_merge_217 rfl rfl ?_
      refine pv_iadd (n := 220) d_M_merge_219 rfl ?_
      refine pv_iconst (v := 0) (n := 221) d_M_merge_220 (by decide) rfl ?_
      obtain ⟨g42, h⟩ := h
      refine pv_iast1 (n := 222) (f := 219) (by decide) rfl (fun _ => rfl) d_M_merge_221 (by decide) g42 rfl (fun w43 e44 => ?_)
      replace h := h w43 e44
      refine pv_iinc (v := (a7 + 1)) (n := 225) (L1 := [(10, 0), (1, 0), (1, 0), (1, 0), (0, a4), (0, a5), (1, 0), (0, (a7 + 1)), (1, 0)]) d_M_merge_222 rfl rfl rfl (by decide) rfl ?_
      refine pv_goto (tgt := 172) d_M_merge_225 (by decide) ?_
      exact ih _ _ _ _ h
set_option maxHeartbeats 4000000 in
set_option maxRecDepth 20000 in
def lp_M_merge_135 (Q : pw_W → Int32 → Prop) (X : pw_W → Nat → Prop) : Nat → Int32 → Int32 → Int32 → pw_W → Prop := fun k => Nat.rec (motive := fun _ => Int32 → Int32 → Int32 → pw_W → Prop) (fun _ _ _ _ => False) (fun _ ih a4 a5 a7 w => ((100 : Int32) ≤ a7 → ∃ k46, lp_M_merge_172 Q X k46 a4 a5 0 w) ∧ (¬ (100 : Int32) ≤ a7 → w.1 8 0 8 = 0 ∧ pw_jn a7 (pw_ln w 208 0) ∧ (¬ (w.1 208 0 (pw_i a7)) = a4 → ih a4 a5 (a7 + 1) w) ∧ ((w.1 208 0 (pw_i a7)) = a4 → wp_M_comes w a7 a5 (fun w50 r51 => ih a4 a5 (a7 + 1) w50) (fun _ _ => False)))) k
set_option maxHeartbeats 4000000 in
set_option maxRecDepth 20000 in
theorem lp_M_merge_135_s {Q : pw_W → Int32 → Prop} {X : pw_W → Nat → Prop}  {k : Nat} {a4 a5 a7 : Int32} {w : pw_W} : lp_M_merge_135 Q X (k + 1) a4 a5 a7 w = (let ih := lp_M_merge_135 Q X k; ((100 : Int32) ≤ a7 → ∃ k46, lp_M_merge_172 Q X k46 a4 a5 0 w) ∧ (¬ (100 : Int32) ≤ a7 → w.1 8 0 8 = 0 ∧ pw_jn a7 (pw_ln w 208 0) ∧ (¬ (w.1 208 0 (pw_i a7)) = a4 → ih a4 a5 (a7 + 1) w) ∧ ((w.1 208 0 (pw_i a7)) = a4 → wp_M_comes w a7 a5 (fun w50 r51 => ih a4 a5 (a7 + 1) w50) (fun _ _ => False)))) := rfl
set_option maxHeartbeats 4000000 in
set_option maxRecDepth 20000 in
theorem vlp_M_merge_135 {l : Launch} {g : pw_G} {Q : pw_W → Int32 → Prop} {X : pw_W → Nat → Prop} (hl0 : l.stackTraces = false) : ∀ (k : Nat) (a4 a5 a7 : Int32) (w : pw_W), lp_M_merge_135 Q X k a4 a5 a7 w → pw_V l g cx_M_merge Q X 135 [(10, 0), (1, 0), (1, 0), (1, 0), (0, a4), (0, a5), (1, 0), (0, a7), (1, 0)] [] w := by
  intro k; induction k with
  | zero => intro _ _ _ _ h; exact h.elim
  | succ k ih =>
    intro a4 a5 a7 w h
    rw [lp_M_merge_135_s] at h
    refine pv_iload (n := 137) d_M_merge_135 rfl rfl ?_
    refine pv_bipush (v := 100) (n := 139) d_M_merge_137 (by decide) rfl ?_
    refine pv_icmp_ge (n := 142) (tgt := 169) d_M_merge_139 (by decide) rfl (fun c45 => ?_) (fun c45 => ?_)
    · replace h := h.1 c45
      refine pv_iconst (v := 0) (n := 170) d_M_merge_169 (by decide) rfl ?_
      refine pv_istore (n := 172) (L' := [(10, 0), (1, 0), (1, 0), (1, 0), (0, a4), (0, a5), (1, 0), (0, 0), (1, 0)]) d_M_merge_170 (by decide) rfl rfl ?_
      obtain ⟨k46, h⟩ := h
      exact vlp_M_merge_172 hl0 _ _ _ _ _ h
    · replace h := h.2 c45
      refine pv_aload_n (n := 143) d_M_merge_142 rfl rfl rfl ?_
      obtain ⟨g47, h⟩ := h
      refine gt_M_16 (n := 146) rfl d_M_merge_143 (by decide) g47 rfl ?_
      refine pv_iload (n := 148) d_M_merge_146 rfl rfl ?_
      obtain ⟨g48, h⟩ := h
      refine pv_iald (n := 149) (f := 208) (by decide) rfl d_M_merge_148 (by decide) g48 rfl ?_
      refine pv_iload (n := 151) d_M_merge_149 rfl rfl ?_
      refine pv_icmp_ne (n := 154) (tgt := 163) d_M_merge_151 (by decide) rfl (fun c49 => ?_) (fun c49 => ?_)
      · replace h := h.1 c49
        refine pv_iinc (v := (a7 + 1)) (n := 166) (L1 := [(10, 0), (1, 0), (1, 0), (1, 0), (0, a4), (0, a5), (1, 0), (0, (a7 + 1)), (1, 0)]) d_M_merge_163 rfl rfl rfl (by decide) rfl ?_
        refine pv_goto (tgt := 135) d_M_merge_166 (by decide) ?_
        exact ih _ _ _ _ h
      · replace h := h.2 c49
        refine pv_aload_n (n := 155) d_M_merge_154 rfl rfl rfl ?_
        refine pv_iload (n := 157) d_M_merge_155 rfl rfl ?_
        refine pv_iload (n := 159) d_M_merge_157 rfl rfl ?_
        refine pv_callV (n := 162) (x := 0) [(0, a7), (0, a5)] [] (con_M_comes hl0 h) pw_cf8 rfl q_494 q_495 q_496 q_458 q_493 pyo_M_comes (by decide) rfl rfl (by decide) d_M_merge_159 rfl (fun w50 r51 h _ => ?_) (fun _ _ h => h.elim)
        show pw_V l g cx_M_merge Q X 162 [(10, 0), (1, 0), (1, 0), (1, 0), (0, a4), (0, a5), (1, 0), (0, a7), (1, 0)] [(0, r51)] w50
        refine pv_pop (n := 163) d_M_merge_162 (by decide) rfl ?_
        refine pv_iinc (v := (a7 + 1)) (n := 166) (L1 := [(10, 0), (1, 0), (1, 0), (1, 0), (0, a4), (0, a5), (1, 0), (0, (a7 + 1)), (1, 0)]) d_M_merge_163 rfl rfl rfl (by decide) rfl ?_
        refine pv_goto (tgt := 135) d_M_merge_166 (by decide) ?_
        exact ih _ _ _ _ h
set_option maxHeartbeats 4000000 in
set_option maxRecDepth 20000 in
def jp_M_merge_124 (Q : pw_W → Int32 → Prop) (X : pw_W → Nat → Prop) (a4 a5 s0 : Int32) (w : pw_W) : Prop := wp_M_isFine w s0 (fun w52 r53 => (¬ r53 = 0 → ∃ k55, lp_M_merge_135 Q X k55 a4 a5 0 w52) ∧ (r53 = 0 → Q w52 0)) (fun _ _ => False)
set_option maxHeartbeats 4000000 in
set_option maxRecDepth 20000 in
theorem vjp_M_merge_124 {l : Launch} {g : pw_G} {Q : pw_W → Int32 → Prop} {X : pw_W → Nat → Prop} (hl0 : l.stackTraces = false) (a4 a5 s0 : Int32) (w : pw_W) (h : jp_M_merge_124 Q X a4 a5 s0 w) : pw_V l g cx_M_merge Q X 124 [(10, 0), (1, 0), (1, 0), (1, 0), (0, a4), (0, a5), (1, 0), (1, 0), (1, 0)] [(0, s0), (10, 0)] w := by
  unfold jp_M_merge_124 at h
  refine pv_callV (n := 127) (x := 0) [(0, s0)] [] (con_M_isFine hl0 h) pw_cf8 rfl q_506 q_507 q_508 q_458 q_505 pyo_M_isFine (by decide) rfl rfl (by decide) d_M_merge_124 rfl (fun w52 r53 h _ => ?_) (fun _ _ h => h.elim)
  show pw_V l g cx_M_merge Q X 127 [(10, 0), (1, 0), (1, 0), (1, 0), (0, a4), (0, a5), (1, 0), (1, 0), (1, 0)] [(0, r53)] w52
  refine pv_if_ne (n := 130) (tgt := 132) d_M_merge_127 (by decide) rfl (fun c54 => ?_) (fun c54 => ?_)
  · replace h := h.1 c54
    refine pv_iconst (v := 0) (n := 133) d_M_merge_132 (by decide) rfl ?_
    refine pv_istore (n := 135) (L' := [(10, 0), (1, 0), (1, 0), (1, 0), (0, a4), (0, a5), (1, 0), (0, 0), (1, 0)]) d_M_merge_133 (by decide) rfl rfl ?_
    obtain ⟨k55, h⟩ := h
    exact vlp_M_merge_135 hl0 _ _ _ _ _ h
  · replace h := h.2 c54
    refine pv_iconst (v := 0) (n := 131) d_M_merge_130 (by decide) rfl ?_
    exact pv_iret rfl rfl d_M_merge_131 h
set_option maxHeartbeats 4000000 in
set_option maxRecDepth 20000 in
def jp_M_merge_103 (Q : pw_W → Int32 → Prop) (X : pw_W → Nat → Prop) (a3 a4 a5 s0 : Int32) (w : pw_W) : Prop := (¬ a3 = 0 → (¬ s0 = 0 → jp_M_merge_124 Q X a4 a5 0 w) ∧ (s0 = 0 → jp_M_merge_124 Q X a4 a5 2 w)) ∧ (a3 = 0 → jp_M_merge_124 Q X a4 a5 1 w)
set_option maxHeartbeats 4000000 in
set_option maxRecDepth 20000 in
theorem vjp_M_merge_103 {l : Launch} {g : pw_G} {Q : pw_W → Int32 → Prop} {X : pw_W → Nat → Prop} (hl0 : l.stackTraces = false) (a3 a4 a5 s0 : Int32) (w : pw_W) (h : jp_M_merge_103 Q X a3 a4 a5 s0 w) : pw_V l g cx_M_merge Q X 103 [(10, 0), (1, 0), (1, 0), (0, a3), (0, a4), (0, a5), (1, 0), (1, 0), (1, 0)] [(0, s0)] w := by
  unfold jp_M_merge_103 at h
  refine pv_istore (n := 105) (L' := [(10, 0), (1, 0), (1, 0), (0, a3), (0, a4), (0, a5), (0, s0), (1, 0), (1, 0)]) d_M_merge_103 (by decide) rfl rfl ?_
  refine pv_aload_n (n := 106) d_M_merge_105 rfl rfl rfl ?_
  refine pv_iload_n (n := 107) d_M_merge_106 rfl rfl rfl ?_
  refine pv_if_ne (n := 110) (tgt := 114) d_M_merge_107 (by decide) rfl (fun c56 => ?_) (fun c56 => ?_)
  · replace h := h.1 c56
    refine pv_iload (n := 116) d_M_merge_114 rfl rfl ?_
    refine pv_if_ne (n := 119) (tgt := 123) d_M_merge_116 (by decide) rfl (fun c57 => ?_) (fun c57 => ?_)
    · replace h := h.1 c57
      refine pv_iconst (v := 0) (n := 124) d_M_merge_123 (by decide) rfl ?_
      refine pv_unset (i := 3) (L1 := [(10, 0), (1, 0), (1, 0), (1, 0), (0, a4), (0, a5), (0, s0), (1, 0), (1, 0)]) rfl ?_
      refine pv_unset (i := 6) (L1 := [(10, 0), (1, 0), (1, 0), (1, 0), (0, a4), (0, a5), (1, 0), (1, 0), (1, 0)]) rfl ?_
      exact vjp_M_merge_124 hl0 _ _ _ _ h
    · replace h := h.2 c57
      refine pv_iconst (v := 2) (n := 120) d_M_merge_119 (by decide) rfl ?_
      refine pv_goto (tgt := 124) d_M_merge_120 (by decide) ?_
      refine pv_unset (i := 3) (L1 := [(10, 0), (1, 0), (1, 0), (1, 0), (0, a4), (0, a5), (0, s0), (1, 0), (1, 0)]) rfl ?_
      refine pv_unset (i := 6) (L1 := [(10, 0), (1, 0), (1, 0), (1, 0), (0, a4), (0, a5), (1, 0), (1, 0), (1, 0)]) rfl ?_
      exact vjp_M_merge_124 hl0 _ _ _ _ h
  · replace h := h.2 c56
    refine pv_iconst (v := 1) (n := 111) d_M_merge_110 (by decide) rfl ?_
    refine pv_goto (tgt := 124) d_M_merge_111 (by decide) ?_
    refine pv_unset (i := 3) (L1 := [(10, 0), (1, 0), (1, 0), (1, 0), (0, a4), (0, a5), (0, s0), (1, 0), (1, 0)]) rfl ?_
    refine pv_unset (i := 6) (L1 := [(10, 0), (1, 0), (1, 0), (1, 0), (0, a4), (0, a5), (1, 0), (1, 0), (1, 0)]) rfl ?_
    exact vjp_M_merge_124 hl0 _ _ _ _ h
set_option maxHeartbeats 4000000 in
set_option maxRecDepth 20000 in
def jp_M_merge_102 (Q : pw_W → Int32 → Prop) (X : pw_W → Nat → Prop) (a3 a4 a5 : Int32) (w : pw_W) : Prop := jp_M_merge_103 Q X a3 a4 a5 0 w
set_option maxHeartbeats 4000000 in
set_option maxRecDepth 20000 in
theorem vjp_M_merge_102 {l : Launch} {g : pw_G} {Q : pw_W → Int32 → Prop} {X : pw_W → Nat → Prop} (hl0 : l.stackTraces = false) (a3 a4 a5 : Int32) (w : pw_W) (h : jp_M_merge_102 Q X a3 a4 a5 w) : pw_V l g cx_M_merge Q X 102 [(10, 0), (1, 0), (1, 0), (0, a3), (0, a4), (0, a5), (1, 0), (1, 0), (1, 0)] [] w := by
  unfold jp_M_merge_102 at h
  refine pv_iconst (v := 0) (n := 103) d_M_merge_102 (by decide) rfl ?_
  exact vjp_M_merge_103 hl0 _ _ _ _ _ h
set_option maxHeartbeats 4000000 in
set_option maxRecDepth 20000 in
def jp_M_merge_50 (Q : pw_W → Int32 → Prop) (X : pw_W → Nat → Prop) (a3 a4 s0 : Int32) (w : pw_W) : Prop := (a3 = 0 → jp_M_merge_102 Q X a3 a4 s0 w) ∧ (¬ a3 = 0 → (a4 = s0 → jp_M_merge_102 Q X a3 a4 s0 w) ∧ (¬ a4 = s0 → w.1 8 0 16 = 0 ∧ pw_jn a4 (pw_ln w 216 0) ∧ w.1 8 0 16 = 0 ∧ pw_jn s0 (pw_ln w 216 0) ∧ (¬ (w.1 216 0 (pw_i a4)) = (w.1 216 0 (pw_i s0)) → jp_M_merge_102 Q X a3 a4 s0 w) ∧ ((w.1 216 0 (pw_i a4)) = (w.1 216 0 (pw_i s0)) → wp_M_missing w a4 s0 (fun w65 r66 => ((80 : Int32) < ((w.1 8 0 26) + r66) → jp_M_merge_102 Q X a3 a4 s0 w65) ∧ (¬ (80 : Int32) < ((w.1 8 0 26) + r66) → jp_M_merge_103 Q X a3 a4 s0 1 w65)) (fun _ _ => False))))
set_option maxHeartbeats 4000000 in
set_option maxRecDepth 20000 in
theorem vjp_M_merge_50 {l : Launch} {g : pw_G} {Q : pw_W → Int32 → Prop} {X : pw_W → Nat → Prop} (hl0 : l.stackTraces = false) (a3 a4 s0 : Int32) (w : pw_W) (h : jp_M_merge_50 Q X a3 a4 s0 w) : pw_V l g cx_M_merge Q X 50 [(10, 0), (1, 0), (1, 0), (0, a3), (0, a4), (1, 0), (1, 0), (1, 0), (1, 0)] [(0, s0)] w := by
  unfold jp_M_merge_50 at h
  refine pv_istore (n := 52) (L' := [(10, 0), (1, 0), (1, 0), (0, a3), (0, a4), (0, s0), (1, 0), (1, 0), (1, 0)]) d_M_merge_50 (by decide) rfl rfl ?_
  refine pv_iload_n (n := 53) d_M_merge_52 rfl rfl rfl ?_
  refine pv_if_eq (n := 56) (tgt := 102) d_M_merge_53 (by decide) rfl (fun c58 => ?_) (fun c58 => ?_)
  · replace h := h.1 c58
    exact vjp_M_merge_102 hl0 _ _ _ _ h
  · replace h := h.2 c58
    refine pv_iload (n := 58) d_M_merge_56 rfl rfl ?_
    refine pv_iload (n := 60) d_M_merge_58 rfl rfl ?_
    refine pv_icmp_eq (n := 63) (tgt := 102) d_M_merge_60 (by decide) rfl (fun c59 => ?_) (fun c59 => ?_)
    · replace h := h.1 c59
      exact vjp_M_merge_102 hl0 _ _ _ _ h
    · replace h := h.2 c59
      refine pv_aload_n (n := 64) d_M_merge_63 rfl rfl rfl ?_
      obtain ⟨g60, h⟩ := h
      refine gt_M_40 (n := 67) rfl d_M_merge_64 (by decide) g60 rfl ?_
      refine pv_iload (n := 69) d_M_merge_67 rfl rfl ?_
      obtain ⟨g61, h⟩ := h
      refine pv_iald (n := 70) (f := 216) (by decide) rfl d_M_merge_69 (by decide) g61 rfl ?_
      refine pv_aload_n (n := 71) d_M_merge_70 rfl rfl rfl ?_
      obtain ⟨g62, h⟩ := h
      refine gt_M_40 (n := 74) rfl d_M_merge_71 (by decide) g62 rfl ?_
      refine pv_iload (n := 76) d_M_merge_74 rfl rfl ?_
      obtain ⟨g63, h⟩ := h
      refine pv_iald (n := 77) (f := 216) (by decide) rfl d_M_merge_76 (by decide) g63 rfl ?_
      refine pv_icmp_ne (n := 80) (tgt := 102) d_M_merge_77 (by decide) rfl (fun c64 => ?_) (fun c64 => ?_)
      · replace h := h.1 c64
        exact vjp_M_merge_102 hl0 _ _ _ _ h
      · replace h := h.2 c64
        refine pv_aload_n (n := 81) d_M_merge_80 rfl rfl rfl ?_
        refine gt_M_131 (n := 84) rfl d_M_merge_81 (by decide) rfl ?_
        refine pv_aload_n (n := 85) d_M_merge_84 rfl rfl rfl ?_
        refine pv_iload (n := 87) d_M_merge_85 rfl rfl ?_
        refine pv_iload (n := 89) d_M_merge_87 rfl rfl ?_
        refine pv_callV (n := 92) (x := 0) [(0, a4), (0, s0)] [(0, (w.1 8 0 26))] (con_M_missing hl0 h) pw_cf8 rfl q_531 q_532 q_533 q_458 q_530 pyo_M_missing (by decide) rfl rfl (by decide) d_M_merge_89 rfl (fun w65 r66 h _ => ?_) (fun _ _ h => h.elim)
        show pw_V l g cx_M_merge Q X 92 [(10, 0), (1, 0), (1, 0), (0, a3), (0, a4), (0, s0), (1, 0), (1, 0), (1, 0)] [(0, r66), (0, (w.1 8 0 26))] w65
        refine pv_iadd (n := 93) d_M_merge_92 rfl ?_
        refine pv_bipush (v := 80) (n := 95) d_M_merge_93 (by decide) rfl ?_
        refine pv_icmp_gt (n := 98) (tgt := 102) d_M_merge_95 (by decide) rfl (fun c67 => ?_) (fun c67 => ?_)
        · replace h := h.1 c67
          exact vjp_M_merge_102 hl0 _ _ _ _ h
        · replace h := h.2 c67
          refine pv_iconst (v := 1) (n := 99) d_M_merge_98 (by decide) rfl ?_
          refine pv_goto (tgt := 103) d_M_merge_99 (by decide) ?_
          exact vjp_M_merge_103 hl0 _ _ _ _ _ h
set_option maxHeartbeats 4000000 in
set_option maxRecDepth 20000 in
def jp_M_merge_35 (Q : pw_W → Int32 → Prop) (X : pw_W → Nat → Prop) (a2 a3 s0 : Int32) (w : pw_W) : Prop := (a3 = 0 → jp_M_merge_50 Q X a3 s0 0 w) ∧ (¬ a3 = 0 → wp_M_now w a2 (fun w69 r70 => jp_M_merge_50 Q X a3 s0 r70 w69) (fun _ _ => False))
set_option maxHeartbeats 4000000 in
set_option maxRecDepth 20000 in
theorem vjp_M_merge_35 {l : Launch} {g : pw_G} {Q : pw_W → Int32 → Prop} {X : pw_W → Nat → Prop} (hl0 : l.stackTraces = false) (a2 a3 s0 : Int32) (w : pw_W) (h : jp_M_merge_35 Q X a2 a3 s0 w) : pw_V l g cx_M_merge Q X 35 [(10, 0), (1, 0), (0, a2), (0, a3), (1, 0), (1, 0), (1, 0), (1, 0), (1, 0)] [(0, s0)] w := by
  unfold jp_M_merge_35 at h
  refine pv_istore (n := 37) (L' := [(10, 0), (1, 0), (0, a2), (0, a3), (0, s0), (1, 0), (1, 0), (1, 0), (1, 0)]) d_M_merge_35 (by decide) rfl rfl ?_
  refine pv_iload_n (n := 38) d_M_merge_37 rfl rfl rfl ?_
  refine pv_if_eq (n := 41) (tgt := 49) d_M_merge_38 (by decide) rfl (fun c68 => ?_) (fun c68 => ?_)
  · replace h := h.1 c68
    refine pv_iconst (v := 0) (n := 50) d_M_merge_49 (by decide) rfl ?_
    refine pv_unset (i := 2) (L1 := [(10, 0), (1, 0), (1, 0), (0, a3), (0, s0), (1, 0), (1, 0), (1, 0), (1, 0)]) rfl ?_
    exact vjp_M_merge_50 hl0 _ _ _ _ h
  · replace h := h.2 c68
    refine pv_aload_n (n := 42) d_M_merge_41 rfl rfl rfl ?_
    refine pv_iload_n (n := 43) d_M_merge_42 rfl rfl rfl ?_
    refine pv_callV (n := 46) (x := 0) [(0, a2)] [] (con_M_now hl0 h) pw_cf8 rfl q_502 q_503 q_504 q_458 q_501 pyo_M_now (by decide) rfl rfl (by decide) d_M_merge_43 rfl (fun w69 r70 h _ => ?_) (fun _ _ h => h.elim)
    show pw_V l g cx_M_merge Q X 46 [(10, 0), (1, 0), (0, a2), (0, a3), (0, s0), (1, 0), (1, 0), (1, 0), (1, 0)] [(0, r70)] w69
    refine pv_goto (tgt := 50) d_M_merge_46 (by decide) ?_
    refine pv_unset (i := 2) (L1 := [(10, 0), (1, 0), (1, 0), (0, a3), (0, s0), (1, 0), (1, 0), (1, 0), (1, 0)]) rfl ?_
    exact vjp_M_merge_50 hl0 _ _ _ _ h
set_option maxHeartbeats 4000000 in
set_option maxRecDepth 20000 in
def jp_M_merge_21 (Q : pw_W → Int32 → Prop) (X : pw_W → Nat → Prop) (a1 a2 s0 : Int32) (w : pw_W) : Prop := (s0 = 0 → jp_M_merge_35 Q X a2 s0 0 w) ∧ (¬ s0 = 0 → wp_M_now w a1 (fun w72 r73 => jp_M_merge_35 Q X a2 s0 r73 w72) (fun _ _ => False))
set_option maxHeartbeats 4000000 in
set_option maxRecDepth 20000 in
theorem vjp_M_merge_21 {l : Launch} {g : pw_G} {Q : pw_W → Int32 → Prop} {X : pw_W → Nat → Prop} (hl0 : l.stackTraces = false) (a1 a2 s0 : Int32) (w : pw_W) (h : jp_M_merge_21 Q X a1 a2 s0 w) : pw_V l g cx_M_merge Q X 21 [(10, 0), (0, a1), (0, a2), (1, 0), (1, 0), (1, 0), (1, 0), (1, 0), (1, 0)] [(0, s0)] w := by
  unfold jp_M_merge_21 at h
  refine pv_istore_n (n := 22) (L' := [(10, 0), (0, a1), (0, a2), (0, s0), (1, 0), (1, 0), (1, 0), (1, 0), (1, 0)]) d_M_merge_21 rfl (by decide) rfl rfl ?_
  refine pv_iload_n (n := 23) d_M_merge_22 rfl rfl rfl ?_
  refine pv_if_eq (n := 26) (tgt := 34) d_M_merge_23 (by decide) rfl (fun c71 => ?_) (fun c71 => ?_)
  · replace h := h.1 c71
    refine pv_iconst (v := 0) (n := 35) d_M_merge_34 (by decide) rfl ?_
    refine pv_unset (i := 1) (L1 := [(10, 0), (1, 0), (0, a2), (0, s0), (1, 0), (1, 0), (1, 0), (1, 0), (1, 0)]) rfl ?_
    exact vjp_M_merge_35 hl0 _ _ _ _ h
  · replace h := h.2 c71
    refine pv_aload_n (n := 27) d_M_merge_26 rfl rfl rfl ?_
    refine pv_iload_n (n := 28) d_M_merge_27 rfl rfl rfl ?_
    refine pv_callV (n := 31) (x := 0) [(0, a1)] [] (con_M_now hl0 h) pw_cf8 rfl q_502 q_503 q_504 q_458 q_501 pyo_M_now (by decide) rfl rfl (by decide) d_M_merge_28 rfl (fun w72 r73 h _ => ?_) (fun _ _ h => h.elim)
    show pw_V l g cx_M_merge Q X 31 [(10, 0), (0, a1), (0, a2), (0, s0), (1, 0), (1, 0), (1, 0), (1, 0), (1, 0)] [(0, r73)] w72
    refine pv_goto (tgt := 35) d_M_merge_31 (by decide) ?_
    refine pv_unset (i := 1) (L1 := [(10, 0), (1, 0), (0, a2), (0, s0), (1, 0), (1, 0), (1, 0), (1, 0), (1, 0)]) rfl ?_
    exact vjp_M_merge_35 hl0 _ _ _ _ h
set_option maxHeartbeats 4000000 in
set_option maxRecDepth 20000 in
def jp_M_merge_20 (Q : pw_W → Int32 → Prop) (X : pw_W → Nat → Prop) (a1 a2 : Int32) (w : pw_W) : Prop := jp_M_merge_21 Q X a1 a2 0 w
set_option maxHeartbeats 4000000 in
set_option maxRecDepth 20000 in
theorem vjp_M_merge_20 {l : Launch} {g : pw_G} {Q : pw_W → Int32 → Prop} {X : pw_W → Nat → Prop} (hl0 : l.stackTraces = false) (a1 a2 : Int32) (w : pw_W) (h : jp_M_merge_20 Q X a1 a2 w) : pw_V l g cx_M_merge Q X 20 [(10, 0), (0, a1), (0, a2), (1, 0), (1, 0), (1, 0), (1, 0), (1, 0), (1, 0)] [] w := by
  unfold jp_M_merge_20 at h
  refine pv_iconst (v := 0) (n := 21) d_M_merge_20 (by decide) rfl ?_
  exact vjp_M_merge_21 hl0 _ _ _ _ h
set_option maxHeartbeats 4000000 in
set_option maxRecDepth 20000 in
def wp_M_merge (w : pw_W) (a1 a2 : Int32) (Q : pw_W → Int32 → Prop) (X : pw_W → Nat → Prop) : Prop := wp_M_isParcel w a1 (fun w74 r75 => (r75 = 0 → jp_M_merge_20 Q X a1 a2 w74) ∧ (¬ r75 = 0 → wp_M_isParcel w74 a2 (fun w77 r78 => (r78 = 0 → jp_M_merge_20 Q X a1 a2 w77) ∧ (¬ r78 = 0 → jp_M_merge_21 Q X a1 a2 1 w77)) (fun _ _ => False))) (fun _ _ => False)
set_option maxHeartbeats 4000000 in
set_option maxRecDepth 20000 in
theorem vw_M_merge {l : Launch} {g : pw_G} {Q : pw_W → Int32 → Prop} {X : pw_W → Nat → Prop} (hl0 : l.stackTraces = false) {w : pw_W} {a1 a2 : Int32} (h : wp_M_merge w a1 a2 Q X) : pw_V l g cx_M_merge Q X 0 [(10, 0), (0, a1), (0, a2), (1, 0), (1, 0), (1, 0), (1, 0), (1, 0), (1, 0)] [] w := by
  unfold wp_M_merge at h
  refine pv_aload_n (n := 1) d_M_merge_0 rfl rfl rfl ?_
  refine pv_iload_n (n := 2) d_M_merge_1 rfl rfl rfl ?_
  refine pv_callV (n := 5) (x := 0) [(0, a1)] [] (con_M_isParcel hl0 h) pw_cf8 rfl q_523 q_524 q_525 q_458 q_522 pyo_M_isParcel (by decide) rfl rfl (by decide) d_M_merge_2 rfl (fun w74 r75 h _ => ?_) (fun _ _ h => h.elim)
  show pw_V l g cx_M_merge Q X 5 [(10, 0), (0, a1), (0, a2), (1, 0), (1, 0), (1, 0), (1, 0), (1, 0), (1, 0)] [(0, r75)] w74
  refine pv_if_eq (n := 8) (tgt := 20) d_M_merge_5 (by decide) rfl (fun c76 => ?_) (fun c76 => ?_)
  · replace h := h.1 c76
    exact vjp_M_merge_20 hl0 _ _ _ h
  · replace h := h.2 c76
    refine pv_aload_n (n := 9) d_M_merge_8 rfl rfl rfl ?_
    refine pv_iload_n (n := 10) d_M_merge_9 rfl rfl rfl ?_
    refine pv_callV (n := 13) (x := 0) [(0, a2)] [] (con_M_isParcel hl0 h) pw_cf8 rfl q_523 q_524 q_525 q_458 q_522 pyo_M_isParcel (by decide) rfl rfl (by decide) d_M_merge_10 rfl (fun w77 r78 h _ => ?_) (fun _ _ h => h.elim)
    show pw_V l g cx_M_merge Q X 13 [(10, 0), (0, a1), (0, a2), (1, 0), (1, 0), (1, 0), (1, 0), (1, 0), (1, 0)] [(0, r78)] w77
    refine pv_if_eq (n := 16) (tgt := 20) d_M_merge_13 (by decide) rfl (fun c79 => ?_) (fun c79 => ?_)
    · replace h := h.1 c79
      exact vjp_M_merge_20 hl0 _ _ _ h
    · replace h := h.2 c79
      refine pv_iconst (v := 1) (n := 17) d_M_merge_16 (by decide) rfl ?_
      refine pv_goto (tgt := 21) d_M_merge_17 (by decide) ?_
      exact vjp_M_merge_21 hl0 _ _ _ _ h
set_option maxHeartbeats 4000000 in
set_option maxRecDepth 20000 in
theorem con_M_merge {l : Launch} {g : pw_G} {Q : pw_W → Int32 → Prop} {X : pw_W → Nat → Prop} (hl0 : l.stackTraces = false) {w : pw_W} {a1 a2 : Int32} (h : wp_M_merge w a1 a2 Q X) : pw_Con l g y_M_merge cx_M_merge [(10, 0), (0, a1), (0, a2)] w Q X :=
  pw_con (by decide +kernel) rfl rfl hl0 rfl (Nat.le_of_ble_eq_true rfl) (by simp) (vw_M_merge hl0 h)
theorem d_M_areSquares_0 : decode (pw_cc cx_M_areSquares) 0 = .ok (.iload_n 1, 1) := by decide +kernel
theorem d_M_areSquares_1 : decode (pw_cc cx_M_areSquares) 1 = .ok (.invokestatic 166, 3) := by decide +kernel
theorem d_M_areSquares_4 : decode (pw_cc cx_M_areSquares) 4 = .ok (.ifCond .eq 21, 3) := by decide +kernel
theorem d_M_areSquares_7 : decode (pw_cc cx_M_areSquares) 7 = .ok (.iload_n 2, 1) := by decide +kernel
theorem d_M_areSquares_8 : decode (pw_cc cx_M_areSquares) 8 = .ok (.invokestatic 163, 3) := by decide +kernel
theorem d_M_areSquares_11 : decode (pw_cc cx_M_areSquares) 11 = .ok (.ifCond .eq 14, 3) := by decide +kernel
theorem d_M_areSquares_14 : decode (pw_cc cx_M_areSquares) 14 = .ok (.iload_n 3, 1) := by decide +kernel
theorem d_M_areSquares_15 : decode (pw_cc cx_M_areSquares) 15 = .ok (.invokestatic 163, 3) := by decide +kernel
theorem d_M_areSquares_18 : decode (pw_cc cx_M_areSquares) 18 = .ok (.ifCond .eq 7, 3) := by decide +kernel
theorem d_M_areSquares_21 : decode (pw_cc cx_M_areSquares) 21 = .ok (.iconst 1, 1) := by decide +kernel
theorem d_M_areSquares_22 : decode (pw_cc cx_M_areSquares) 22 = .ok (.goto 4, 3) := by decide +kernel
theorem d_M_areSquares_25 : decode (pw_cc cx_M_areSquares) 25 = .ok (.iconst 0, 1) := by decide +kernel
theorem d_M_areSquares_26 : decode (pw_cc cx_M_areSquares) 26 = .ok (.ireturn, 1) := by decide +kernel
set_option maxHeartbeats 4000000 in
set_option maxRecDepth 20000 in
def wp_M_areSquares (w : pw_W) (a1 a2 a3 : Int32) (Q : pw_W → Int32 → Prop) (X : pw_W → Nat → Prop) : Prop := wp_M_isPerson w a1 (fun w1 r2 => (r2 = 0 → Q w1 0) ∧ (¬ r2 = 0 → wp_M_isSquare w1 a2 (fun w4 r5 => (r5 = 0 → Q w4 0) ∧ (¬ r5 = 0 → wp_M_isSquare w4 a3 (fun w7 r8 => (r8 = 0 → Q w7 0) ∧ (¬ r8 = 0 → Q w7 1)) (fun _ _ => False))) (fun _ _ => False))) (fun _ _ => False)
set_option maxHeartbeats 4000000 in
set_option maxRecDepth 20000 in
theorem vw_M_areSquares {l : Launch} {g : pw_G} {Q : pw_W → Int32 → Prop} {X : pw_W → Nat → Prop} (hl0 : l.stackTraces = false) {w : pw_W} {a1 a2 a3 : Int32} (h : wp_M_areSquares w a1 a2 a3 Q X) : pw_V l g cx_M_areSquares Q X 0 [(10, 0), (0, a1), (0, a2), (0, a3)] [] w := by
  unfold wp_M_areSquares at h
  refine pv_iload_n (n := 1) d_M_areSquares_0 rfl rfl rfl ?_
  refine pv_callS (n := 4) [(0, a1)] [] (con_M_isPerson hl0 h) q_517 q_518 q_458 q_516 pyo_M_isPerson (by decide) rfl rfl d_M_areSquares_1 rfl (fun w1 r2 h _ => ?_) (fun _ _ h => h.elim)
  show pw_V l g cx_M_areSquares Q X 4 [(10, 0), (0, a1), (0, a2), (0, a3)] [(0, r2)] w1
  refine pv_if_eq (n := 7) (tgt := 25) d_M_areSquares_4 (by decide) rfl (fun c3 => ?_) (fun c3 => ?_)
  · replace h := h.1 c3
    refine pv_iconst (v := 0) (n := 26) d_M_areSquares_25 (by decide) rfl ?_
    exact pv_zret rfl rfl d_M_areSquares_26 (by decide) h
  · replace h := h.2 c3
    refine pv_iload_n (n := 8) d_M_areSquares_7 rfl rfl rfl ?_
    refine pv_callS (n := 11) [(0, a2)] [] (con_M_isSquare hl0 h) q_520 q_521 q_458 q_519 pyo_M_isSquare (by decide) rfl rfl d_M_areSquares_8 rfl (fun w4 r5 h _ => ?_) (fun _ _ h => h.elim)
    show pw_V l g cx_M_areSquares Q X 11 [(10, 0), (0, a1), (0, a2), (0, a3)] [(0, r5)] w4
    refine pv_if_eq (n := 14) (tgt := 25) d_M_areSquares_11 (by decide) rfl (fun c6 => ?_) (fun c6 => ?_)
    · replace h := h.1 c6
      refine pv_iconst (v := 0) (n := 26) d_M_areSquares_25 (by decide) rfl ?_
      exact pv_zret rfl rfl d_M_areSquares_26 (by decide) h
    · replace h := h.2 c6
      refine pv_iload_n (n := 15) d_M_areSquares_14 rfl rfl rfl ?_
      refine pv_callS (n := 18) [(0, a3)] [] (con_M_isSquare hl0 h) q_520 q_521 q_458 q_519 pyo_M_isSquare (by decide) rfl rfl d_M_areSquares_15 rfl (fun w7 r8 h _ => ?_) (fun _ _ h => h.elim)
      show pw_V l g cx_M_areSquares Q X 18 [(10, 0), (0, a1), (0, a2), (0, a3)] [(0, r8)] w7
      refine pv_if_eq (n := 21) (tgt := 25) d_M_areSquares_18 (by decide) rfl (fun c9 => ?_) (fun c9 => ?_)
      · replace h := h.1 c9
        refine pv_iconst (v := 0) (n := 26) d_M_areSquares_25 (by decide) rfl ?_
        exact pv_zret rfl rfl d_M_areSquares_26 (by decide) h
      · replace h := h.2 c9
        refine pv_iconst (v := 1) (n := 22) d_M_areSquares_21 (by decide) rfl ?_
        refine pv_goto (tgt := 26) d_M_areSquares_22 (by decide) ?_
        exact pv_zret rfl rfl d_M_areSquares_26 (by decide) h
set_option maxHeartbeats 4000000 in
set_option maxRecDepth 20000 in
theorem con_M_areSquares {l : Launch} {g : pw_G} {Q : pw_W → Int32 → Prop} {X : pw_W → Nat → Prop} (hl0 : l.stackTraces = false) {w : pw_W} {a1 a2 a3 : Int32} (h : wp_M_areSquares w a1 a2 a3 Q X) : pw_Con l g y_M_areSquares cx_M_areSquares [(10, 0), (0, a1), (0, a2), (0, a3)] w Q X :=
  pw_con (by decide +kernel) rfl rfl hl0 rfl (Nat.le_of_ble_eq_true rfl) (by simp) (vw_M_areSquares hl0 h)
theorem d_M_survey_0 : decode (pw_cc cx_M_survey) 0 = .ok (.aload_n 0, 1) := by decide +kernel
theorem d_M_survey_1 : decode (pw_cc cx_M_survey) 1 = .ok (.iload_n 1, 1) := by decide +kernel
theorem d_M_survey_2 : decode (pw_cc cx_M_survey) 2 = .ok (.iload_n 2, 1) := by decide +kernel
theorem d_M_survey_3 : decode (pw_cc cx_M_survey) 3 = .ok (.iload_n 3, 1) := by decide +kernel
theorem d_M_survey_4 : decode (pw_cc cx_M_survey) 4 = .ok (.invokevirtual 198, 3) := by decide +kernel
theorem d_M_survey_7 : decode (pw_cc cx_M_survey) 7 = .ok (.istore 4, 2) := by decide +kernel
theorem d_M_survey_9 : decode (pw_cc cx_M_survey) 9 = .ok (.aload_n 0, 1) := by decide +kernel
theorem d_M_survey_10 : decode (pw_cc cx_M_survey) 10 = .ok (.iload 4, 2) := by decide +kernel
theorem d_M_survey_12 : decode (pw_cc cx_M_survey) 12 = .ok (.ifCond .ne 7, 3) := by decide +kernel
theorem d_M_survey_15 : decode (pw_cc cx_M_survey) 15 = .ok (.iconst 1, 1) := by decide +kernel
theorem d_M_survey_16 : decode (pw_cc cx_M_survey) 16 = .ok (.goto 38, 3) := by decide +kernel
theorem d_M_survey_19 : decode (pw_cc cx_M_survey) 19 = .ok (.iload_n 2, 1) := by decide +kernel
theorem d_M_survey_20 : decode (pw_cc cx_M_survey) 20 = .ok (.iload_n 3, 1) := by decide +kernel
theorem d_M_survey_21 : decode (pw_cc cx_M_survey) 21 = .ok (.invokestatic 169, 3) := by decide +kernel
theorem d_M_survey_24 : decode (pw_cc cx_M_survey) 24 = .ok (.ifCond .ne 7, 3) := by decide +kernel
theorem d_M_survey_27 : decode (pw_cc cx_M_survey) 27 = .ok (.iconst 2, 1) := by decide +kernel
theorem d_M_survey_28 : decode (pw_cc cx_M_survey) 28 = .ok (.goto 26, 3) := by decide +kernel
theorem d_M_survey_31 : decode (pw_cc cx_M_survey) 31 = .ok (.aload_n 0, 1) := by decide +kernel
theorem d_M_survey_32 : decode (pw_cc cx_M_survey) 32 = .ok (.getfield 104, 3) := by decide +kernel
theorem d_M_survey_35 : decode (pw_cc cx_M_survey) 35 = .ok (.iload_n 1, 1) := by decide +kernel
theorem d_M_survey_36 : decode (pw_cc cx_M_survey) 36 = .ok (.baload, 1) := by decide +kernel
theorem d_M_survey_37 : decode (pw_cc cx_M_survey) 37 = .ok (.ifCond .ne 12, 3) := by decide +kernel
theorem d_M_survey_40 : decode (pw_cc cx_M_survey) 40 = .ok (.aload_n 0, 1) := by decide +kernel
theorem d_M_survey_41 : decode (pw_cc cx_M_survey) 41 = .ok (.getfield 201, 3) := by decide +kernel
theorem d_M_survey_44 : decode (pw_cc cx_M_survey) 44 = .ok (.bipush 12, 2) := by decide +kernel
theorem d_M_survey_46 : decode (pw_cc cx_M_survey) 46 = .ok (.if_icmp .ne 7, 3) := by decide +kernel
theorem d_M_survey_49 : decode (pw_cc cx_M_survey) 49 = .ok (.iconst 3, 1) := by decide +kernel
theorem d_M_survey_50 : decode (pw_cc cx_M_survey) 50 = .ok (.goto 4, 3) := by decide +kernel
theorem d_M_survey_53 : decode (pw_cc cx_M_survey) 53 = .ok (.iconst 0, 1) := by decide +kernel
theorem d_M_survey_54 : decode (pw_cc cx_M_survey) 54 = .ok (.invokevirtual 179, 3) := by decide +kernel
theorem d_M_survey_57 : decode (pw_cc cx_M_survey) 57 = .ok (.ifCond .ne 5, 3) := by decide +kernel
theorem d_M_survey_60 : decode (pw_cc cx_M_survey) 60 = .ok (.iconst 0, 1) := by decide +kernel
theorem d_M_survey_61 : decode (pw_cc cx_M_survey) 61 = .ok (.ireturn, 1) := by decide +kernel
theorem d_M_survey_62 : decode (pw_cc cx_M_survey) 62 = .ok (.aload_n 0, 1) := by decide +kernel
theorem d_M_survey_63 : decode (pw_cc cx_M_survey) 63 = .ok (.getfield 68, 3) := by decide +kernel
theorem d_M_survey_66 : decode (pw_cc cx_M_survey) 66 = .ok (.aload_n 0, 1) := by decide +kernel
theorem d_M_survey_67 : decode (pw_cc cx_M_survey) 67 = .ok (.getfield 201, 3) := by decide +kernel
theorem d_M_survey_70 : decode (pw_cc cx_M_survey) 70 = .ok (.iload_n 1, 1) := by decide +kernel
theorem d_M_survey_71 : decode (pw_cc cx_M_survey) 71 = .ok (.iastore, 1) := by decide +kernel
theorem d_M_survey_72 : decode (pw_cc cx_M_survey) 72 = .ok (.aload_n 0, 1) := by decide +kernel
theorem d_M_survey_73 : decode (pw_cc cx_M_survey) 73 = .ok (.getfield 71, 3) := by decide +kernel
theorem d_M_survey_76 : decode (pw_cc cx_M_survey) 76 = .ok (.aload_n 0, 1) := by decide +kernel
theorem d_M_survey_77 : decode (pw_cc cx_M_survey) 77 = .ok (.getfield 201, 3) := by decide +kernel
theorem d_M_survey_80 : decode (pw_cc cx_M_survey) 80 = .ok (.iload_n 2, 1) := by decide +kernel
theorem d_M_survey_81 : decode (pw_cc cx_M_survey) 81 = .ok (.iastore, 1) := by decide +kernel
theorem d_M_survey_82 : decode (pw_cc cx_M_survey) 82 = .ok (.aload_n 0, 1) := by decide +kernel
theorem d_M_survey_83 : decode (pw_cc cx_M_survey) 83 = .ok (.getfield 74, 3) := by decide +kernel
theorem d_M_survey_86 : decode (pw_cc cx_M_survey) 86 = .ok (.aload_n 0, 1) := by decide +kernel
theorem d_M_survey_87 : decode (pw_cc cx_M_survey) 87 = .ok (.getfield 201, 3) := by decide +kernel
theorem d_M_survey_90 : decode (pw_cc cx_M_survey) 90 = .ok (.iload_n 3, 1) := by decide +kernel
theorem d_M_survey_91 : decode (pw_cc cx_M_survey) 91 = .ok (.iastore, 1) := by decide +kernel
theorem d_M_survey_92 : decode (pw_cc cx_M_survey) 92 = .ok (.aload_n 0, 1) := by decide +kernel
theorem d_M_survey_93 : decode (pw_cc cx_M_survey) 93 = .ok (.dup, 1) := by decide +kernel
theorem d_M_survey_94 : decode (pw_cc cx_M_survey) 94 = .ok (.getfield 201, 3) := by decide +kernel
theorem d_M_survey_97 : decode (pw_cc cx_M_survey) 97 = .ok (.iconst 1, 1) := by decide +kernel
theorem d_M_survey_98 : decode (pw_cc cx_M_survey) 98 = .ok (.iadd, 1) := by decide +kernel
theorem d_M_survey_99 : decode (pw_cc cx_M_survey) 99 = .ok (.putfield 201, 3) := by decide +kernel
theorem d_M_survey_102 : decode (pw_cc cx_M_survey) 102 = .ok (.aload_n 0, 1) := by decide +kernel
theorem d_M_survey_103 : decode (pw_cc cx_M_survey) 103 = .ok (.getfield 201, 3) := by decide +kernel
theorem d_M_survey_106 : decode (pw_cc cx_M_survey) 106 = .ok (.ireturn, 1) := by decide +kernel
set_option maxHeartbeats 4000000 in
set_option maxRecDepth 20000 in
def jp_M_survey_54 (Q : pw_W → Int32 → Prop) (X : pw_W → Nat → Prop) (a1 a2 a3 s0 : Int32) (w : pw_W) : Prop := wp_M_isFine w s0 (fun w1 r2 => (¬ r2 = 0 → w1.1 8 0 27 = 0 ∧ pw_jn (w1.1 8 0 30) (pw_ln w1 227 0) ∧ ∀ w6, w6 = pw_ps w1 227 0 (pw_i (w1.1 8 0 30)) a1 → w6.1 8 0 28 = 0 ∧ pw_jn (w6.1 8 0 30) (pw_ln w6 228 0) ∧ ∀ w10, w10 = pw_ps w6 228 0 (pw_i (w6.1 8 0 30)) a2 → w10.1 8 0 29 = 0 ∧ pw_jn (w10.1 8 0 30) (pw_ln w10 229 0) ∧ ∀ w14, w14 = pw_ps w10 229 0 (pw_i (w10.1 8 0 30)) a3 → ∀ w16, w16 = pw_ps w14 8 0 30 ((w14.1 8 0 30) + 1) → Q w16 (w16.1 8 0 30)) ∧ (r2 = 0 → Q w1 0)) (fun _ _ => False)
set_option maxHeartbeats 4000000 in
set_option maxRecDepth 20000 in
theorem vjp_M_survey_54 {l : Launch} {g : pw_G} {Q : pw_W → Int32 → Prop} {X : pw_W → Nat → Prop} (hl0 : l.stackTraces = false) (a1 a2 a3 s0 : Int32) (w : pw_W) (h : jp_M_survey_54 Q X a1 a2 a3 s0 w) : pw_V l g cx_M_survey Q X 54 [(10, 0), (0, a1), (0, a2), (0, a3), (1, 0)] [(0, s0), (10, 0)] w := by
  unfold jp_M_survey_54 at h
  refine pv_callV (n := 57) (x := 0) [(0, s0)] [] (con_M_isFine hl0 h) pw_cf8 rfl q_506 q_507 q_508 q_458 q_505 pyo_M_isFine (by decide) rfl rfl (by decide) d_M_survey_54 rfl (fun w1 r2 h _ => ?_) (fun _ _ h => h.elim)
  show pw_V l g cx_M_survey Q X 57 [(10, 0), (0, a1), (0, a2), (0, a3), (1, 0)] [(0, r2)] w1
  refine pv_if_ne (n := 60) (tgt := 62) d_M_survey_57 (by decide) rfl (fun c3 => ?_) (fun c3 => ?_)
  · replace h := h.1 c3
    refine pv_aload_n (n := 63) d_M_survey_62 rfl rfl rfl ?_
    obtain ⟨g4, h⟩ := h
    refine gt_M_68 (n := 66) rfl d_M_survey_63 (by decide) g4 rfl ?_
    refine pv_aload_n (n := 67) d_M_survey_66 rfl rfl rfl ?_
    refine gt_M_201 (n := 70) rfl d_M_survey_67 (by decide) rfl ?_
    refine pv_iload_n (n := 71) d_M_survey_70 rfl rfl rfl ?_
    obtain ⟨g5, h⟩ := h
    refine pv_iast1 (n := 72) (f := 227) (by decide) rfl (fun _ => rfl) d_M_survey_71 (by decide) g5 rfl (fun w6 e7 => ?_)
    replace h := h w6 e7
    refine pv_aload_n (n := 73) d_M_survey_72 rfl rfl rfl ?_
    obtain ⟨g8, h⟩ := h
    refine gt_M_71 (n := 76) rfl d_M_survey_73 (by decide) g8 rfl ?_
    refine pv_aload_n (n := 77) d_M_survey_76 rfl rfl rfl ?_
    refine gt_M_201 (n := 80) rfl d_M_survey_77 (by decide) rfl ?_
    refine pv_iload_n (n := 81) d_M_survey_80 rfl rfl rfl ?_
    obtain ⟨g9, h⟩ := h
    refine pv_iast1 (n := 82) (f := 228) (by decide) rfl (fun _ => rfl) d_M_survey_81 (by decide) g9 rfl (fun w10 e11 => ?_)
    replace h := h w10 e11
    refine pv_aload_n (n := 83) d_M_survey_82 rfl rfl rfl ?_
    obtain ⟨g12, h⟩ := h
    refine gt_M_74 (n := 86) rfl d_M_survey_83 (by decide) g12 rfl ?_
    refine pv_aload_n (n := 87) d_M_survey_86 rfl rfl rfl ?_
    refine gt_M_201 (n := 90) rfl d_M_survey_87 (by decide) rfl ?_
    refine pv_iload_n (n := 91) d_M_survey_90 rfl rfl rfl ?_
    obtain ⟨g13, h⟩ := h
    refine pv_iast1 (n := 92) (f := 229) (by decide) rfl (fun _ => rfl) d_M_survey_91 (by decide) g13 rfl (fun w14 e15 => ?_)
    replace h := h w14 e15
    refine pv_aload_n (n := 93) d_M_survey_92 rfl rfl rfl ?_
    refine pv_dup (n := 94) d_M_survey_93 (by decide) rfl ?_
    refine gt_M_201 (n := 97) rfl d_M_survey_94 (by decide) rfl ?_
    refine pv_iconst (v := 1) (n := 98) d_M_survey_97 (by decide) rfl ?_
    refine pv_iadd (n := 99) d_M_survey_98 rfl ?_
    refine pt_M_201 (n := 102) rfl d_M_survey_99 (by decide) rfl (fun w16 e17 => ?_)
    replace h := h w16 e17
    refine pv_aload_n (n := 103) d_M_survey_102 rfl rfl rfl ?_
    refine gt_M_201 (n := 106) rfl d_M_survey_103 (by decide) rfl ?_
    exact pv_iret rfl rfl d_M_survey_106 h
  · replace h := h.2 c3
    refine pv_iconst (v := 0) (n := 61) d_M_survey_60 (by decide) rfl ?_
    exact pv_iret rfl rfl d_M_survey_61 h
set_option maxHeartbeats 4000000 in
set_option maxRecDepth 20000 in
def jp_M_survey_49 (Q : pw_W → Int32 → Prop) (X : pw_W → Nat → Prop) (a1 a2 a3 : Int32) (w : pw_W) : Prop := jp_M_survey_54 Q X a1 a2 a3 3 w
set_option maxHeartbeats 4000000 in
set_option maxRecDepth 20000 in
theorem vjp_M_survey_49 {l : Launch} {g : pw_G} {Q : pw_W → Int32 → Prop} {X : pw_W → Nat → Prop} (hl0 : l.stackTraces = false) (a1 a2 a3 : Int32) (w : pw_W) (h : jp_M_survey_49 Q X a1 a2 a3 w) : pw_V l g cx_M_survey Q X 49 [(10, 0), (0, a1), (0, a2), (0, a3), (1, 0)] [(10, 0)] w := by
  unfold jp_M_survey_49 at h
  refine pv_iconst (v := 3) (n := 50) d_M_survey_49 (by decide) rfl ?_
  refine pv_goto (tgt := 54) d_M_survey_50 (by decide) ?_
  exact vjp_M_survey_54 hl0 _ _ _ _ _ h
set_option maxHeartbeats 4000000 in
set_option maxRecDepth 20000 in
def wp_M_survey (w : pw_W) (a1 a2 a3 : Int32) (Q : pw_W → Int32 → Prop) (X : pw_W → Nat → Prop) : Prop := wp_M_areSquares w a1 a2 a3 (fun w18 r19 => (¬ r19 = 0 → wp_M_isField w18 a2 a3 (fun w21 r22 => (¬ r22 = 0 → w21.1 8 0 42 = 0 ∧ pw_jn a1 (pw_ln w21 242 0) ∧ (¬ (w21.1 242 0 (pw_i a1)) = 0 → jp_M_survey_49 Q X a1 a2 a3 w21) ∧ ((w21.1 242 0 (pw_i a1)) = 0 → (¬ (w21.1 8 0 30) = 12 → jp_M_survey_54 Q X a1 a2 a3 0 w21) ∧ ((w21.1 8 0 30) = 12 → jp_M_survey_49 Q X a1 a2 a3 w21))) ∧ (r22 = 0 → jp_M_survey_54 Q X a1 a2 a3 2 w21)) (fun _ _ => False)) ∧ (r19 = 0 → jp_M_survey_54 Q X a1 a2 a3 1 w18)) (fun _ _ => False)
set_option maxHeartbeats 4000000 in
set_option maxRecDepth 20000 in
theorem vw_M_survey {l : Launch} {g : pw_G} {Q : pw_W → Int32 → Prop} {X : pw_W → Nat → Prop} (hl0 : l.stackTraces = false) {w : pw_W} {a1 a2 a3 : Int32} (h : wp_M_survey w a1 a2 a3 Q X) : pw_V l g cx_M_survey Q X 0 [(10, 0), (0, a1), (0, a2), (0, a3), (1, 0)] [] w := by
  unfold wp_M_survey at h
  refine pv_aload_n (n := 1) d_M_survey_0 rfl rfl rfl ?_
  refine pv_iload_n (n := 2) d_M_survey_1 rfl rfl rfl ?_
  refine pv_iload_n (n := 3) d_M_survey_2 rfl rfl rfl ?_
  refine pv_iload_n (n := 4) d_M_survey_3 rfl rfl rfl ?_
  refine pv_callV (n := 7) (x := 0) [(0, a1), (0, a2), (0, a3)] [] (con_M_areSquares hl0 h) pw_cf8 rfl q_536 q_537 q_538 q_458 q_535 pyo_M_areSquares (by decide) rfl rfl (by decide) d_M_survey_4 rfl (fun w18 r19 h _ => ?_) (fun _ _ h => h.elim)
  show pw_V l g cx_M_survey Q X 7 [(10, 0), (0, a1), (0, a2), (0, a3), (1, 0)] [(0, r19)] w18
  refine pv_istore (n := 9) (L' := [(10, 0), (0, a1), (0, a2), (0, a3), (0, r19)]) d_M_survey_7 (by decide) rfl rfl ?_
  refine pv_aload_n (n := 10) d_M_survey_9 rfl rfl rfl ?_
  refine pv_iload (n := 12) d_M_survey_10 rfl rfl ?_
  refine pv_if_ne (n := 15) (tgt := 19) d_M_survey_12 (by decide) rfl (fun c20 => ?_) (fun c20 => ?_)
  · replace h := h.1 c20
    refine pv_iload_n (n := 20) d_M_survey_19 rfl rfl rfl ?_
    refine pv_iload_n (n := 21) d_M_survey_20 rfl rfl rfl ?_
    refine pv_callS (n := 24) [(0, a2), (0, a3)] [(10, 0)] (con_M_isField hl0 h) q_514 q_515 q_458 q_513 pyo_M_isField (by decide) rfl rfl d_M_survey_21 rfl (fun w21 r22 h _ => ?_) (fun _ _ h => h.elim)
    show pw_V l g cx_M_survey Q X 24 [(10, 0), (0, a1), (0, a2), (0, a3), (0, r19)] [(0, r22), (10, 0)] w21
    refine pv_if_ne (n := 27) (tgt := 31) d_M_survey_24 (by decide) rfl (fun c23 => ?_) (fun c23 => ?_)
    · replace h := h.1 c23
      refine pv_aload_n (n := 32) d_M_survey_31 rfl rfl rfl ?_
      obtain ⟨g24, h⟩ := h
      refine gt_M_104 (n := 35) rfl d_M_survey_32 (by decide) g24 rfl ?_
      refine pv_iload_n (n := 36) d_M_survey_35 rfl rfl rfl ?_
      obtain ⟨g25, h⟩ := h
      refine pv_zald (n := 37) (f := 242) (by decide) rfl d_M_survey_36 (by decide) g25 rfl ?_
      refine pv_if_ne (n := 40) (tgt := 49) d_M_survey_37 (by decide) rfl (fun c26 => ?_) (fun c26 => ?_)
      · replace h := h.1 c26
        refine pv_unset (i := 4) (L1 := [(10, 0), (0, a1), (0, a2), (0, a3), (1, 0)]) rfl ?_
        exact vjp_M_survey_49 hl0 _ _ _ _ h
      · replace h := h.2 c26
        refine pv_aload_n (n := 41) d_M_survey_40 rfl rfl rfl ?_
        refine gt_M_201 (n := 44) rfl d_M_survey_41 (by decide) rfl ?_
        refine pv_bipush (v := 12) (n := 46) d_M_survey_44 (by decide) rfl ?_
        refine pv_icmp_ne (n := 49) (tgt := 53) d_M_survey_46 (by decide) rfl (fun c27 => ?_) (fun c27 => ?_)
        · replace h := h.1 c27
          refine pv_iconst (v := 0) (n := 54) d_M_survey_53 (by decide) rfl ?_
          refine pv_unset (i := 4) (L1 := [(10, 0), (0, a1), (0, a2), (0, a3), (1, 0)]) rfl ?_
          exact vjp_M_survey_54 hl0 _ _ _ _ _ h
        · replace h := h.2 c27
          refine pv_unset (i := 4) (L1 := [(10, 0), (0, a1), (0, a2), (0, a3), (1, 0)]) rfl ?_
          exact vjp_M_survey_49 hl0 _ _ _ _ h
    · replace h := h.2 c23
      refine pv_iconst (v := 2) (n := 28) d_M_survey_27 (by decide) rfl ?_
      refine pv_goto (tgt := 54) d_M_survey_28 (by decide) ?_
      refine pv_unset (i := 4) (L1 := [(10, 0), (0, a1), (0, a2), (0, a3), (1, 0)]) rfl ?_
      exact vjp_M_survey_54 hl0 _ _ _ _ _ h
  · replace h := h.2 c20
    refine pv_iconst (v := 1) (n := 16) d_M_survey_15 (by decide) rfl ?_
    refine pv_goto (tgt := 54) d_M_survey_16 (by decide) ?_
    refine pv_unset (i := 4) (L1 := [(10, 0), (0, a1), (0, a2), (0, a3), (1, 0)]) rfl ?_
    exact vjp_M_survey_54 hl0 _ _ _ _ _ h
set_option maxHeartbeats 4000000 in
set_option maxRecDepth 20000 in
theorem con_M_survey {l : Launch} {g : pw_G} {Q : pw_W → Int32 → Prop} {X : pw_W → Nat → Prop} (hl0 : l.stackTraces = false) {w : pw_W} {a1 a2 a3 : Int32} (h : wp_M_survey w a1 a2 a3 Q X) : pw_Con l g y_M_survey cx_M_survey [(10, 0), (0, a1), (0, a2), (0, a3)] w Q X :=
  pw_con (by decide +kernel) rfl rfl hl0 rfl (Nat.le_of_ble_eq_true rfl) (by simp) (vw_M_survey hl0 h)
theorem d_M_use_0 : decode (pw_cc cx_M_use) 0 = .ok (.aload_n 0, 1) := by decide +kernel
theorem d_M_use_1 : decode (pw_cc cx_M_use) 1 = .ok (.iload_n 1, 1) := by decide +kernel
theorem d_M_use_2 : decode (pw_cc cx_M_use) 2 = .ok (.iload_n 2, 1) := by decide +kernel
theorem d_M_use_3 : decode (pw_cc cx_M_use) 3 = .ok (.iload_n 3, 1) := by decide +kernel
theorem d_M_use_4 : decode (pw_cc cx_M_use) 4 = .ok (.invokevirtual 198, 3) := by decide +kernel
theorem d_M_use_7 : decode (pw_cc cx_M_use) 7 = .ok (.istore 4, 2) := by decide +kernel
theorem d_M_use_9 : decode (pw_cc cx_M_use) 9 = .ok (.aload_n 0, 1) := by decide +kernel
theorem d_M_use_10 : decode (pw_cc cx_M_use) 10 = .ok (.iload 4, 2) := by decide +kernel
theorem d_M_use_12 : decode (pw_cc cx_M_use) 12 = .ok (.ifCond .ne 7, 3) := by decide +kernel
theorem d_M_use_15 : decode (pw_cc cx_M_use) 15 = .ok (.iconst 1, 1) := by decide +kernel
theorem d_M_use_16 : decode (pw_cc cx_M_use) 16 = .ok (.goto 29, 3) := by decide +kernel
theorem d_M_use_19 : decode (pw_cc cx_M_use) 19 = .ok (.iload_n 2, 1) := by decide +kernel
theorem d_M_use_20 : decode (pw_cc cx_M_use) 20 = .ok (.iload_n 3, 1) := by decide +kernel
theorem d_M_use_21 : decode (pw_cc cx_M_use) 21 = .ok (.invokestatic 169, 3) := by decide +kernel
theorem d_M_use_24 : decode (pw_cc cx_M_use) 24 = .ok (.ifCond .ne 7, 3) := by decide +kernel
theorem d_M_use_27 : decode (pw_cc cx_M_use) 27 = .ok (.iconst 2, 1) := by decide +kernel
theorem d_M_use_28 : decode (pw_cc cx_M_use) 28 = .ok (.goto 17, 3) := by decide +kernel
theorem d_M_use_31 : decode (pw_cc cx_M_use) 31 = .ok (.aload_n 0, 1) := by decide +kernel
theorem d_M_use_32 : decode (pw_cc cx_M_use) 32 = .ok (.getfield 104, 3) := by decide +kernel
theorem d_M_use_35 : decode (pw_cc cx_M_use) 35 = .ok (.iload_n 1, 1) := by decide +kernel
theorem d_M_use_36 : decode (pw_cc cx_M_use) 36 = .ok (.baload, 1) := by decide +kernel
theorem d_M_use_37 : decode (pw_cc cx_M_use) 37 = .ok (.ifCond .eq 7, 3) := by decide +kernel
theorem d_M_use_40 : decode (pw_cc cx_M_use) 40 = .ok (.iconst 3, 1) := by decide +kernel
theorem d_M_use_41 : decode (pw_cc cx_M_use) 41 = .ok (.goto 4, 3) := by decide +kernel
theorem d_M_use_44 : decode (pw_cc cx_M_use) 44 = .ok (.iconst 0, 1) := by decide +kernel
theorem d_M_use_45 : decode (pw_cc cx_M_use) 45 = .ok (.invokevirtual 179, 3) := by decide +kernel
theorem d_M_use_48 : decode (pw_cc cx_M_use) 48 = .ok (.ifCond .ne 5, 3) := by decide +kernel
theorem d_M_use_51 : decode (pw_cc cx_M_use) 51 = .ok (.iconst 0, 1) := by decide +kernel
theorem d_M_use_52 : decode (pw_cc cx_M_use) 52 = .ok (.ireturn, 1) := by decide +kernel
theorem d_M_use_53 : decode (pw_cc cx_M_use) 53 = .ok (.iconst 0, 1) := by decide +kernel
theorem d_M_use_54 : decode (pw_cc cx_M_use) 54 = .ok (.istore 5, 2) := by decide +kernel
theorem d_M_use_56 : decode (pw_cc cx_M_use) 56 = .ok (.iconst 0, 1) := by decide +kernel
theorem d_M_use_57 : decode (pw_cc cx_M_use) 57 = .ok (.istore 6, 2) := by decide +kernel
theorem d_M_use_59 : decode (pw_cc cx_M_use) 59 = .ok (.iload 6, 2) := by decide +kernel
theorem d_M_use_61 : decode (pw_cc cx_M_use) 61 = .ok (.bipush 100, 2) := by decide +kernel
theorem d_M_use_63 : decode (pw_cc cx_M_use) 63 = .ok (.if_icmp .ge 107, 3) := by decide +kernel
theorem d_M_use_66 : decode (pw_cc cx_M_use) 66 = .ok (.iload 6, 2) := by decide +kernel
theorem d_M_use_68 : decode (pw_cc cx_M_use) 68 = .ok (.iload_n 2, 1) := by decide +kernel
theorem d_M_use_69 : decode (pw_cc cx_M_use) 69 = .ok (.iload_n 3, 1) := by decide +kernel
theorem d_M_use_70 : decode (pw_cc cx_M_use) 70 = .ok (.invokestatic 149, 3) := by decide +kernel
theorem d_M_use_73 : decode (pw_cc cx_M_use) 73 = .ok (.ifCond .eq 18, 3) := by decide +kernel
theorem d_M_use_76 : decode (pw_cc cx_M_use) 76 = .ok (.aload_n 0, 1) := by decide +kernel
theorem d_M_use_77 : decode (pw_cc cx_M_use) 77 = .ok (.getfield 22, 3) := by decide +kernel
theorem d_M_use_80 : decode (pw_cc cx_M_use) 80 = .ok (.iload 6, 2) := by decide +kernel
theorem d_M_use_82 : decode (pw_cc cx_M_use) 82 = .ok (.iaload, 1) := by decide +kernel
theorem d_M_use_83 : decode (pw_cc cx_M_use) 83 = .ok (.iload_n 1, 1) := by decide +kernel
theorem d_M_use_84 : decode (pw_cc cx_M_use) 84 = .ok (.if_icmp .eq 7, 3) := by decide +kernel
theorem d_M_use_87 : decode (pw_cc cx_M_use) 87 = .ok (.iconst 1, 1) := by decide +kernel
theorem d_M_use_88 : decode (pw_cc cx_M_use) 88 = .ok (.goto 4, 3) := by decide +kernel
theorem d_M_use_91 : decode (pw_cc cx_M_use) 91 = .ok (.iconst 0, 1) := by decide +kernel
theorem d_M_use_92 : decode (pw_cc cx_M_use) 92 = .ok (.istore 7, 2) := by decide +kernel
theorem d_M_use_94 : decode (pw_cc cx_M_use) 94 = .ok (.aload_n 0, 1) := by decide +kernel
theorem d_M_use_95 : decode (pw_cc cx_M_use) 95 = .ok (.getfield 25, 3) := by decide +kernel
theorem d_M_use_98 : decode (pw_cc cx_M_use) 98 = .ok (.iload 6, 2) := by decide +kernel
theorem d_M_use_100 : decode (pw_cc cx_M_use) 100 = .ok (.iload 7, 2) := by decide +kernel
theorem d_M_use_102 : decode (pw_cc cx_M_use) 102 = .ok (.ifCond .eq 10, 3) := by decide +kernel
theorem d_M_use_105 : decode (pw_cc cx_M_use) 105 = .ok (.aload_n 0, 1) := by decide +kernel
theorem d_M_use_106 : decode (pw_cc cx_M_use) 106 = .ok (.getfield 204, 3) := by decide +kernel
theorem d_M_use_109 : decode (pw_cc cx_M_use) 109 = .ok (.goto 10, 3) := by decide +kernel
theorem d_M_use_112 : decode (pw_cc cx_M_use) 112 = .ok (.aload_n 0, 1) := by decide +kernel
theorem d_M_use_113 : decode (pw_cc cx_M_use) 113 = .ok (.getfield 25, 3) := by decide +kernel
theorem d_M_use_116 : decode (pw_cc cx_M_use) 116 = .ok (.iload 6, 2) := by decide +kernel
theorem d_M_use_118 : decode (pw_cc cx_M_use) 118 = .ok (.iaload, 1) := by decide +kernel
theorem d_M_use_119 : decode (pw_cc cx_M_use) 119 = .ok (.iastore, 1) := by decide +kernel
theorem d_M_use_120 : decode (pw_cc cx_M_use) 120 = .ok (.aload_n 0, 1) := by decide +kernel
theorem d_M_use_121 : decode (pw_cc cx_M_use) 121 = .ok (.getfield 22, 3) := by decide +kernel
theorem d_M_use_124 : decode (pw_cc cx_M_use) 124 = .ok (.iload 6, 2) := by decide +kernel
theorem d_M_use_126 : decode (pw_cc cx_M_use) 126 = .ok (.iload 7, 2) := by decide +kernel
theorem d_M_use_128 : decode (pw_cc cx_M_use) 128 = .ok (.ifCond .eq 7, 3) := by decide +kernel
theorem d_M_use_131 : decode (pw_cc cx_M_use) 131 = .ok (.iload_n 1, 1) := by decide +kernel
theorem d_M_use_132 : decode (pw_cc cx_M_use) 132 = .ok (.goto 10, 3) := by decide +kernel
theorem d_M_use_135 : decode (pw_cc cx_M_use) 135 = .ok (.aload_n 0, 1) := by decide +kernel
theorem d_M_use_136 : decode (pw_cc cx_M_use) 136 = .ok (.getfield 22, 3) := by decide +kernel
theorem d_M_use_139 : decode (pw_cc cx_M_use) 139 = .ok (.iload 6, 2) := by decide +kernel
theorem d_M_use_141 : decode (pw_cc cx_M_use) 141 = .ok (.iaload, 1) := by decide +kernel
theorem d_M_use_142 : decode (pw_cc cx_M_use) 142 = .ok (.iastore, 1) := by decide +kernel
theorem d_M_use_143 : decode (pw_cc cx_M_use) 143 = .ok (.iload 5, 2) := by decide +kernel
theorem d_M_use_145 : decode (pw_cc cx_M_use) 145 = .ok (.aload_n 0, 1) := by decide +kernel
theorem d_M_use_146 : decode (pw_cc cx_M_use) 146 = .ok (.getfield 22, 3) := by decide +kernel
theorem d_M_use_149 : decode (pw_cc cx_M_use) 149 = .ok (.iload 6, 2) := by decide +kernel
theorem d_M_use_151 : decode (pw_cc cx_M_use) 151 = .ok (.iaload, 1) := by decide +kernel
theorem d_M_use_152 : decode (pw_cc cx_M_use) 152 = .ok (.iload_n 1, 1) := by decide +kernel
theorem d_M_use_153 : decode (pw_cc cx_M_use) 153 = .ok (.if_icmp .ne 7, 3) := by decide +kernel
theorem d_M_use_156 : decode (pw_cc cx_M_use) 156 = .ok (.iconst 1, 1) := by decide +kernel
theorem d_M_use_157 : decode (pw_cc cx_M_use) 157 = .ok (.goto 4, 3) := by decide +kernel
theorem d_M_use_160 : decode (pw_cc cx_M_use) 160 = .ok (.iconst 0, 1) := by decide +kernel
theorem d_M_use_161 : decode (pw_cc cx_M_use) 161 = .ok (.iadd, 1) := by decide +kernel
theorem d_M_use_162 : decode (pw_cc cx_M_use) 162 = .ok (.istore 5, 2) := by decide +kernel
theorem d_M_use_164 : decode (pw_cc cx_M_use) 164 = .ok (.iinc 6 1, 3) := by decide +kernel
theorem d_M_use_167 : decode (pw_cc cx_M_use) 167 = .ok (.goto (-108), 3) := by decide +kernel
theorem d_M_use_170 : decode (pw_cc cx_M_use) 170 = .ok (.iload 5, 2) := by decide +kernel
theorem d_M_use_172 : decode (pw_cc cx_M_use) 172 = .ok (.ireturn, 1) := by decide +kernel
set_option maxHeartbeats 4000000 in
set_option maxRecDepth 20000 in
def jp_M_use_142 (Q : pw_W → Int32 → Prop) (X : pw_W → Nat → Prop) (K59 : Int32 → Int32 → Int32 → Int32 → Int32 → pw_W → Prop) (a1 a2 a3 a5 a6 s0 s1 : Int32) (w : pw_W) : Prop := pw_jn s1 (pw_ln w 210 0) ∧ ∀ w2, w2 = pw_ps w 210 0 (pw_i s1) s0 → w2.1 8 0 10 = 0 ∧ pw_jn a6 (pw_ln w2 210 0) ∧ (¬ (w2.1 210 0 (pw_i a6)) = a1 → ∀ v7, v7 = (a5 + 0) → K59 a1 a2 a3 v7 (a6 + 1) w2) ∧ ((w2.1 210 0 (pw_i a6)) = a1 → ∀ v9, v9 = (a5 + 1) → K59 a1 a2 a3 v9 (a6 + 1) w2)
set_option maxHeartbeats 4000000 in
set_option maxRecDepth 20000 in
theorem vjp_M_use_142 {l : Launch} {g : pw_G} {Q : pw_W → Int32 → Prop} {X : pw_W → Nat → Prop} (hl0 : l.stackTraces = false) {K59 : Int32 → Int32 → Int32 → Int32 → Int32 → pw_W → Prop} (hK59 : ∀ (a1 a2 a3 a5 a6 : Int32) (w : pw_W), K59 a1 a2 a3 a5 a6 w → pw_V l g cx_M_use Q X 59 [(10, 0), (0, a1), (0, a2), (0, a3), (1, 0), (0, a5), (0, a6), (1, 0)] [] w) (a1 a2 a3 a5 a6 s0 s1 : Int32) (w : pw_W) (h : jp_M_use_142 Q X K59 a1 a2 a3 a5 a6 s0 s1 w) : pw_V l g cx_M_use Q X 142 [(10, 0), (0, a1), (0, a2), (0, a3), (1, 0), (0, a5), (0, a6), (1, 0)] [(0, s0), (0, s1), (212, 0)] w := by
  unfold jp_M_use_142 at h
  obtain ⟨g1, h⟩ := h
  refine pv_iast1 (n := 143) (f := 210) (by decide) rfl (fun _ => rfl) d_M_use_142 (by decide) g1 rfl (fun w2 e3 => ?_)
  replace h := h w2 e3
  refine pv_iload (n := 145) d_M_use_143 rfl rfl ?_
  refine pv_aload_n (n := 146) d_M_use_145 rfl rfl rfl ?_
  obtain ⟨g4, h⟩ := h
  refine gt_M_22 (n := 149) rfl d_M_use_146 (by decide) g4 rfl ?_
  refine pv_iload (n := 151) d_M_use_149 rfl rfl ?_
  obtain ⟨g5, h⟩ := h
  refine pv_iald (n := 152) (f := 210) (by decide) rfl d_M_use_151 (by decide) g5 rfl ?_
  refine pv_iload_n (n := 153) d_M_use_152 rfl rfl rfl ?_
  refine pv_icmp_ne (n := 156) (tgt := 160) d_M_use_153 (by decide) rfl (fun c6 => ?_) (fun c6 => ?_)
  · replace h := h.1 c6
    refine pv_iconst (v := 0) (n := 161) d_M_use_160 (by decide) rfl ?_
    refine pv_iadd (n := 162) d_M_use_161 rfl ?_
    refine pv_nm (fun v7 e8 => ?_)
    replace h := h v7 e8
    refine pv_istore (n := 164) (L' := [(10, 0), (0, a1), (0, a2), (0, a3), (1, 0), (0, v7), (0, a6), (1, 0)]) d_M_use_162 (by decide) rfl rfl ?_
    refine pv_iinc (v := (a6 + 1)) (n := 167) (L1 := [(10, 0), (0, a1), (0, a2), (0, a3), (1, 0), (0, v7), (0, (a6 + 1)), (1, 0)]) d_M_use_164 rfl rfl rfl (by decide) rfl ?_
    refine pv_goto (tgt := 59) d_M_use_167 (by decide) ?_
    exact hK59 _ _ _ _ _ _ h
  · replace h := h.2 c6
    refine pv_iconst (v := 1) (n := 157) d_M_use_156 (by decide) rfl ?_
    refine pv_goto (tgt := 161) d_M_use_157 (by decide) ?_
    refine pv_iadd (n := 162) d_M_use_161 rfl ?_
    refine pv_nm (fun v9 e10 => ?_)
    replace h := h v9 e10
    refine pv_istore (n := 164) (L' := [(10, 0), (0, a1), (0, a2), (0, a3), (1, 0), (0, v9), (0, a6), (1, 0)]) d_M_use_162 (by decide) rfl rfl ?_
    refine pv_iinc (v := (a6 + 1)) (n := 167) (L1 := [(10, 0), (0, a1), (0, a2), (0, a3), (1, 0), (0, v9), (0, (a6 + 1)), (1, 0)]) d_M_use_164 rfl rfl rfl (by decide) rfl ?_
    refine pv_goto (tgt := 59) d_M_use_167 (by decide) ?_
    exact hK59 _ _ _ _ _ _ h
set_option maxHeartbeats 4000000 in
set_option maxRecDepth 20000 in
def jp_M_use_119 (Q : pw_W → Int32 → Prop) (X : pw_W → Nat → Prop) (K59 : Int32 → Int32 → Int32 → Int32 → Int32 → pw_W → Prop) (a1 a2 a3 a5 a6 a7 s0 s1 : Int32) (w : pw_W) : Prop := pw_jn s1 (pw_ln w 211 0) ∧ ∀ w12, w12 = pw_ps w 211 0 (pw_i s1) s0 → w12.1 8 0 10 = 0 ∧ (a7 = 0 → w12.1 8 0 10 = 0 ∧ pw_jn a6 (pw_ln w12 210 0) ∧ jp_M_use_142 Q X K59 a1 a2 a3 a5 a6 (w12.1 210 0 (pw_i a6)) a6 w12) ∧ (¬ a7 = 0 → jp_M_use_142 Q X K59 a1 a2 a3 a5 a6 a1 a6 w12)
set_option maxHeartbeats 4000000 in
set_option maxRecDepth 20000 in
theorem vjp_M_use_119 {l : Launch} {g : pw_G} {Q : pw_W → Int32 → Prop} {X : pw_W → Nat → Prop} (hl0 : l.stackTraces = false) {K59 : Int32 → Int32 → Int32 → Int32 → Int32 → pw_W → Prop} (hK59 : ∀ (a1 a2 a3 a5 a6 : Int32) (w : pw_W), K59 a1 a2 a3 a5 a6 w → pw_V l g cx_M_use Q X 59 [(10, 0), (0, a1), (0, a2), (0, a3), (1, 0), (0, a5), (0, a6), (1, 0)] [] w) (a1 a2 a3 a5 a6 a7 s0 s1 : Int32) (w : pw_W) (h : jp_M_use_119 Q X K59 a1 a2 a3 a5 a6 a7 s0 s1 w) : pw_V l g cx_M_use Q X 119 [(10, 0), (0, a1), (0, a2), (0, a3), (1, 0), (0, a5), (0, a6), (0, a7)] [(0, s0), (0, s1), (213, 0)] w := by
  unfold jp_M_use_119 at h
  obtain ⟨g11, h⟩ := h
  refine pv_iast1 (n := 120) (f := 211) (by decide) rfl (fun _ => rfl) d_M_use_119 (by decide) g11 rfl (fun w12 e13 => ?_)
  replace h := h w12 e13
  refine pv_aload_n (n := 121) d_M_use_120 rfl rfl rfl ?_
  obtain ⟨g14, h⟩ := h
  refine gt_M_22 (n := 124) rfl d_M_use_121 (by decide) g14 rfl ?_
  refine pv_iload (n := 126) d_M_use_124 rfl rfl ?_
  refine pv_iload (n := 128) d_M_use_126 rfl rfl ?_
  refine pv_if_eq (n := 131) (tgt := 135) d_M_use_128 (by decide) rfl (fun c15 => ?_) (fun c15 => ?_)
  · replace h := h.1 c15
    refine pv_aload_n (n := 136) d_M_use_135 rfl rfl rfl ?_
    obtain ⟨g16, h⟩ := h
    refine gt_M_22 (n := 139) rfl d_M_use_136 (by decide) g16 rfl ?_
    refine pv_iload (n := 141) d_M_use_139 rfl rfl ?_
    obtain ⟨g17, h⟩ := h
    refine pv_iald (n := 142) (f := 210) (by decide) rfl d_M_use_141 (by decide) g17 rfl ?_
    refine pv_unset (i := 7) (L1 := [(10, 0), (0, a1), (0, a2), (0, a3), (1, 0), (0, a5), (0, a6), (1, 0)]) rfl ?_
    exact vjp_M_use_142 hl0 (by intros; exact hK59 _ _ _ _ _ _ (by assumption)) _ _ _ _ _ _ _ _ h
  · replace h := h.2 c15
    refine pv_iload_n (n := 132) d_M_use_131 rfl rfl rfl ?_
    refine pv_goto (tgt := 142) d_M_use_132 (by decide) ?_
    refine pv_unset (i := 7) (L1 := [(10, 0), (0, a1), (0, a2), (0, a3), (1, 0), (0, a5), (0, a6), (1, 0)]) rfl ?_
    exact vjp_M_use_142 hl0 (by intros; exact hK59 _ _ _ _ _ _ (by assumption)) _ _ _ _ _ _ _ _ h
set_option maxHeartbeats 4000000 in
set_option maxRecDepth 20000 in
def jp_M_use_92 (Q : pw_W → Int32 → Prop) (X : pw_W → Nat → Prop) (K59 : Int32 → Int32 → Int32 → Int32 → Int32 → pw_W → Prop) (a1 a2 a3 a5 a6 s0 : Int32) (w : pw_W) : Prop := w.1 8 0 11 = 0 ∧ (s0 = 0 → w.1 8 0 11 = 0 ∧ pw_jn a6 (pw_ln w 211 0) ∧ jp_M_use_119 Q X K59 a1 a2 a3 a5 a6 s0 (w.1 211 0 (pw_i a6)) a6 w) ∧ (¬ s0 = 0 → jp_M_use_119 Q X K59 a1 a2 a3 a5 a6 s0 (w.1 8 0 1) a6 w)
set_option maxHeartbeats 4000000 in
set_option maxRecDepth 20000 in
theorem vjp_M_use_92 {l : Launch} {g : pw_G} {Q : pw_W → Int32 → Prop} {X : pw_W → Nat → Prop} (hl0 : l.stackTraces = false) {K59 : Int32 → Int32 → Int32 → Int32 → Int32 → pw_W → Prop} (hK59 : ∀ (a1 a2 a3 a5 a6 : Int32) (w : pw_W), K59 a1 a2 a3 a5 a6 w → pw_V l g cx_M_use Q X 59 [(10, 0), (0, a1), (0, a2), (0, a3), (1, 0), (0, a5), (0, a6), (1, 0)] [] w) (a1 a2 a3 a5 a6 s0 : Int32) (w : pw_W) (h : jp_M_use_92 Q X K59 a1 a2 a3 a5 a6 s0 w) : pw_V l g cx_M_use Q X 92 [(10, 0), (0, a1), (0, a2), (0, a3), (1, 0), (0, a5), (0, a6), (1, 0)] [(0, s0)] w := by
  unfold jp_M_use_92 at h
  refine pv_istore (n := 94) (L' := [(10, 0), (0, a1), (0, a2), (0, a3), (1, 0), (0, a5), (0, a6), (0, s0)]) d_M_use_92 (by decide) rfl rfl ?_
  refine pv_aload_n (n := 95) d_M_use_94 rfl rfl rfl ?_
  obtain ⟨g18, h⟩ := h
  refine gt_M_25 (n := 98) rfl d_M_use_95 (by decide) g18 rfl ?_
  refine pv_iload (n := 100) d_M_use_98 rfl rfl ?_
  refine pv_iload (n := 102) d_M_use_100 rfl rfl ?_
  refine pv_if_eq (n := 105) (tgt := 112) d_M_use_102 (by decide) rfl (fun c19 => ?_) (fun c19 => ?_)
  · replace h := h.1 c19
    refine pv_aload_n (n := 113) d_M_use_112 rfl rfl rfl ?_
    obtain ⟨g20, h⟩ := h
    refine gt_M_25 (n := 116) rfl d_M_use_113 (by decide) g20 rfl ?_
    refine pv_iload (n := 118) d_M_use_116 rfl rfl ?_
    obtain ⟨g21, h⟩ := h
    refine pv_iald (n := 119) (f := 211) (by decide) rfl d_M_use_118 (by decide) g21 rfl ?_
    exact vjp_M_use_119 hl0 (by intros; exact hK59 _ _ _ _ _ _ (by assumption)) _ _ _ _ _ _ _ _ _ h
  · replace h := h.2 c19
    refine pv_aload_n (n := 106) d_M_use_105 rfl rfl rfl ?_
    refine gt_M_204 (n := 109) rfl d_M_use_106 (by decide) rfl ?_
    refine pv_goto (tgt := 119) d_M_use_109 (by decide) ?_
    exact vjp_M_use_119 hl0 (by intros; exact hK59 _ _ _ _ _ _ (by assumption)) _ _ _ _ _ _ _ _ _ h
set_option maxHeartbeats 4000000 in
set_option maxRecDepth 20000 in
def jp_M_use_91 (Q : pw_W → Int32 → Prop) (X : pw_W → Nat → Prop) (K59 : Int32 → Int32 → Int32 → Int32 → Int32 → pw_W → Prop) (a1 a2 a3 a5 a6 : Int32) (w : pw_W) : Prop := jp_M_use_92 Q X K59 a1 a2 a3 a5 a6 0 w
set_option maxHeartbeats 4000000 in
set_option maxRecDepth 20000 in
theorem vjp_M_use_91 {l : Launch} {g : pw_G} {Q : pw_W → Int32 → Prop} {X : pw_W → Nat → Prop} (hl0 : l.stackTraces = false) {K59 : Int32 → Int32 → Int32 → Int32 → Int32 → pw_W → Prop} (hK59 : ∀ (a1 a2 a3 a5 a6 : Int32) (w : pw_W), K59 a1 a2 a3 a5 a6 w → pw_V l g cx_M_use Q X 59 [(10, 0), (0, a1), (0, a2), (0, a3), (1, 0), (0, a5), (0, a6), (1, 0)] [] w) (a1 a2 a3 a5 a6 : Int32) (w : pw_W) (h : jp_M_use_91 Q X K59 a1 a2 a3 a5 a6 w) : pw_V l g cx_M_use Q X 91 [(10, 0), (0, a1), (0, a2), (0, a3), (1, 0), (0, a5), (0, a6), (1, 0)] [] w := by
  unfold jp_M_use_91 at h
  refine pv_iconst (v := 0) (n := 92) d_M_use_91 (by decide) rfl ?_
  exact vjp_M_use_92 hl0 (by intros; exact hK59 _ _ _ _ _ _ (by assumption)) _ _ _ _ _ _ _ h
set_option maxHeartbeats 4000000 in
set_option maxRecDepth 20000 in
def lp_M_use_59 (Q : pw_W → Int32 → Prop) (X : pw_W → Nat → Prop) : Nat → Int32 → Int32 → Int32 → Int32 → Int32 → pw_W → Prop := fun k => Nat.rec (motive := fun _ => Int32 → Int32 → Int32 → Int32 → Int32 → pw_W → Prop) (fun _ _ _ _ _ _ => False) (fun _ ih a1 a2 a3 a5 a6 w => ((100 : Int32) ≤ a6 → Q w a5) ∧ (¬ (100 : Int32) ≤ a6 → wp_M_isInField w a6 a2 a3 (fun w23 r24 => (r24 = 0 → jp_M_use_91 Q X ih a1 a2 a3 a5 a6 w23) ∧ (¬ r24 = 0 → w23.1 8 0 10 = 0 ∧ pw_jn a6 (pw_ln w23 210 0) ∧ ((w23.1 210 0 (pw_i a6)) = a1 → jp_M_use_91 Q X ih a1 a2 a3 a5 a6 w23) ∧ (¬ (w23.1 210 0 (pw_i a6)) = a1 → jp_M_use_92 Q X ih a1 a2 a3 a5 a6 1 w23))) (fun _ _ => False))) k
set_option maxHeartbeats 4000000 in
set_option maxRecDepth 20000 in
theorem lp_M_use_59_s {Q : pw_W → Int32 → Prop} {X : pw_W → Nat → Prop}  {k : Nat} {a1 a2 a3 a5 a6 : Int32} {w : pw_W} : lp_M_use_59 Q X (k + 1) a1 a2 a3 a5 a6 w = (let ih := lp_M_use_59 Q X k; ((100 : Int32) ≤ a6 → Q w a5) ∧ (¬ (100 : Int32) ≤ a6 → wp_M_isInField w a6 a2 a3 (fun w23 r24 => (r24 = 0 → jp_M_use_91 Q X ih a1 a2 a3 a5 a6 w23) ∧ (¬ r24 = 0 → w23.1 8 0 10 = 0 ∧ pw_jn a6 (pw_ln w23 210 0) ∧ ((w23.1 210 0 (pw_i a6)) = a1 → jp_M_use_91 Q X ih a1 a2 a3 a5 a6 w23) ∧ (¬ (w23.1 210 0 (pw_i a6)) = a1 → jp_M_use_92 Q X ih a1 a2 a3 a5 a6 1 w23))) (fun _ _ => False))) := rfl
set_option maxHeartbeats 4000000 in
set_option maxRecDepth 20000 in
theorem vlp_M_use_59 {l : Launch} {g : pw_G} {Q : pw_W → Int32 → Prop} {X : pw_W → Nat → Prop} (hl0 : l.stackTraces = false) : ∀ (k : Nat) (a1 a2 a3 a5 a6 : Int32) (w : pw_W), lp_M_use_59 Q X k a1 a2 a3 a5 a6 w → pw_V l g cx_M_use Q X 59 [(10, 0), (0, a1), (0, a2), (0, a3), (1, 0), (0, a5), (0, a6), (1, 0)] [] w := by
  intro k; induction k with
  | zero => intro _ _ _ _ _ _ h; exact h.elim
  | succ k ih =>
    intro a1 a2 a3 a5 a6 w h
    rw [lp_M_use_59_s] at h
    refine pv_iload (n := 61) d_M_use_59 rfl rfl ?_
    refine pv_bipush (v := 100) (n := 63) d_M_use_61 (by decide) rfl ?_
    refine pv_icmp_ge (n := 66) (tgt := 170) d_M_use_63 (by decide) rfl (fun c22 => ?_) (fun c22 => ?_)
    · replace h := h.1 c22
      refine pv_iload (n := 172) d_M_use_170 rfl rfl ?_
      exact pv_iret rfl rfl d_M_use_172 h
    · replace h := h.2 c22
      refine pv_iload (n := 68) d_M_use_66 rfl rfl ?_
      refine pv_iload_n (n := 69) d_M_use_68 rfl rfl rfl ?_
      refine pv_iload_n (n := 70) d_M_use_69 rfl rfl rfl ?_
      refine pv_callS (n := 73) [(0, a6), (0, a2), (0, a3)] [] (con_M_isInField hl0 h) q_479 q_480 q_458 q_478 pyo_M_isInField (by decide) rfl rfl d_M_use_70 rfl (fun w23 r24 h _ => ?_) (fun _ _ h => h.elim)
      show pw_V l g cx_M_use Q X 73 [(10, 0), (0, a1), (0, a2), (0, a3), (1, 0), (0, a5), (0, a6), (1, 0)] [(0, r24)] w23
      refine pv_if_eq (n := 76) (tgt := 91) d_M_use_73 (by decide) rfl (fun c25 => ?_) (fun c25 => ?_)
      · replace h := h.1 c25
        exact vjp_M_use_91 hl0 (by intros; exact ih _ _ _ _ _ _ (by assumption)) _ _ _ _ _ _ h
      · replace h := h.2 c25
        refine pv_aload_n (n := 77) d_M_use_76 rfl rfl rfl ?_
        obtain ⟨g26, h⟩ := h
        refine gt_M_22 (n := 80) rfl d_M_use_77 (by decide) g26 rfl ?_
        refine pv_iload (n := 82) d_M_use_80 rfl rfl ?_
        obtain ⟨g27, h⟩ := h
        refine pv_iald (n := 83) (f := 210) (by decide) rfl d_M_use_82 (by decide) g27 rfl ?_
        refine pv_iload_n (n := 84) d_M_use_83 rfl rfl rfl ?_
        refine pv_icmp_eq (n := 87) (tgt := 91) d_M_use_84 (by decide) rfl (fun c28 => ?_) (fun c28 => ?_)
        · replace h := h.1 c28
          exact vjp_M_use_91 hl0 (by intros; exact ih _ _ _ _ _ _ (by assumption)) _ _ _ _ _ _ h
        · replace h := h.2 c28
          refine pv_iconst (v := 1) (n := 88) d_M_use_87 (by decide) rfl ?_
          refine pv_goto (tgt := 92) d_M_use_88 (by decide) ?_
          exact vjp_M_use_92 hl0 (by intros; exact ih _ _ _ _ _ _ (by assumption)) _ _ _ _ _ _ _ h
set_option maxHeartbeats 4000000 in
set_option maxRecDepth 20000 in
def jp_M_use_45 (Q : pw_W → Int32 → Prop) (X : pw_W → Nat → Prop) (a1 a2 a3 s0 : Int32) (w : pw_W) : Prop := wp_M_isFine w s0 (fun w29 r30 => (¬ r30 = 0 → ∃ k32, lp_M_use_59 Q X k32 a1 a2 a3 0 0 w29) ∧ (r30 = 0 → Q w29 0)) (fun _ _ => False)
set_option maxHeartbeats 4000000 in
set_option maxRecDepth 20000 in
theorem vjp_M_use_45 {l : Launch} {g : pw_G} {Q : pw_W → Int32 → Prop} {X : pw_W → Nat → Prop} (hl0 : l.stackTraces = false) (a1 a2 a3 s0 : Int32) (w : pw_W) (h : jp_M_use_45 Q X a1 a2 a3 s0 w) : pw_V l g cx_M_use Q X 45 [(10, 0), (0, a1), (0, a2), (0, a3), (1, 0), (1, 0), (1, 0), (1, 0)] [(0, s0), (10, 0)] w := by
  unfold jp_M_use_45 at h
  refine pv_callV (n := 48) (x := 0) [(0, s0)] [] (con_M_isFine hl0 h) pw_cf8 rfl q_506 q_507 q_508 q_458 q_505 pyo_M_isFine (by decide) rfl rfl (by decide) d_M_use_45 rfl (fun w29 r30 h _ => ?_) (fun _ _ h => h.elim)
  show pw_V l g cx_M_use Q X 48 [(10, 0), (0, a1), (0, a2), (0, a3), (1, 0), (1, 0), (1, 0), (1, 0)] [(0, r30)] w29
  refine pv_if_ne (n := 51) (tgt := 53) d_M_use_48 (by decide) rfl (fun c31 => ?_) (fun c31 => ?_)
  · replace h := h.1 c31
    refine pv_iconst (v := 0) (n := 54) d_M_use_53 (by decide) rfl ?_
    refine pv_istore (n := 56) (L' := [(10, 0), (0, a1), (0, a2), (0, a3), (1, 0), (0, 0), (1, 0), (1, 0)]) d_M_use_54 (by decide) rfl rfl ?_
    refine pv_iconst (v := 0) (n := 57) d_M_use_56 (by decide) rfl ?_
    refine pv_istore (n := 59) (L' := [(10, 0), (0, a1), (0, a2), (0, a3), (1, 0), (0, 0), (0, 0), (1, 0)]) d_M_use_57 (by decide) rfl rfl ?_
    obtain ⟨k32, h⟩ := h
    exact vlp_M_use_59 hl0 _ _ _ _ _ _ _ h
  · replace h := h.2 c31
    refine pv_iconst (v := 0) (n := 52) d_M_use_51 (by decide) rfl ?_
    exact pv_iret rfl rfl d_M_use_52 h
set_option maxHeartbeats 4000000 in
set_option maxRecDepth 20000 in
def wp_M_use (w : pw_W) (a1 a2 a3 : Int32) (Q : pw_W → Int32 → Prop) (X : pw_W → Nat → Prop) : Prop := wp_M_areSquares w a1 a2 a3 (fun w33 r34 => (¬ r34 = 0 → wp_M_isField w33 a2 a3 (fun w36 r37 => (¬ r37 = 0 → w36.1 8 0 42 = 0 ∧ pw_jn a1 (pw_ln w36 242 0) ∧ ((w36.1 242 0 (pw_i a1)) = 0 → jp_M_use_45 Q X a1 a2 a3 0 w36) ∧ (¬ (w36.1 242 0 (pw_i a1)) = 0 → jp_M_use_45 Q X a1 a2 a3 3 w36)) ∧ (r37 = 0 → jp_M_use_45 Q X a1 a2 a3 2 w36)) (fun _ _ => False)) ∧ (r34 = 0 → jp_M_use_45 Q X a1 a2 a3 1 w33)) (fun _ _ => False)
set_option maxHeartbeats 4000000 in
set_option maxRecDepth 20000 in
theorem vw_M_use {l : Launch} {g : pw_G} {Q : pw_W → Int32 → Prop} {X : pw_W → Nat → Prop} (hl0 : l.stackTraces = false) {w : pw_W} {a1 a2 a3 : Int32} (h : wp_M_use w a1 a2 a3 Q X) : pw_V l g cx_M_use Q X 0 [(10, 0), (0, a1), (0, a2), (0, a3), (1, 0), (1, 0), (1, 0), (1, 0)] [] w := by
  unfold wp_M_use at h
  refine pv_aload_n (n := 1) d_M_use_0 rfl rfl rfl ?_
  refine pv_iload_n (n := 2) d_M_use_1 rfl rfl rfl ?_
  refine pv_iload_n (n := 3) d_M_use_2 rfl rfl rfl ?_
  refine pv_iload_n (n := 4) d_M_use_3 rfl rfl rfl ?_
  refine pv_callV (n := 7) (x := 0) [(0, a1), (0, a2), (0, a3)] [] (con_M_areSquares hl0 h) pw_cf8 rfl q_536 q_537 q_538 q_458 q_535 pyo_M_areSquares (by decide) rfl rfl (by decide) d_M_use_4 rfl (fun w33 r34 h _ => ?_) (fun _ _ h => h.elim)
  show pw_V l g cx_M_use Q X 7 [(10, 0), (0, a1), (0, a2), (0, a3), (1, 0), (1, 0), (1, 0), (1, 0)] [(0, r34)] w33
  refine pv_istore (n := 9) (L' := [(10, 0), (0, a1), (0, a2), (0, a3), (0, r34), (1, 0), (1, 0), (1, 0)]) d_M_use_7 (by decide) rfl rfl ?_
  refine pv_aload_n (n := 10) d_M_use_9 rfl rfl rfl ?_
  refine pv_iload (n := 12) d_M_use_10 rfl rfl ?_
  refine pv_if_ne (n := 15) (tgt := 19) d_M_use_12 (by decide) rfl (fun c35 => ?_) (fun c35 => ?_)
  · replace h := h.1 c35
    refine pv_iload_n (n := 20) d_M_use_19 rfl rfl rfl ?_
    refine pv_iload_n (n := 21) d_M_use_20 rfl rfl rfl ?_
    refine pv_callS (n := 24) [(0, a2), (0, a3)] [(10, 0)] (con_M_isField hl0 h) q_514 q_515 q_458 q_513 pyo_M_isField (by decide) rfl rfl d_M_use_21 rfl (fun w36 r37 h _ => ?_) (fun _ _ h => h.elim)
    show pw_V l g cx_M_use Q X 24 [(10, 0), (0, a1), (0, a2), (0, a3), (0, r34), (1, 0), (1, 0), (1, 0)] [(0, r37), (10, 0)] w36
    refine pv_if_ne (n := 27) (tgt := 31) d_M_use_24 (by decide) rfl (fun c38 => ?_) (fun c38 => ?_)
    · replace h := h.1 c38
      refine pv_aload_n (n := 32) d_M_use_31 rfl rfl rfl ?_
      obtain ⟨g39, h⟩ := h
      refine gt_M_104 (n := 35) rfl d_M_use_32 (by decide) g39 rfl ?_
      refine pv_iload_n (n := 36) d_M_use_35 rfl rfl rfl ?_
      obtain ⟨g40, h⟩ := h
      refine pv_zald (n := 37) (f := 242) (by decide) rfl d_M_use_36 (by decide) g40 rfl ?_
      refine pv_if_eq (n := 40) (tgt := 44) d_M_use_37 (by decide) rfl (fun c41 => ?_) (fun c41 => ?_)
      · replace h := h.1 c41
        refine pv_iconst (v := 0) (n := 45) d_M_use_44 (by decide) rfl ?_
        refine pv_unset (i := 4) (L1 := [(10, 0), (0, a1), (0, a2), (0, a3), (1, 0), (1, 0), (1, 0), (1, 0)]) rfl ?_
        exact vjp_M_use_45 hl0 _ _ _ _ _ h
      · replace h := h.2 c41
        refine pv_iconst (v := 3) (n := 41) d_M_use_40 (by decide) rfl ?_
        refine pv_goto (tgt := 45) d_M_use_41 (by decide) ?_
        refine pv_unset (i := 4) (L1 := [(10, 0), (0, a1), (0, a2), (0, a3), (1, 0), (1, 0), (1, 0), (1, 0)]) rfl ?_
        exact vjp_M_use_45 hl0 _ _ _ _ _ h
    · replace h := h.2 c38
      refine pv_iconst (v := 2) (n := 28) d_M_use_27 (by decide) rfl ?_
      refine pv_goto (tgt := 45) d_M_use_28 (by decide) ?_
      refine pv_unset (i := 4) (L1 := [(10, 0), (0, a1), (0, a2), (0, a3), (1, 0), (1, 0), (1, 0), (1, 0)]) rfl ?_
      exact vjp_M_use_45 hl0 _ _ _ _ _ h
  · replace h := h.2 c35
    refine pv_iconst (v := 1) (n := 16) d_M_use_15 (by decide) rfl ?_
    refine pv_goto (tgt := 45) d_M_use_16 (by decide) ?_
    refine pv_unset (i := 4) (L1 := [(10, 0), (0, a1), (0, a2), (0, a3), (1, 0), (1, 0), (1, 0), (1, 0)]) rfl ?_
    exact vjp_M_use_45 hl0 _ _ _ _ _ h
set_option maxHeartbeats 4000000 in
set_option maxRecDepth 20000 in
theorem con_M_use {l : Launch} {g : pw_G} {Q : pw_W → Int32 → Prop} {X : pw_W → Nat → Prop} (hl0 : l.stackTraces = false) {w : pw_W} {a1 a2 a3 : Int32} (h : wp_M_use w a1 a2 a3 Q X) : pw_Con l g y_M_use cx_M_use [(10, 0), (0, a1), (0, a2), (0, a3)] w Q X :=
  pw_con (by decide +kernel) rfl rfl hl0 rfl (Nat.le_of_ble_eq_true rfl) (by simp) (vw_M_use hl0 h)
theorem d_M_isMapped_0 : decode (pw_cc cx_M_isMapped) 0 = .ok (.iconst 0, 1) := by decide +kernel
theorem d_M_isMapped_1 : decode (pw_cc cx_M_isMapped) 1 = .ok (.istore_n 3, 1) := by decide +kernel
theorem d_M_isMapped_2 : decode (pw_cc cx_M_isMapped) 2 = .ok (.iconst 0, 1) := by decide +kernel
theorem d_M_isMapped_3 : decode (pw_cc cx_M_isMapped) 3 = .ok (.istore 4, 2) := by decide +kernel
theorem d_M_isMapped_5 : decode (pw_cc cx_M_isMapped) 5 = .ok (.iload 4, 2) := by decide +kernel
theorem d_M_isMapped_7 : decode (pw_cc cx_M_isMapped) 7 = .ok (.aload_n 0, 1) := by decide +kernel
theorem d_M_isMapped_8 : decode (pw_cc cx_M_isMapped) 8 = .ok (.getfield 201, 3) := by decide +kernel
theorem d_M_isMapped_11 : decode (pw_cc cx_M_isMapped) 11 = .ok (.if_icmp .ge 51, 3) := by decide +kernel
theorem d_M_isMapped_14 : decode (pw_cc cx_M_isMapped) 14 = .ok (.iload_n 3, 1) := by decide +kernel
theorem d_M_isMapped_15 : decode (pw_cc cx_M_isMapped) 15 = .ok (.ifCond .ne 35, 3) := by decide +kernel
theorem d_M_isMapped_18 : decode (pw_cc cx_M_isMapped) 18 = .ok (.aload_n 0, 1) := by decide +kernel
theorem d_M_isMapped_19 : decode (pw_cc cx_M_isMapped) 19 = .ok (.getfield 68, 3) := by decide +kernel
theorem d_M_isMapped_22 : decode (pw_cc cx_M_isMapped) 22 = .ok (.iload 4, 2) := by decide +kernel
theorem d_M_isMapped_24 : decode (pw_cc cx_M_isMapped) 24 = .ok (.iaload, 1) := by decide +kernel
theorem d_M_isMapped_25 : decode (pw_cc cx_M_isMapped) 25 = .ok (.iload_n 1, 1) := by decide +kernel
theorem d_M_isMapped_26 : decode (pw_cc cx_M_isMapped) 26 = .ok (.if_icmp .ne 28, 3) := by decide +kernel
theorem d_M_isMapped_29 : decode (pw_cc cx_M_isMapped) 29 = .ok (.iload_n 2, 1) := by decide +kernel
theorem d_M_isMapped_30 : decode (pw_cc cx_M_isMapped) 30 = .ok (.aload_n 0, 1) := by decide +kernel
theorem d_M_isMapped_31 : decode (pw_cc cx_M_isMapped) 31 = .ok (.getfield 71, 3) := by decide +kernel
theorem d_M_isMapped_34 : decode (pw_cc cx_M_isMapped) 34 = .ok (.iload 4, 2) := by decide +kernel
theorem d_M_isMapped_36 : decode (pw_cc cx_M_isMapped) 36 = .ok (.iaload, 1) := by decide +kernel
theorem d_M_isMapped_37 : decode (pw_cc cx_M_isMapped) 37 = .ok (.aload_n 0, 1) := by decide +kernel
theorem d_M_isMapped_38 : decode (pw_cc cx_M_isMapped) 38 = .ok (.getfield 74, 3) := by decide +kernel
theorem d_M_isMapped_41 : decode (pw_cc cx_M_isMapped) 41 = .ok (.iload 4, 2) := by decide +kernel
theorem d_M_isMapped_43 : decode (pw_cc cx_M_isMapped) 43 = .ok (.iaload, 1) := by decide +kernel
theorem d_M_isMapped_44 : decode (pw_cc cx_M_isMapped) 44 = .ok (.invokestatic 149, 3) := by decide +kernel
theorem d_M_isMapped_47 : decode (pw_cc cx_M_isMapped) 47 = .ok (.ifCond .eq 7, 3) := by decide +kernel
theorem d_M_isMapped_50 : decode (pw_cc cx_M_isMapped) 50 = .ok (.iconst 1, 1) := by decide +kernel
theorem d_M_isMapped_51 : decode (pw_cc cx_M_isMapped) 51 = .ok (.goto 4, 3) := by decide +kernel
theorem d_M_isMapped_54 : decode (pw_cc cx_M_isMapped) 54 = .ok (.iconst 0, 1) := by decide +kernel
theorem d_M_isMapped_55 : decode (pw_cc cx_M_isMapped) 55 = .ok (.istore_n 3, 1) := by decide +kernel
theorem d_M_isMapped_56 : decode (pw_cc cx_M_isMapped) 56 = .ok (.iinc 4 1, 3) := by decide +kernel
theorem d_M_isMapped_59 : decode (pw_cc cx_M_isMapped) 59 = .ok (.goto (-54), 3) := by decide +kernel
theorem d_M_isMapped_62 : decode (pw_cc cx_M_isMapped) 62 = .ok (.iload_n 3, 1) := by decide +kernel
theorem d_M_isMapped_63 : decode (pw_cc cx_M_isMapped) 63 = .ok (.ireturn, 1) := by decide +kernel
set_option maxHeartbeats 4000000 in
set_option maxRecDepth 20000 in
def lp_M_isMapped_5 (Q : pw_W → Int32 → Prop) (X : pw_W → Nat → Prop) : Nat → Int32 → Int32 → Int32 → Int32 → pw_W → Prop := fun k => Nat.rec (motive := fun _ => Int32 → Int32 → Int32 → Int32 → pw_W → Prop) (fun _ _ _ _ _ => False) (fun _ ih a1 a2 a3 a4 w => ((w.1 8 0 30) ≤ a4 → (a3 = 0 ∨ a3 = 1) ∧ Q w a3) ∧ (¬ (w.1 8 0 30) ≤ a4 → (¬ a3 = 0 → ih a1 a2 1 (a4 + 1) w) ∧ (a3 = 0 → w.1 8 0 27 = 0 ∧ pw_jn a4 (pw_ln w 227 0) ∧ (¬ (w.1 227 0 (pw_i a4)) = a1 → ih a1 a2 0 (a4 + 1) w) ∧ ((w.1 227 0 (pw_i a4)) = a1 → w.1 8 0 28 = 0 ∧ pw_jn a4 (pw_ln w 228 0) ∧ w.1 8 0 29 = 0 ∧ pw_jn a4 (pw_ln w 229 0) ∧ wp_M_isInField w a2 (w.1 228 0 (pw_i a4)) (w.1 229 0 (pw_i a4)) (fun w11 r12 => (r12 = 0 → ih a1 a2 0 (a4 + 1) w11) ∧ (¬ r12 = 0 → ih a1 a2 1 (a4 + 1) w11)) (fun _ _ => False))))) k
set_option maxHeartbeats 4000000 in
set_option maxRecDepth 20000 in
theorem lp_M_isMapped_5_s {Q : pw_W → Int32 → Prop} {X : pw_W → Nat → Prop}  {k : Nat} {a1 a2 a3 a4 : Int32} {w : pw_W} : lp_M_isMapped_5 Q X (k + 1) a1 a2 a3 a4 w = (let ih := lp_M_isMapped_5 Q X k; ((w.1 8 0 30) ≤ a4 → (a3 = 0 ∨ a3 = 1) ∧ Q w a3) ∧ (¬ (w.1 8 0 30) ≤ a4 → (¬ a3 = 0 → ih a1 a2 1 (a4 + 1) w) ∧ (a3 = 0 → w.1 8 0 27 = 0 ∧ pw_jn a4 (pw_ln w 227 0) ∧ (¬ (w.1 227 0 (pw_i a4)) = a1 → ih a1 a2 0 (a4 + 1) w) ∧ ((w.1 227 0 (pw_i a4)) = a1 → w.1 8 0 28 = 0 ∧ pw_jn a4 (pw_ln w 228 0) ∧ w.1 8 0 29 = 0 ∧ pw_jn a4 (pw_ln w 229 0) ∧ wp_M_isInField w a2 (w.1 228 0 (pw_i a4)) (w.1 229 0 (pw_i a4)) (fun w11 r12 => (r12 = 0 → ih a1 a2 0 (a4 + 1) w11) ∧ (¬ r12 = 0 → ih a1 a2 1 (a4 + 1) w11)) (fun _ _ => False))))) := rfl
set_option maxHeartbeats 4000000 in
set_option maxRecDepth 20000 in
theorem vlp_M_isMapped_5 {l : Launch} {g : pw_G} {Q : pw_W → Int32 → Prop} {X : pw_W → Nat → Prop} (hl0 : l.stackTraces = false) : ∀ (k : Nat) (a1 a2 a3 a4 : Int32) (w : pw_W), lp_M_isMapped_5 Q X k a1 a2 a3 a4 w → pw_V l g cx_M_isMapped Q X 5 [(10, 0), (0, a1), (0, a2), (0, a3), (0, a4)] [] w := by
  intro k; induction k with
  | zero => intro _ _ _ _ _ h; exact h.elim
  | succ k ih =>
    intro a1 a2 a3 a4 w h
    rw [lp_M_isMapped_5_s] at h
    refine pv_iload (n := 7) d_M_isMapped_5 rfl rfl ?_
    refine pv_aload_n (n := 8) d_M_isMapped_7 rfl rfl rfl ?_
    refine gt_M_201 (n := 11) rfl d_M_isMapped_8 (by decide) rfl ?_
    refine pv_icmp_ge (n := 14) (tgt := 62) d_M_isMapped_11 (by decide) rfl (fun c1 => ?_) (fun c1 => ?_)
    · replace h := h.1 c1
      refine pv_iload_n (n := 63) d_M_isMapped_62 rfl rfl rfl ?_
      obtain ⟨g2, h⟩ := h
      exact pv_zret rfl rfl d_M_isMapped_63 g2 h
    · replace h := h.2 c1
      refine pv_iload_n (n := 15) d_M_isMapped_14 rfl rfl rfl ?_
      refine pv_if_ne (n := 18) (tgt := 50) d_M_isMapped_15 (by decide) rfl (fun c3 => ?_) (fun c3 => ?_)
      · replace h := h.1 c3
        refine pv_iconst (v := 1) (n := 51) d_M_isMapped_50 (by decide) rfl ?_
        refine pv_goto (tgt := 55) d_M_isMapped_51 (by decide) ?_
        refine pv_istore_n (n := 56) (L' := [(10, 0), (0, a1), (0, a2), (0, 1), (0, a4)]) d_M_isMapped_55 rfl (by decide) rfl rfl ?_
        refine pv_iinc (v := (a4 + 1)) (n := 59) (L1 := [(10, 0), (0, a1), (0, a2), (0, 1), (0, (a4 + 1))]) d_M_isMapped_56 rfl rfl rfl (by decide) rfl ?_
        refine pv_goto (tgt := 5) d_M_isMapped_59 (by decide) ?_
        exact ih _ _ _ _ _ h
      · replace h := h.2 c3
        refine pv_aload_n (n := 19) d_M_isMapped_18 rfl rfl rfl ?_
        obtain ⟨g4, h⟩ := h
        refine gt_M_68 (n := 22) rfl d_M_isMapped_19 (by decide) g4 rfl ?_
        refine pv_iload (n := 24) d_M_isMapped_22 rfl rfl ?_
        obtain ⟨g5, h⟩ := h
        refine pv_iald (n := 25) (f := 227) (by decide) rfl d_M_isMapped_24 (by decide) g5 rfl ?_
        refine pv_iload_n (n := 26) d_M_isMapped_25 rfl rfl rfl ?_
        refine pv_icmp_ne (n := 29) (tgt := 54) d_M_isMapped_26 (by decide) rfl (fun c6 => ?_) (fun c6 => ?_)
        · replace h := h.1 c6
          refine pv_iconst (v := 0) (n := 55) d_M_isMapped_54 (by decide) rfl ?_
          refine pv_istore_n (n := 56) (L' := [(10, 0), (0, a1), (0, a2), (0, 0), (0, a4)]) d_M_isMapped_55 rfl (by decide) rfl rfl ?_
          refine pv_iinc (v := (a4 + 1)) (n := 59) (L1 := [(10, 0), (0, a1), (0, a2), (0, 0), (0, (a4 + 1))]) d_M_isMapped_56 rfl rfl rfl (by decide) rfl ?_
          refine pv_goto (tgt := 5) d_M_isMapped_59 (by decide) ?_
          exact ih _ _ _ _ _ h
        · replace h := h.2 c6
          refine pv_iload_n (n := 30) d_M_isMapped_29 rfl rfl rfl ?_
          refine pv_aload_n (n := 31) d_M_isMapped_30 rfl rfl rfl ?_
          obtain ⟨g7, h⟩ := h
          refine gt_M_71 (n := 34) rfl d_M_isMapped_31 (by decide) g7 rfl ?_
          refine pv_iload (n := 36) d_M_isMapped_34 rfl rfl ?_
          obtain ⟨g8, h⟩ := h
          refine pv_iald (n := 37) (f := 228) (by decide) rfl d_M_isMapped_36 (by decide) g8 rfl ?_
          refine pv_aload_n (n := 38) d_M_isMapped_37 rfl rfl rfl ?_
          obtain ⟨g9, h⟩ := h
          refine gt_M_74 (n := 41) rfl d_M_isMapped_38 (by decide) g9 rfl ?_
          refine pv_iload (n := 43) d_M_isMapped_41 rfl rfl ?_
          obtain ⟨g10, h⟩ := h
          refine pv_iald (n := 44) (f := 229) (by decide) rfl d_M_isMapped_43 (by decide) g10 rfl ?_
          refine pv_callS (n := 47) [(0, a2), (0, (w.1 228 0 (pw_i a4))), (0, (w.1 229 0 (pw_i a4)))] [] (con_M_isInField hl0 h) q_479 q_480 q_458 q_478 pyo_M_isInField (by decide) rfl rfl d_M_isMapped_44 rfl (fun w11 r12 h _ => ?_) (fun _ _ h => h.elim)
          show pw_V l g cx_M_isMapped Q X 47 [(10, 0), (0, a1), (0, a2), (0, a3), (0, a4)] [(0, r12)] w11
          refine pv_if_eq (n := 50) (tgt := 54) d_M_isMapped_47 (by decide) rfl (fun c13 => ?_) (fun c13 => ?_)
          · replace h := h.1 c13
            refine pv_iconst (v := 0) (n := 55) d_M_isMapped_54 (by decide) rfl ?_
            refine pv_istore_n (n := 56) (L' := [(10, 0), (0, a1), (0, a2), (0, 0), (0, a4)]) d_M_isMapped_55 rfl (by decide) rfl rfl ?_
            refine pv_iinc (v := (a4 + 1)) (n := 59) (L1 := [(10, 0), (0, a1), (0, a2), (0, 0), (0, (a4 + 1))]) d_M_isMapped_56 rfl rfl rfl (by decide) rfl ?_
            refine pv_goto (tgt := 5) d_M_isMapped_59 (by decide) ?_
            exact ih _ _ _ _ _ h
          · replace h := h.2 c13
            refine pv_iconst (v := 1) (n := 51) d_M_isMapped_50 (by decide) rfl ?_
            refine pv_goto (tgt := 55) d_M_isMapped_51 (by decide) ?_
            refine pv_istore_n (n := 56) (L' := [(10, 0), (0, a1), (0, a2), (0, 1), (0, a4)]) d_M_isMapped_55 rfl (by decide) rfl rfl ?_
            refine pv_iinc (v := (a4 + 1)) (n := 59) (L1 := [(10, 0), (0, a1), (0, a2), (0, 1), (0, (a4 + 1))]) d_M_isMapped_56 rfl rfl rfl (by decide) rfl ?_
            refine pv_goto (tgt := 5) d_M_isMapped_59 (by decide) ?_
            exact ih _ _ _ _ _ h
set_option maxHeartbeats 4000000 in
set_option maxRecDepth 20000 in
def wp_M_isMapped (w : pw_W) (a1 a2 : Int32) (Q : pw_W → Int32 → Prop) (X : pw_W → Nat → Prop) : Prop := ∃ k14, lp_M_isMapped_5 Q X k14 a1 a2 0 0 w
set_option maxHeartbeats 4000000 in
set_option maxRecDepth 20000 in
theorem vw_M_isMapped {l : Launch} {g : pw_G} {Q : pw_W → Int32 → Prop} {X : pw_W → Nat → Prop} (hl0 : l.stackTraces = false) {w : pw_W} {a1 a2 : Int32} (h : wp_M_isMapped w a1 a2 Q X) : pw_V l g cx_M_isMapped Q X 0 [(10, 0), (0, a1), (0, a2), (1, 0), (1, 0)] [] w := by
  unfold wp_M_isMapped at h
  refine pv_iconst (v := 0) (n := 1) d_M_isMapped_0 (by decide) rfl ?_
  refine pv_istore_n (n := 2) (L' := [(10, 0), (0, a1), (0, a2), (0, 0), (1, 0)]) d_M_isMapped_1 rfl (by decide) rfl rfl ?_
  refine pv_iconst (v := 0) (n := 3) d_M_isMapped_2 (by decide) rfl ?_
  refine pv_istore (n := 5) (L' := [(10, 0), (0, a1), (0, a2), (0, 0), (0, 0)]) d_M_isMapped_3 (by decide) rfl rfl ?_
  obtain ⟨k14, h⟩ := h
  exact vlp_M_isMapped_5 hl0 _ _ _ _ _ _ h
set_option maxHeartbeats 4000000 in
set_option maxRecDepth 20000 in
theorem con_M_isMapped {l : Launch} {g : pw_G} {Q : pw_W → Int32 → Prop} {X : pw_W → Nat → Prop} (hl0 : l.stackTraces = false) {w : pw_W} {a1 a2 : Int32} (h : wp_M_isMapped w a1 a2 Q X) : pw_Con l g y_M_isMapped cx_M_isMapped [(10, 0), (0, a1), (0, a2)] w Q X :=
  pw_con (by decide +kernel) rfl rfl hl0 rfl (Nat.le_of_ble_eq_true rfl) (by simp) (vw_M_isMapped hl0 h)
theorem d_M_isClaimed_0 : decode (pw_cc cx_M_isClaimed) 0 = .ok (.iload_n 2, 1) := by decide +kernel
theorem d_M_isClaimed_1 : decode (pw_cc cx_M_isClaimed) 1 = .ok (.ifCond .eq 38, 3) := by decide +kernel
theorem d_M_isClaimed_4 : decode (pw_cc cx_M_isClaimed) 4 = .ok (.aload_n 0, 1) := by decide +kernel
theorem d_M_isClaimed_5 : decode (pw_cc cx_M_isClaimed) 5 = .ok (.getfield 22, 3) := by decide +kernel
theorem d_M_isClaimed_8 : decode (pw_cc cx_M_isClaimed) 8 = .ok (.iload_n 3, 1) := by decide +kernel
theorem d_M_isClaimed_9 : decode (pw_cc cx_M_isClaimed) 9 = .ok (.iaload, 1) := by decide +kernel
theorem d_M_isClaimed_10 : decode (pw_cc cx_M_isClaimed) 10 = .ok (.iload_n 1, 1) := by decide +kernel
theorem d_M_isClaimed_11 : decode (pw_cc cx_M_isClaimed) 11 = .ok (.if_icmp .ne 24, 3) := by decide +kernel
theorem d_M_isClaimed_14 : decode (pw_cc cx_M_isClaimed) 14 = .ok (.aload_n 0, 1) := by decide +kernel
theorem d_M_isClaimed_15 : decode (pw_cc cx_M_isClaimed) 15 = .ok (.getfield 204, 3) := by decide +kernel
theorem d_M_isClaimed_18 : decode (pw_cc cx_M_isClaimed) 18 = .ok (.aload_n 0, 1) := by decide +kernel
theorem d_M_isClaimed_19 : decode (pw_cc cx_M_isClaimed) 19 = .ok (.getfield 25, 3) := by decide +kernel
theorem d_M_isClaimed_22 : decode (pw_cc cx_M_isClaimed) 22 = .ok (.iload_n 3, 1) := by decide +kernel
theorem d_M_isClaimed_23 : decode (pw_cc cx_M_isClaimed) 23 = .ok (.iaload, 1) := by decide +kernel
theorem d_M_isClaimed_24 : decode (pw_cc cx_M_isClaimed) 24 = .ok (.isub, 1) := by decide +kernel
theorem d_M_isClaimed_25 : decode (pw_cc cx_M_isClaimed) 25 = .ok (.sipush 720, 3) := by decide +kernel
theorem d_M_isClaimed_28 : decode (pw_cc cx_M_isClaimed) 28 = .ok (.if_icmp .lt 7, 3) := by decide +kernel
theorem d_M_isClaimed_31 : decode (pw_cc cx_M_isClaimed) 31 = .ok (.iconst 1, 1) := by decide +kernel
theorem d_M_isClaimed_32 : decode (pw_cc cx_M_isClaimed) 32 = .ok (.goto 13, 3) := by decide +kernel
theorem d_M_isClaimed_35 : decode (pw_cc cx_M_isClaimed) 35 = .ok (.iconst 0, 1) := by decide +kernel
theorem d_M_isClaimed_36 : decode (pw_cc cx_M_isClaimed) 36 = .ok (.goto 9, 3) := by decide +kernel
theorem d_M_isClaimed_39 : decode (pw_cc cx_M_isClaimed) 39 = .ok (.aload_n 0, 1) := by decide +kernel
theorem d_M_isClaimed_40 : decode (pw_cc cx_M_isClaimed) 40 = .ok (.iload_n 1, 1) := by decide +kernel
theorem d_M_isClaimed_41 : decode (pw_cc cx_M_isClaimed) 41 = .ok (.iload_n 3, 1) := by decide +kernel
theorem d_M_isClaimed_42 : decode (pw_cc cx_M_isClaimed) 42 = .ok (.invokevirtual 207, 3) := by decide +kernel
theorem d_M_isClaimed_45 : decode (pw_cc cx_M_isClaimed) 45 = .ok (.ireturn, 1) := by decide +kernel
set_option maxHeartbeats 4000000 in
set_option maxRecDepth 20000 in
def wp_M_isClaimed (w : pw_W) (a1 a2 a3 : Int32) (Q : pw_W → Int32 → Prop) (X : pw_W → Nat → Prop) : Prop := (a2 = 0 → wp_M_isMapped w a1 a3 (fun w2 r3 => (r3 = 0 ∨ r3 = 1) ∧ Q w2 r3) (fun _ _ => False)) ∧ (¬ a2 = 0 → w.1 8 0 10 = 0 ∧ pw_jn a3 (pw_ln w 210 0) ∧ (¬ (w.1 210 0 (pw_i a3)) = a1 → Q w 0) ∧ ((w.1 210 0 (pw_i a3)) = a1 → w.1 8 0 11 = 0 ∧ pw_jn a3 (pw_ln w 211 0) ∧ (((w.1 8 0 1) - (w.1 211 0 (pw_i a3))) < 720 → Q w 0) ∧ (¬ ((w.1 8 0 1) - (w.1 211 0 (pw_i a3))) < 720 → Q w 1)))
set_option maxHeartbeats 4000000 in
set_option maxRecDepth 20000 in
theorem vw_M_isClaimed {l : Launch} {g : pw_G} {Q : pw_W → Int32 → Prop} {X : pw_W → Nat → Prop} (hl0 : l.stackTraces = false) {w : pw_W} {a1 a2 a3 : Int32} (h : wp_M_isClaimed w a1 a2 a3 Q X) : pw_V l g cx_M_isClaimed Q X 0 [(10, 0), (0, a1), (0, a2), (0, a3)] [] w := by
  unfold wp_M_isClaimed at h
  refine pv_iload_n (n := 1) d_M_isClaimed_0 rfl rfl rfl ?_
  refine pv_if_eq (n := 4) (tgt := 39) d_M_isClaimed_1 (by decide) rfl (fun c1 => ?_) (fun c1 => ?_)
  · replace h := h.1 c1
    refine pv_aload_n (n := 40) d_M_isClaimed_39 rfl rfl rfl ?_
    refine pv_iload_n (n := 41) d_M_isClaimed_40 rfl rfl rfl ?_
    refine pv_iload_n (n := 42) d_M_isClaimed_41 rfl rfl rfl ?_
    refine pv_callV (n := 45) (x := 0) [(0, a1), (0, a3)] [] (con_M_isMapped hl0 h) pw_cf8 rfl q_541 q_542 q_543 q_458 q_540 pyo_M_isMapped (by decide) rfl rfl (by decide) d_M_isClaimed_42 rfl (fun w2 r3 h _ => ?_) (fun _ _ h => h.elim)
    show pw_V l g cx_M_isClaimed Q X 45 [(10, 0), (0, a1), (0, a2), (0, a3)] [(0, r3)] w2
    obtain ⟨g4, h⟩ := h
    exact pv_zret rfl rfl d_M_isClaimed_45 g4 h
  · replace h := h.2 c1
    refine pv_aload_n (n := 5) d_M_isClaimed_4 rfl rfl rfl ?_
    obtain ⟨g5, h⟩ := h
    refine gt_M_22 (n := 8) rfl d_M_isClaimed_5 (by decide) g5 rfl ?_
    refine pv_iload_n (n := 9) d_M_isClaimed_8 rfl rfl rfl ?_
    obtain ⟨g6, h⟩ := h
    refine pv_iald (n := 10) (f := 210) (by decide) rfl d_M_isClaimed_9 (by decide) g6 rfl ?_
    refine pv_iload_n (n := 11) d_M_isClaimed_10 rfl rfl rfl ?_
    refine pv_icmp_ne (n := 14) (tgt := 35) d_M_isClaimed_11 (by decide) rfl (fun c7 => ?_) (fun c7 => ?_)
    · replace h := h.1 c7
      refine pv_iconst (v := 0) (n := 36) d_M_isClaimed_35 (by decide) rfl ?_
      refine pv_goto (tgt := 45) d_M_isClaimed_36 (by decide) ?_
      exact pv_zret rfl rfl d_M_isClaimed_45 (by decide) h
    · replace h := h.2 c7
      refine pv_aload_n (n := 15) d_M_isClaimed_14 rfl rfl rfl ?_
      refine gt_M_204 (n := 18) rfl d_M_isClaimed_15 (by decide) rfl ?_
      refine pv_aload_n (n := 19) d_M_isClaimed_18 rfl rfl rfl ?_
      obtain ⟨g8, h⟩ := h
      refine gt_M_25 (n := 22) rfl d_M_isClaimed_19 (by decide) g8 rfl ?_
      refine pv_iload_n (n := 23) d_M_isClaimed_22 rfl rfl rfl ?_
      obtain ⟨g9, h⟩ := h
      refine pv_iald (n := 24) (f := 211) (by decide) rfl d_M_isClaimed_23 (by decide) g9 rfl ?_
      refine pv_isub (n := 25) d_M_isClaimed_24 rfl ?_
      refine pv_sipush (v := 720) (n := 28) d_M_isClaimed_25 (by decide) rfl ?_
      refine pv_icmp_lt (n := 31) (tgt := 35) d_M_isClaimed_28 (by decide) rfl (fun c10 => ?_) (fun c10 => ?_)
      · replace h := h.1 c10
        refine pv_iconst (v := 0) (n := 36) d_M_isClaimed_35 (by decide) rfl ?_
        refine pv_goto (tgt := 45) d_M_isClaimed_36 (by decide) ?_
        exact pv_zret rfl rfl d_M_isClaimed_45 (by decide) h
      · replace h := h.2 c10
        refine pv_iconst (v := 1) (n := 32) d_M_isClaimed_31 (by decide) rfl ?_
        refine pv_goto (tgt := 45) d_M_isClaimed_32 (by decide) ?_
        exact pv_zret rfl rfl d_M_isClaimed_45 (by decide) h
set_option maxHeartbeats 4000000 in
set_option maxRecDepth 20000 in
theorem con_M_isClaimed {l : Launch} {g : pw_G} {Q : pw_W → Int32 → Prop} {X : pw_W → Nat → Prop} (hl0 : l.stackTraces = false) {w : pw_W} {a1 a2 a3 : Int32} (h : wp_M_isClaimed w a1 a2 a3 Q X) : pw_Con l g y_M_isClaimed cx_M_isClaimed [(10, 0), (0, a1), (0, a2), (0, a3)] w Q X :=
  pw_con (by decide +kernel) rfl rfl hl0 rfl (Nat.le_of_ble_eq_true rfl) (by simp) (vw_M_isClaimed hl0 h)
theorem d_M_claimed_0 : decode (pw_cc cx_M_claimed) 0 = .ok (.iconst 0, 1) := by decide +kernel
theorem d_M_claimed_1 : decode (pw_cc cx_M_claimed) 1 = .ok (.istore 5, 2) := by decide +kernel
theorem d_M_claimed_3 : decode (pw_cc cx_M_claimed) 3 = .ok (.iconst 0, 1) := by decide +kernel
theorem d_M_claimed_4 : decode (pw_cc cx_M_claimed) 4 = .ok (.istore 6, 2) := by decide +kernel
theorem d_M_claimed_6 : decode (pw_cc cx_M_claimed) 6 = .ok (.iload 6, 2) := by decide +kernel
theorem d_M_claimed_8 : decode (pw_cc cx_M_claimed) 8 = .ok (.bipush 100, 2) := by decide +kernel
theorem d_M_claimed_10 : decode (pw_cc cx_M_claimed) 10 = .ok (.if_icmp .ge 41, 3) := by decide +kernel
theorem d_M_claimed_13 : decode (pw_cc cx_M_claimed) 13 = .ok (.iload 5, 2) := by decide +kernel
theorem d_M_claimed_15 : decode (pw_cc cx_M_claimed) 15 = .ok (.iload 6, 2) := by decide +kernel
theorem d_M_claimed_17 : decode (pw_cc cx_M_claimed) 17 = .ok (.iload_n 3, 1) := by decide +kernel
theorem d_M_claimed_18 : decode (pw_cc cx_M_claimed) 18 = .ok (.iload 4, 2) := by decide +kernel
theorem d_M_claimed_20 : decode (pw_cc cx_M_claimed) 20 = .ok (.invokestatic 149, 3) := by decide +kernel
theorem d_M_claimed_23 : decode (pw_cc cx_M_claimed) 23 = .ok (.ifCond .eq 18, 3) := by decide +kernel
theorem d_M_claimed_26 : decode (pw_cc cx_M_claimed) 26 = .ok (.aload_n 0, 1) := by decide +kernel
theorem d_M_claimed_27 : decode (pw_cc cx_M_claimed) 27 = .ok (.iload_n 1, 1) := by decide +kernel
theorem d_M_claimed_28 : decode (pw_cc cx_M_claimed) 28 = .ok (.iload_n 2, 1) := by decide +kernel
theorem d_M_claimed_29 : decode (pw_cc cx_M_claimed) 29 = .ok (.iload 6, 2) := by decide +kernel
theorem d_M_claimed_31 : decode (pw_cc cx_M_claimed) 31 = .ok (.invokevirtual 210, 3) := by decide +kernel
theorem d_M_claimed_34 : decode (pw_cc cx_M_claimed) 34 = .ok (.ifCond .eq 7, 3) := by decide +kernel
theorem d_M_claimed_37 : decode (pw_cc cx_M_claimed) 37 = .ok (.iconst 1, 1) := by decide +kernel
theorem d_M_claimed_38 : decode (pw_cc cx_M_claimed) 38 = .ok (.goto 4, 3) := by decide +kernel
theorem d_M_claimed_41 : decode (pw_cc cx_M_claimed) 41 = .ok (.iconst 0, 1) := by decide +kernel
theorem d_M_claimed_42 : decode (pw_cc cx_M_claimed) 42 = .ok (.iadd, 1) := by decide +kernel
theorem d_M_claimed_43 : decode (pw_cc cx_M_claimed) 43 = .ok (.istore 5, 2) := by decide +kernel
theorem d_M_claimed_45 : decode (pw_cc cx_M_claimed) 45 = .ok (.iinc 6 1, 3) := by decide +kernel
theorem d_M_claimed_48 : decode (pw_cc cx_M_claimed) 48 = .ok (.goto (-42), 3) := by decide +kernel
theorem d_M_claimed_51 : decode (pw_cc cx_M_claimed) 51 = .ok (.iload 5, 2) := by decide +kernel
theorem d_M_claimed_53 : decode (pw_cc cx_M_claimed) 53 = .ok (.ireturn, 1) := by decide +kernel
set_option maxHeartbeats 4000000 in
set_option maxRecDepth 20000 in
def lp_M_claimed_6 (Q : pw_W → Int32 → Prop) (X : pw_W → Nat → Prop) : Nat → Int32 → Int32 → Int32 → Int32 → Int32 → Int32 → pw_W → Prop := fun k => Nat.rec (motive := fun _ => Int32 → Int32 → Int32 → Int32 → Int32 → Int32 → pw_W → Prop) (fun _ _ _ _ _ _ _ => False) (fun _ ih a1 a2 a3 a4 a5 a6 w => ((100 : Int32) ≤ a6 → Q w a5) ∧ (¬ (100 : Int32) ≤ a6 → wp_M_isInField w a6 a3 a4 (fun w2 r3 => (r3 = 0 → ∀ v5, v5 = (a5 + 0) → ih a1 a2 a3 a4 v5 (a6 + 1) w2) ∧ (¬ r3 = 0 → wp_M_isClaimed w2 a1 a2 a6 (fun w7 r8 => (r8 = 0 → ∀ v10, v10 = (a5 + 0) → ih a1 a2 a3 a4 v10 (a6 + 1) w7) ∧ (¬ r8 = 0 → ∀ v12, v12 = (a5 + 1) → ih a1 a2 a3 a4 v12 (a6 + 1) w7)) (fun _ _ => False))) (fun _ _ => False))) k
set_option maxHeartbeats 4000000 in
set_option maxRecDepth 20000 in
theorem lp_M_claimed_6_s {Q : pw_W → Int32 → Prop} {X : pw_W → Nat → Prop}  {k : Nat} {a1 a2 a3 a4 a5 a6 : Int32} {w : pw_W} : lp_M_claimed_6 Q X (k + 1) a1 a2 a3 a4 a5 a6 w = (let ih := lp_M_claimed_6 Q X k; ((100 : Int32) ≤ a6 → Q w a5) ∧ (¬ (100 : Int32) ≤ a6 → wp_M_isInField w a6 a3 a4 (fun w2 r3 => (r3 = 0 → ∀ v5, v5 = (a5 + 0) → ih a1 a2 a3 a4 v5 (a6 + 1) w2) ∧ (¬ r3 = 0 → wp_M_isClaimed w2 a1 a2 a6 (fun w7 r8 => (r8 = 0 → ∀ v10, v10 = (a5 + 0) → ih a1 a2 a3 a4 v10 (a6 + 1) w7) ∧ (¬ r8 = 0 → ∀ v12, v12 = (a5 + 1) → ih a1 a2 a3 a4 v12 (a6 + 1) w7)) (fun _ _ => False))) (fun _ _ => False))) := rfl
set_option maxHeartbeats 4000000 in
set_option maxRecDepth 20000 in
theorem vlp_M_claimed_6 {l : Launch} {g : pw_G} {Q : pw_W → Int32 → Prop} {X : pw_W → Nat → Prop} (hl0 : l.stackTraces = false) : ∀ (k : Nat) (a1 a2 a3 a4 a5 a6 : Int32) (w : pw_W), lp_M_claimed_6 Q X k a1 a2 a3 a4 a5 a6 w → pw_V l g cx_M_claimed Q X 6 [(10, 0), (0, a1), (0, a2), (0, a3), (0, a4), (0, a5), (0, a6)] [] w := by
  intro k; induction k with
  | zero => intro _ _ _ _ _ _ _ h; exact h.elim
  | succ k ih =>
    intro a1 a2 a3 a4 a5 a6 w h
    rw [lp_M_claimed_6_s] at h
    refine pv_iload (n := 8) d_M_claimed_6 rfl rfl ?_
    refine pv_bipush (v := 100) (n := 10) d_M_claimed_8 (by decide) rfl ?_
    refine pv_icmp_ge (n := 13) (tgt := 51) d_M_claimed_10 (by decide) rfl (fun c1 => ?_) (fun c1 => ?_)
    · replace h := h.1 c1
      refine pv_iload (n := 53) d_M_claimed_51 rfl rfl ?_
      exact pv_iret rfl rfl d_M_claimed_53 h
    · replace h := h.2 c1
      refine pv_iload (n := 15) d_M_claimed_13 rfl rfl ?_
      refine pv_iload (n := 17) d_M_claimed_15 rfl rfl ?_
      refine pv_iload_n (n := 18) d_M_claimed_17 rfl rfl rfl ?_
      refine pv_iload (n := 20) d_M_claimed_18 rfl rfl ?_
      refine pv_callS (n := 23) [(0, a6), (0, a3), (0, a4)] [(0, a5)] (con_M_isInField hl0 h) q_479 q_480 q_458 q_478 pyo_M_isInField (by decide) rfl rfl d_M_claimed_20 rfl (fun w2 r3 h _ => ?_) (fun _ _ h => h.elim)
      show pw_V l g cx_M_claimed Q X 23 [(10, 0), (0, a1), (0, a2), (0, a3), (0, a4), (0, a5), (0, a6)] [(0, r3), (0, a5)] w2
      refine pv_if_eq (n := 26) (tgt := 41) d_M_claimed_23 (by decide) rfl (fun c4 => ?_) (fun c4 => ?_)
      · replace h := h.1 c4
        refine pv_iconst (v := 0) (n := 42) d_M_claimed_41 (by decide) rfl ?_
        refine pv_iadd (n := 43) d_M_claimed_42 rfl ?_
        refine pv_nm (fun v5 e6 => ?_)
        replace h := h v5 e6
        refine pv_istore (n := 45) (L' := [(10, 0), (0, a1), (0, a2), (0, a3), (0, a4), (0, v5), (0, a6)]) d_M_claimed_43 (by decide) rfl rfl ?_
        refine pv_iinc (v := (a6 + 1)) (n := 48) (L1 := [(10, 0), (0, a1), (0, a2), (0, a3), (0, a4), (0, v5), (0, (a6 + 1))]) d_M_claimed_45 rfl rfl rfl (by decide) rfl ?_
        refine pv_goto (tgt := 6) d_M_claimed_48 (by decide) ?_
        exact ih _ _ _ _ _ _ _ h
      · replace h := h.2 c4
        refine pv_aload_n (n := 27) d_M_claimed_26 rfl rfl rfl ?_
        refine pv_iload_n (n := 28) d_M_claimed_27 rfl rfl rfl ?_
        refine pv_iload_n (n := 29) d_M_claimed_28 rfl rfl rfl ?_
        refine pv_iload (n := 31) d_M_claimed_29 rfl rfl ?_
        refine pv_callV (n := 34) (x := 0) [(0, a1), (0, a2), (0, a6)] [(0, a5)] (con_M_isClaimed hl0 h) pw_cf8 rfl q_545 q_546 q_547 q_458 q_544 pyo_M_isClaimed (by decide) rfl rfl (by decide) d_M_claimed_31 rfl (fun w7 r8 h _ => ?_) (fun _ _ h => h.elim)
        show pw_V l g cx_M_claimed Q X 34 [(10, 0), (0, a1), (0, a2), (0, a3), (0, a4), (0, a5), (0, a6)] [(0, r8), (0, a5)] w7
        refine pv_if_eq (n := 37) (tgt := 41) d_M_claimed_34 (by decide) rfl (fun c9 => ?_) (fun c9 => ?_)
        · replace h := h.1 c9
          refine pv_iconst (v := 0) (n := 42) d_M_claimed_41 (by decide) rfl ?_
          refine pv_iadd (n := 43) d_M_claimed_42 rfl ?_
          refine pv_nm (fun v10 e11 => ?_)
          replace h := h v10 e11
          refine pv_istore (n := 45) (L' := [(10, 0), (0, a1), (0, a2), (0, a3), (0, a4), (0, v10), (0, a6)]) d_M_claimed_43 (by decide) rfl rfl ?_
          refine pv_iinc (v := (a6 + 1)) (n := 48) (L1 := [(10, 0), (0, a1), (0, a2), (0, a3), (0, a4), (0, v10), (0, (a6 + 1))]) d_M_claimed_45 rfl rfl rfl (by decide) rfl ?_
          refine pv_goto (tgt := 6) d_M_claimed_48 (by decide) ?_
          exact ih _ _ _ _ _ _ _ h
        · replace h := h.2 c9
          refine pv_iconst (v := 1) (n := 38) d_M_claimed_37 (by decide) rfl ?_
          refine pv_goto (tgt := 42) d_M_claimed_38 (by decide) ?_
          refine pv_iadd (n := 43) d_M_claimed_42 rfl ?_
          refine pv_nm (fun v12 e13 => ?_)
          replace h := h v12 e13
          refine pv_istore (n := 45) (L' := [(10, 0), (0, a1), (0, a2), (0, a3), (0, a4), (0, v12), (0, a6)]) d_M_claimed_43 (by decide) rfl rfl ?_
          refine pv_iinc (v := (a6 + 1)) (n := 48) (L1 := [(10, 0), (0, a1), (0, a2), (0, a3), (0, a4), (0, v12), (0, (a6 + 1))]) d_M_claimed_45 rfl rfl rfl (by decide) rfl ?_
          refine pv_goto (tgt := 6) d_M_claimed_48 (by decide) ?_
          exact ih _ _ _ _ _ _ _ h
set_option maxHeartbeats 4000000 in
set_option maxRecDepth 20000 in
def wp_M_claimed (w : pw_W) (a1 a2 a3 a4 : Int32) (Q : pw_W → Int32 → Prop) (X : pw_W → Nat → Prop) : Prop := ∃ k14, lp_M_claimed_6 Q X k14 a1 a2 a3 a4 0 0 w
set_option maxHeartbeats 4000000 in
set_option maxRecDepth 20000 in
theorem vw_M_claimed {l : Launch} {g : pw_G} {Q : pw_W → Int32 → Prop} {X : pw_W → Nat → Prop} (hl0 : l.stackTraces = false) {w : pw_W} {a1 a2 a3 a4 : Int32} (h : wp_M_claimed w a1 a2 a3 a4 Q X) : pw_V l g cx_M_claimed Q X 0 [(10, 0), (0, a1), (0, a2), (0, a3), (0, a4), (1, 0), (1, 0)] [] w := by
  unfold wp_M_claimed at h
  refine pv_iconst (v := 0) (n := 1) d_M_claimed_0 (by decide) rfl ?_
  refine pv_istore (n := 3) (L' := [(10, 0), (0, a1), (0, a2), (0, a3), (0, a4), (0, 0), (1, 0)]) d_M_claimed_1 (by decide) rfl rfl ?_
  refine pv_iconst (v := 0) (n := 4) d_M_claimed_3 (by decide) rfl ?_
  refine pv_istore (n := 6) (L' := [(10, 0), (0, a1), (0, a2), (0, a3), (0, a4), (0, 0), (0, 0)]) d_M_claimed_4 (by decide) rfl rfl ?_
  obtain ⟨k14, h⟩ := h
  exact vlp_M_claimed_6 hl0 _ _ _ _ _ _ _ _ h
set_option maxHeartbeats 4000000 in
set_option maxRecDepth 20000 in
theorem con_M_claimed {l : Launch} {g : pw_G} {Q : pw_W → Int32 → Prop} {X : pw_W → Nat → Prop} (hl0 : l.stackTraces = false) {w : pw_W} {a1 a2 a3 a4 : Int32} (h : wp_M_claimed w a1 a2 a3 a4 Q X) : pw_Con l g y_M_claimed cx_M_claimed [(10, 0), (0, a1), (0, a2), (0, a3), (0, a4)] w Q X :=
  pw_con (by decide +kernel) rfl rfl hl0 rfl (Nat.le_of_ble_eq_true rfl) (by simp) (vw_M_claimed hl0 h)
theorem d_M_file_0 : decode (pw_cc cx_M_file) 0 = .ok (.aload_n 0, 1) := by decide +kernel
theorem d_M_file_1 : decode (pw_cc cx_M_file) 1 = .ok (.iload_n 1, 1) := by decide +kernel
theorem d_M_file_2 : decode (pw_cc cx_M_file) 2 = .ok (.iload_n 3, 1) := by decide +kernel
theorem d_M_file_3 : decode (pw_cc cx_M_file) 3 = .ok (.iload 4, 2) := by decide +kernel
theorem d_M_file_5 : decode (pw_cc cx_M_file) 5 = .ok (.invokevirtual 198, 3) := by decide +kernel
theorem d_M_file_8 : decode (pw_cc cx_M_file) 8 = .ok (.istore 5, 2) := by decide +kernel
theorem d_M_file_10 : decode (pw_cc cx_M_file) 10 = .ok (.aload_n 0, 1) := by decide +kernel
theorem d_M_file_11 : decode (pw_cc cx_M_file) 11 = .ok (.iload 5, 2) := by decide +kernel
theorem d_M_file_13 : decode (pw_cc cx_M_file) 13 = .ok (.ifCond .ne 7, 3) := by decide +kernel
theorem d_M_file_16 : decode (pw_cc cx_M_file) 16 = .ok (.iconst 1, 1) := by decide +kernel
theorem d_M_file_17 : decode (pw_cc cx_M_file) 17 = .ok (.goto 51, 3) := by decide +kernel
theorem d_M_file_20 : decode (pw_cc cx_M_file) 20 = .ok (.iload_n 3, 1) := by decide +kernel
theorem d_M_file_21 : decode (pw_cc cx_M_file) 21 = .ok (.iload 4, 2) := by decide +kernel
theorem d_M_file_23 : decode (pw_cc cx_M_file) 23 = .ok (.invokestatic 169, 3) := by decide +kernel
theorem d_M_file_26 : decode (pw_cc cx_M_file) 26 = .ok (.ifCond .ne 7, 3) := by decide +kernel
theorem d_M_file_29 : decode (pw_cc cx_M_file) 29 = .ok (.iconst 2, 1) := by decide +kernel
theorem d_M_file_30 : decode (pw_cc cx_M_file) 30 = .ok (.goto 38, 3) := by decide +kernel
theorem d_M_file_33 : decode (pw_cc cx_M_file) 33 = .ok (.aload_n 0, 1) := by decide +kernel
theorem d_M_file_34 : decode (pw_cc cx_M_file) 34 = .ok (.getfield 104, 3) := by decide +kernel
theorem d_M_file_37 : decode (pw_cc cx_M_file) 37 = .ok (.iload_n 1, 1) := by decide +kernel
theorem d_M_file_38 : decode (pw_cc cx_M_file) 38 = .ok (.baload, 1) := by decide +kernel
theorem d_M_file_39 : decode (pw_cc cx_M_file) 39 = .ok (.ifCond .ne 24, 3) := by decide +kernel
theorem d_M_file_42 : decode (pw_cc cx_M_file) 42 = .ok (.aload_n 0, 1) := by decide +kernel
theorem d_M_file_43 : decode (pw_cc cx_M_file) 43 = .ok (.iload_n 1, 1) := by decide +kernel
theorem d_M_file_44 : decode (pw_cc cx_M_file) 44 = .ok (.iload_n 2, 1) := by decide +kernel
theorem d_M_file_45 : decode (pw_cc cx_M_file) 45 = .ok (.iload_n 3, 1) := by decide +kernel
theorem d_M_file_46 : decode (pw_cc cx_M_file) 46 = .ok (.iload 4, 2) := by decide +kernel
theorem d_M_file_48 : decode (pw_cc cx_M_file) 48 = .ok (.invokevirtual 214, 3) := by decide +kernel
theorem d_M_file_51 : decode (pw_cc cx_M_file) 51 = .ok (.ifCond .eq 12, 3) := by decide +kernel
theorem d_M_file_54 : decode (pw_cc cx_M_file) 54 = .ok (.aload_n 0, 1) := by decide +kernel
theorem d_M_file_55 : decode (pw_cc cx_M_file) 55 = .ok (.getfield 128, 3) := by decide +kernel
theorem d_M_file_58 : decode (pw_cc cx_M_file) 58 = .ok (.bipush 16, 2) := by decide +kernel
theorem d_M_file_60 : decode (pw_cc cx_M_file) 60 = .ok (.if_icmp .ne 7, 3) := by decide +kernel
theorem d_M_file_63 : decode (pw_cc cx_M_file) 63 = .ok (.iconst 3, 1) := by decide +kernel
theorem d_M_file_64 : decode (pw_cc cx_M_file) 64 = .ok (.goto 4, 3) := by decide +kernel
theorem d_M_file_67 : decode (pw_cc cx_M_file) 67 = .ok (.iconst 0, 1) := by decide +kernel
theorem d_M_file_68 : decode (pw_cc cx_M_file) 68 = .ok (.invokevirtual 179, 3) := by decide +kernel
theorem d_M_file_71 : decode (pw_cc cx_M_file) 71 = .ok (.ifCond .ne 5, 3) := by decide +kernel
theorem d_M_file_74 : decode (pw_cc cx_M_file) 74 = .ok (.iconst 0, 1) := by decide +kernel
theorem d_M_file_75 : decode (pw_cc cx_M_file) 75 = .ok (.ireturn, 1) := by decide +kernel
theorem d_M_file_76 : decode (pw_cc cx_M_file) 76 = .ok (.aload_n 0, 1) := by decide +kernel
theorem d_M_file_77 : decode (pw_cc cx_M_file) 77 = .ok (.getfield 128, 3) := by decide +kernel
theorem d_M_file_80 : decode (pw_cc cx_M_file) 80 = .ok (.istore 6, 2) := by decide +kernel
theorem d_M_file_82 : decode (pw_cc cx_M_file) 82 = .ok (.aload_n 0, 1) := by decide +kernel
theorem d_M_file_83 : decode (pw_cc cx_M_file) 83 = .ok (.getfield 77, 3) := by decide +kernel
theorem d_M_file_86 : decode (pw_cc cx_M_file) 86 = .ok (.iload 6, 2) := by decide +kernel
theorem d_M_file_88 : decode (pw_cc cx_M_file) 88 = .ok (.iload_n 1, 1) := by decide +kernel
theorem d_M_file_89 : decode (pw_cc cx_M_file) 89 = .ok (.iastore, 1) := by decide +kernel
theorem d_M_file_90 : decode (pw_cc cx_M_file) 90 = .ok (.iconst 0, 1) := by decide +kernel
theorem d_M_file_91 : decode (pw_cc cx_M_file) 91 = .ok (.istore 7, 2) := by decide +kernel
theorem d_M_file_93 : decode (pw_cc cx_M_file) 93 = .ok (.iload 7, 2) := by decide +kernel
theorem d_M_file_95 : decode (pw_cc cx_M_file) 95 = .ok (.bipush 100, 2) := by decide +kernel
theorem d_M_file_97 : decode (pw_cc cx_M_file) 97 = .ok (.if_icmp .ge 49, 3) := by decide +kernel
theorem d_M_file_100 : decode (pw_cc cx_M_file) 100 = .ok (.aload_n 0, 1) := by decide +kernel
theorem d_M_file_101 : decode (pw_cc cx_M_file) 101 = .ok (.getfield 95, 3) := by decide +kernel
theorem d_M_file_104 : decode (pw_cc cx_M_file) 104 = .ok (.bipush 100, 2) := by decide +kernel
theorem d_M_file_106 : decode (pw_cc cx_M_file) 106 = .ok (.iload 6, 2) := by decide +kernel
theorem d_M_file_108 : decode (pw_cc cx_M_file) 108 = .ok (.imul, 1) := by decide +kernel
theorem d_M_file_109 : decode (pw_cc cx_M_file) 109 = .ok (.iload 7, 2) := by decide +kernel
theorem d_M_file_111 : decode (pw_cc cx_M_file) 111 = .ok (.iadd, 1) := by decide +kernel
theorem d_M_file_112 : decode (pw_cc cx_M_file) 112 = .ok (.iload 7, 2) := by decide +kernel
theorem d_M_file_114 : decode (pw_cc cx_M_file) 114 = .ok (.iload_n 3, 1) := by decide +kernel
theorem d_M_file_115 : decode (pw_cc cx_M_file) 115 = .ok (.iload 4, 2) := by decide +kernel
theorem d_M_file_117 : decode (pw_cc cx_M_file) 117 = .ok (.invokestatic 149, 3) := by decide +kernel
theorem d_M_file_120 : decode (pw_cc cx_M_file) 120 = .ok (.ifCond .eq 18, 3) := by decide +kernel
theorem d_M_file_123 : decode (pw_cc cx_M_file) 123 = .ok (.aload_n 0, 1) := by decide +kernel
theorem d_M_file_124 : decode (pw_cc cx_M_file) 124 = .ok (.iload_n 1, 1) := by decide +kernel
theorem d_M_file_125 : decode (pw_cc cx_M_file) 125 = .ok (.iload_n 2, 1) := by decide +kernel
theorem d_M_file_126 : decode (pw_cc cx_M_file) 126 = .ok (.iload 7, 2) := by decide +kernel
theorem d_M_file_128 : decode (pw_cc cx_M_file) 128 = .ok (.invokevirtual 210, 3) := by decide +kernel
theorem d_M_file_131 : decode (pw_cc cx_M_file) 131 = .ok (.ifCond .eq 7, 3) := by decide +kernel
theorem d_M_file_134 : decode (pw_cc cx_M_file) 134 = .ok (.iconst 1, 1) := by decide +kernel
theorem d_M_file_135 : decode (pw_cc cx_M_file) 135 = .ok (.goto 4, 3) := by decide +kernel
theorem d_M_file_138 : decode (pw_cc cx_M_file) 138 = .ok (.iconst 0, 1) := by decide +kernel
theorem d_M_file_139 : decode (pw_cc cx_M_file) 139 = .ok (.bastore, 1) := by decide +kernel
theorem d_M_file_140 : decode (pw_cc cx_M_file) 140 = .ok (.iinc 7 1, 3) := by decide +kernel
theorem d_M_file_143 : decode (pw_cc cx_M_file) 143 = .ok (.goto (-50), 3) := by decide +kernel
theorem d_M_file_146 : decode (pw_cc cx_M_file) 146 = .ok (.aload_n 0, 1) := by decide +kernel
theorem d_M_file_147 : decode (pw_cc cx_M_file) 147 = .ok (.dup, 1) := by decide +kernel
theorem d_M_file_148 : decode (pw_cc cx_M_file) 148 = .ok (.getfield 128, 3) := by decide +kernel
theorem d_M_file_151 : decode (pw_cc cx_M_file) 151 = .ok (.iconst 1, 1) := by decide +kernel
theorem d_M_file_152 : decode (pw_cc cx_M_file) 152 = .ok (.iadd, 1) := by decide +kernel
theorem d_M_file_153 : decode (pw_cc cx_M_file) 153 = .ok (.putfield 128, 3) := by decide +kernel
theorem d_M_file_156 : decode (pw_cc cx_M_file) 156 = .ok (.iload 6, 2) := by decide +kernel
theorem d_M_file_158 : decode (pw_cc cx_M_file) 158 = .ok (.ireturn, 1) := by decide +kernel
set_option maxHeartbeats 4000000 in
set_option maxRecDepth 20000 in
def jp_M_file_139 (Q : pw_W → Int32 → Prop) (X : pw_W → Nat → Prop) (K93 : Int32 → Int32 → Int32 → Int32 → Int32 → Int32 → pw_W → Prop) (a1 a2 a3 a4 a6 a7 s0 s1 : Int32) (w : pw_W) : Prop := pw_jn s1 (pw_ln w 237 0) ∧ (s0 = 0 ∨ s0 = 1) ∧ ∀ w3, w3 = pw_ps w 237 0 (pw_i s1) s0 → K93 a1 a2 a3 a4 a6 (a7 + 1) w3
set_option maxHeartbeats 4000000 in
set_option maxRecDepth 20000 in
theorem vjp_M_file_139 {l : Launch} {g : pw_G} {Q : pw_W → Int32 → Prop} {X : pw_W → Nat → Prop} (hl0 : l.stackTraces = false) {K93 : Int32 → Int32 → Int32 → Int32 → Int32 → Int32 → pw_W → Prop} (hK93 : ∀ (a1 a2 a3 a4 a6 a7 : Int32) (w : pw_W), K93 a1 a2 a3 a4 a6 a7 w → pw_V l g cx_M_file Q X 93 [(10, 0), (0, a1), (0, a2), (0, a3), (0, a4), (1, 0), (0, a6), (0, a7)] [] w) (a1 a2 a3 a4 a6 a7 s0 s1 : Int32) (w : pw_W) (h : jp_M_file_139 Q X K93 a1 a2 a3 a4 a6 a7 s0 s1 w) : pw_V l g cx_M_file Q X 139 [(10, 0), (0, a1), (0, a2), (0, a3), (0, a4), (1, 0), (0, a6), (0, a7)] [(0, s0), (0, s1), (239, 0)] w := by
  unfold jp_M_file_139 at h
  obtain ⟨g1, h⟩ := h
  obtain ⟨g2, h⟩ := h
  refine pv_zast1 (n := 140) (f := 237) (by decide) rfl (fun _ => rfl) d_M_file_139 (by decide) g1 g2 rfl (fun w3 e4 => ?_)
  replace h := h w3 e4
  refine pv_iinc (v := (a7 + 1)) (n := 143) (L1 := [(10, 0), (0, a1), (0, a2), (0, a3), (0, a4), (1, 0), (0, a6), (0, (a7 + 1))]) d_M_file_140 rfl rfl rfl (by decide) rfl ?_
  refine pv_goto (tgt := 93) d_M_file_143 (by decide) ?_
  exact hK93 _ _ _ _ _ _ _ h
set_option maxHeartbeats 4000000 in
set_option maxRecDepth 20000 in
def jp_M_file_138 (Q : pw_W → Int32 → Prop) (X : pw_W → Nat → Prop) (K93 : Int32 → Int32 → Int32 → Int32 → Int32 → Int32 → pw_W → Prop) (a1 a2 a3 a4 a6 a7 s0 : Int32) (w : pw_W) : Prop := jp_M_file_139 Q X K93 a1 a2 a3 a4 a6 a7 0 s0 w
set_option maxHeartbeats 4000000 in
set_option maxRecDepth 20000 in
theorem vjp_M_file_138 {l : Launch} {g : pw_G} {Q : pw_W → Int32 → Prop} {X : pw_W → Nat → Prop} (hl0 : l.stackTraces = false) {K93 : Int32 → Int32 → Int32 → Int32 → Int32 → Int32 → pw_W → Prop} (hK93 : ∀ (a1 a2 a3 a4 a6 a7 : Int32) (w : pw_W), K93 a1 a2 a3 a4 a6 a7 w → pw_V l g cx_M_file Q X 93 [(10, 0), (0, a1), (0, a2), (0, a3), (0, a4), (1, 0), (0, a6), (0, a7)] [] w) (a1 a2 a3 a4 a6 a7 s0 : Int32) (w : pw_W) (h : jp_M_file_138 Q X K93 a1 a2 a3 a4 a6 a7 s0 w) : pw_V l g cx_M_file Q X 138 [(10, 0), (0, a1), (0, a2), (0, a3), (0, a4), (1, 0), (0, a6), (0, a7)] [(0, s0), (239, 0)] w := by
  unfold jp_M_file_138 at h
  refine pv_iconst (v := 0) (n := 139) d_M_file_138 (by decide) rfl ?_
  exact vjp_M_file_139 hl0 (by intros; exact hK93 _ _ _ _ _ _ _ (by assumption)) _ _ _ _ _ _ _ _ _ h
set_option maxHeartbeats 4000000 in
set_option maxRecDepth 20000 in
def lp_M_file_93 (Q : pw_W → Int32 → Prop) (X : pw_W → Nat → Prop) : Nat → Int32 → Int32 → Int32 → Int32 → Int32 → Int32 → pw_W → Prop := fun k => Nat.rec (motive := fun _ => Int32 → Int32 → Int32 → Int32 → Int32 → Int32 → pw_W → Prop) (fun _ _ _ _ _ _ _ => False) (fun _ ih a1 a2 a3 a4 a6 a7 w => ((100 : Int32) ≤ a7 → ∀ w6, w6 = pw_ps w 8 0 38 ((w.1 8 0 38) + 1) → Q w6 a6) ∧ (¬ (100 : Int32) ≤ a7 → w.1 8 0 37 = 0 ∧ wp_M_isInField w a7 a3 a4 (fun w9 r10 => (r10 = 0 → jp_M_file_138 Q X ih a1 a2 a3 a4 a6 a7 (((100 : Int32) * a6) + a7) w9) ∧ (¬ r10 = 0 → wp_M_isClaimed w9 a1 a2 a7 (fun w12 r13 => (r13 = 0 → jp_M_file_138 Q X ih a1 a2 a3 a4 a6 a7 (((100 : Int32) * a6) + a7) w12) ∧ (¬ r13 = 0 → jp_M_file_139 Q X ih a1 a2 a3 a4 a6 a7 1 (((100 : Int32) * a6) + a7) w12)) (fun _ _ => False))) (fun _ _ => False))) k
set_option maxHeartbeats 4000000 in
set_option maxRecDepth 20000 in
theorem lp_M_file_93_s {Q : pw_W → Int32 → Prop} {X : pw_W → Nat → Prop}  {k : Nat} {a1 a2 a3 a4 a6 a7 : Int32} {w : pw_W} : lp_M_file_93 Q X (k + 1) a1 a2 a3 a4 a6 a7 w = (let ih := lp_M_file_93 Q X k; ((100 : Int32) ≤ a7 → ∀ w6, w6 = pw_ps w 8 0 38 ((w.1 8 0 38) + 1) → Q w6 a6) ∧ (¬ (100 : Int32) ≤ a7 → w.1 8 0 37 = 0 ∧ wp_M_isInField w a7 a3 a4 (fun w9 r10 => (r10 = 0 → jp_M_file_138 Q X ih a1 a2 a3 a4 a6 a7 (((100 : Int32) * a6) + a7) w9) ∧ (¬ r10 = 0 → wp_M_isClaimed w9 a1 a2 a7 (fun w12 r13 => (r13 = 0 → jp_M_file_138 Q X ih a1 a2 a3 a4 a6 a7 (((100 : Int32) * a6) + a7) w12) ∧ (¬ r13 = 0 → jp_M_file_139 Q X ih a1 a2 a3 a4 a6 a7 1 (((100 : Int32) * a6) + a7) w12)) (fun _ _ => False))) (fun _ _ => False))) := rfl
set_option maxHeartbeats 4000000 in
set_option maxRecDepth 20000 in
theorem vlp_M_file_93 {l : Launch} {g : pw_G} {Q : pw_W → Int32 → Prop} {X : pw_W → Nat → Prop} (hl0 : l.stackTraces = false) : ∀ (k : Nat) (a1 a2 a3 a4 a6 a7 : Int32) (w : pw_W), lp_M_file_93 Q X k a1 a2 a3 a4 a6 a7 w → pw_V l g cx_M_file Q X 93 [(10, 0), (0, a1), (0, a2), (0, a3), (0, a4), (1, 0), (0, a6), (0, a7)] [] w := by
  intro k; induction k with
  | zero => intro _ _ _ _ _ _ _ h; exact h.elim
  | succ k ih =>
    intro a1 a2 a3 a4 a6 a7 w h
    rw [lp_M_file_93_s] at h
    refine pv_iload (n := 95) d_M_file_93 rfl rfl ?_
    refine pv_bipush (v := 100) (n := 97) d_M_file_95 (by decide) rfl ?_
    refine pv_icmp_ge (n := 100) (tgt := 146) d_M_file_97 (by decide) rfl (fun c5 => ?_) (fun c5 => ?_)
    · replace h := h.1 c5
      refine pv_aload_n (n := 147) d_M_file_146 rfl rfl rfl ?_
      refine pv_dup (n := 148) d_M_file_147 (by decide) rfl ?_
      refine gt_M_128 (n := 151) rfl d_M_file_148 (by decide) rfl ?_
      refine pv_iconst (v := 1) (n := 152) d_M_file_151 (by decide) rfl ?_
      refine pv_iadd (n := 153) d_M_file_152 rfl ?_
      refine pt_M_128 (n := 156) rfl d_M_file_153 (by decide) rfl (fun w6 e7 => ?_)
      replace h := h w6 e7
      refine pv_iload (n := 158) d_M_file_156 rfl rfl ?_
      exact pv_iret rfl rfl d_M_file_158 h
    · replace h := h.2 c5
      refine pv_aload_n (n := 101) d_M_file_100 rfl rfl rfl ?_
      obtain ⟨g8, h⟩ := h
      refine gt_M_95 (n := 104) rfl d_M_file_101 (by decide) g8 rfl ?_
      refine pv_bipush (v := 100) (n := 106) d_M_file_104 (by decide) rfl ?_
      refine pv_iload (n := 108) d_M_file_106 rfl rfl ?_
      refine pv_imul (n := 109) d_M_file_108 rfl ?_
      refine pv_iload (n := 111) d_M_file_109 rfl rfl ?_
      refine pv_iadd (n := 112) d_M_file_111 rfl ?_
      refine pv_iload (n := 114) d_M_file_112 rfl rfl ?_
      refine pv_iload_n (n := 115) d_M_file_114 rfl rfl rfl ?_
      refine pv_iload (n := 117) d_M_file_115 rfl rfl ?_
      refine pv_callS (n := 120) [(0, a7), (0, a3), (0, a4)] [(0, (((100 : Int32) * a6) + a7)), (239, 0)] (con_M_isInField hl0 h) q_479 q_480 q_458 q_478 pyo_M_isInField (by decide) rfl rfl d_M_file_117 rfl (fun w9 r10 h _ => ?_) (fun _ _ h => h.elim)
      show pw_V l g cx_M_file Q X 120 [(10, 0), (0, a1), (0, a2), (0, a3), (0, a4), (1, 0), (0, a6), (0, a7)] [(0, r10), (0, (((100 : Int32) * a6) + a7)), (239, 0)] w9
      refine pv_if_eq (n := 123) (tgt := 138) d_M_file_120 (by decide) rfl (fun c11 => ?_) (fun c11 => ?_)
      · replace h := h.1 c11
        exact vjp_M_file_138 hl0 (by intros; exact ih _ _ _ _ _ _ _ (by assumption)) _ _ _ _ _ _ _ _ h
      · replace h := h.2 c11
        refine pv_aload_n (n := 124) d_M_file_123 rfl rfl rfl ?_
        refine pv_iload_n (n := 125) d_M_file_124 rfl rfl rfl ?_
        refine pv_iload_n (n := 126) d_M_file_125 rfl rfl rfl ?_
        refine pv_iload (n := 128) d_M_file_126 rfl rfl ?_
        refine pv_callV (n := 131) (x := 0) [(0, a1), (0, a2), (0, a7)] [(0, (((100 : Int32) * a6) + a7)), (239, 0)] (con_M_isClaimed hl0 h) pw_cf8 rfl q_545 q_546 q_547 q_458 q_544 pyo_M_isClaimed (by decide) rfl rfl (by decide) d_M_file_128 rfl (fun w12 r13 h _ => ?_) (fun _ _ h => h.elim)
        show pw_V l g cx_M_file Q X 131 [(10, 0), (0, a1), (0, a2), (0, a3), (0, a4), (1, 0), (0, a6), (0, a7)] [(0, r13), (0, (((100 : Int32) * a6) + a7)), (239, 0)] w12
        refine pv_if_eq (n := 134) (tgt := 138) d_M_file_131 (by decide) rfl (fun c14 => ?_) (fun c14 => ?_)
        · replace h := h.1 c14
          exact vjp_M_file_138 hl0 (by intros; exact ih _ _ _ _ _ _ _ (by assumption)) _ _ _ _ _ _ _ _ h
        · replace h := h.2 c14
          refine pv_iconst (v := 1) (n := 135) d_M_file_134 (by decide) rfl ?_
          refine pv_goto (tgt := 139) d_M_file_135 (by decide) ?_
          exact vjp_M_file_139 hl0 (by intros; exact ih _ _ _ _ _ _ _ (by assumption)) _ _ _ _ _ _ _ _ _ h
set_option maxHeartbeats 4000000 in
set_option maxRecDepth 20000 in
def jp_M_file_68 (Q : pw_W → Int32 → Prop) (X : pw_W → Nat → Prop) (a1 a2 a3 a4 s0 : Int32) (w : pw_W) : Prop := wp_M_isFine w s0 (fun w15 r16 => (¬ r16 = 0 → ∀ v18, v18 = (w15.1 8 0 38) → w15.1 8 0 31 = 0 ∧ pw_jn v18 (pw_ln w15 231 0) ∧ ∀ w22, w22 = pw_ps w15 231 0 (pw_i v18) a1 → ∃ k24, lp_M_file_93 Q X k24 a1 a2 a3 a4 v18 0 w22) ∧ (r16 = 0 → Q w15 0)) (fun _ _ => False)
set_option maxHeartbeats 4000000 in
set_option maxRecDepth 20000 in
theorem vjp_M_file_68 {l : Launch} {g : pw_G} {Q : pw_W → Int32 → Prop} {X : pw_W → Nat → Prop} (hl0 : l.stackTraces = false) (a1 a2 a3 a4 s0 : Int32) (w : pw_W) (h : jp_M_file_68 Q X a1 a2 a3 a4 s0 w) : pw_V l g cx_M_file Q X 68 [(10, 0), (0, a1), (0, a2), (0, a3), (0, a4), (1, 0), (1, 0), (1, 0)] [(0, s0), (10, 0)] w := by
  unfold jp_M_file_68 at h
  refine pv_callV (n := 71) (x := 0) [(0, s0)] [] (con_M_isFine hl0 h) pw_cf8 rfl q_506 q_507 q_508 q_458 q_505 pyo_M_isFine (by decide) rfl rfl (by decide) d_M_file_68 rfl (fun w15 r16 h _ => ?_) (fun _ _ h => h.elim)
  show pw_V l g cx_M_file Q X 71 [(10, 0), (0, a1), (0, a2), (0, a3), (0, a4), (1, 0), (1, 0), (1, 0)] [(0, r16)] w15
  refine pv_if_ne (n := 74) (tgt := 76) d_M_file_71 (by decide) rfl (fun c17 => ?_) (fun c17 => ?_)
  · replace h := h.1 c17
    refine pv_aload_n (n := 77) d_M_file_76 rfl rfl rfl ?_
    refine gt_M_128 (n := 80) rfl d_M_file_77 (by decide) rfl ?_
    refine pv_nm (fun v18 e19 => ?_)
    replace h := h v18 e19
    refine pv_istore (n := 82) (L' := [(10, 0), (0, a1), (0, a2), (0, a3), (0, a4), (1, 0), (0, v18), (1, 0)]) d_M_file_80 (by decide) rfl rfl ?_
    refine pv_aload_n (n := 83) d_M_file_82 rfl rfl rfl ?_
    obtain ⟨g20, h⟩ := h
    refine gt_M_77 (n := 86) rfl d_M_file_83 (by decide) g20 rfl ?_
    refine pv_iload (n := 88) d_M_file_86 rfl rfl ?_
    refine pv_iload_n (n := 89) d_M_file_88 rfl rfl rfl ?_
    obtain ⟨g21, h⟩ := h
    refine pv_iast1 (n := 90) (f := 231) (by decide) rfl (fun _ => rfl) d_M_file_89 (by decide) g21 rfl (fun w22 e23 => ?_)
    replace h := h w22 e23
    refine pv_iconst (v := 0) (n := 91) d_M_file_90 (by decide) rfl ?_
    refine pv_istore (n := 93) (L' := [(10, 0), (0, a1), (0, a2), (0, a3), (0, a4), (1, 0), (0, v18), (0, 0)]) d_M_file_91 (by decide) rfl rfl ?_
    obtain ⟨k24, h⟩ := h
    exact vlp_M_file_93 hl0 _ _ _ _ _ _ _ _ h
  · replace h := h.2 c17
    refine pv_iconst (v := 0) (n := 75) d_M_file_74 (by decide) rfl ?_
    exact pv_iret rfl rfl d_M_file_75 h
set_option maxHeartbeats 4000000 in
set_option maxRecDepth 20000 in
def jp_M_file_63 (Q : pw_W → Int32 → Prop) (X : pw_W → Nat → Prop) (a1 a2 a3 a4 : Int32) (w : pw_W) : Prop := jp_M_file_68 Q X a1 a2 a3 a4 3 w
set_option maxHeartbeats 4000000 in
set_option maxRecDepth 20000 in
theorem vjp_M_file_63 {l : Launch} {g : pw_G} {Q : pw_W → Int32 → Prop} {X : pw_W → Nat → Prop} (hl0 : l.stackTraces = false) (a1 a2 a3 a4 : Int32) (w : pw_W) (h : jp_M_file_63 Q X a1 a2 a3 a4 w) : pw_V l g cx_M_file Q X 63 [(10, 0), (0, a1), (0, a2), (0, a3), (0, a4), (1, 0), (1, 0), (1, 0)] [(10, 0)] w := by
  unfold jp_M_file_63 at h
  refine pv_iconst (v := 3) (n := 64) d_M_file_63 (by decide) rfl ?_
  refine pv_goto (tgt := 68) d_M_file_64 (by decide) ?_
  exact vjp_M_file_68 hl0 _ _ _ _ _ _ h
set_option maxHeartbeats 4000000 in
set_option maxRecDepth 20000 in
def wp_M_file (w : pw_W) (a1 a2 a3 a4 : Int32) (Q : pw_W → Int32 → Prop) (X : pw_W → Nat → Prop) : Prop := wp_M_areSquares w a1 a3 a4 (fun w25 r26 => (¬ r26 = 0 → wp_M_isField w25 a3 a4 (fun w28 r29 => (¬ r29 = 0 → w28.1 8 0 42 = 0 ∧ pw_jn a1 (pw_ln w28 242 0) ∧ (¬ (w28.1 242 0 (pw_i a1)) = 0 → jp_M_file_63 Q X a1 a2 a3 a4 w28) ∧ ((w28.1 242 0 (pw_i a1)) = 0 → wp_M_claimed w28 a1 a2 a3 a4 (fun w34 r35 => (r35 = 0 → jp_M_file_63 Q X a1 a2 a3 a4 w34) ∧ (¬ r35 = 0 → (¬ (w34.1 8 0 38) = 16 → jp_M_file_68 Q X a1 a2 a3 a4 0 w34) ∧ ((w34.1 8 0 38) = 16 → jp_M_file_63 Q X a1 a2 a3 a4 w34))) (fun _ _ => False))) ∧ (r29 = 0 → jp_M_file_68 Q X a1 a2 a3 a4 2 w28)) (fun _ _ => False)) ∧ (r26 = 0 → jp_M_file_68 Q X a1 a2 a3 a4 1 w25)) (fun _ _ => False)
set_option maxHeartbeats 4000000 in
set_option maxRecDepth 20000 in
theorem vw_M_file {l : Launch} {g : pw_G} {Q : pw_W → Int32 → Prop} {X : pw_W → Nat → Prop} (hl0 : l.stackTraces = false) {w : pw_W} {a1 a2 a3 a4 : Int32} (h : wp_M_file w a1 a2 a3 a4 Q X) : pw_V l g cx_M_file Q X 0 [(10, 0), (0, a1), (0, a2), (0, a3), (0, a4), (1, 0), (1, 0), (1, 0)] [] w := by
  unfold wp_M_file at h
  refine pv_aload_n (n := 1) d_M_file_0 rfl rfl rfl ?_
  refine pv_iload_n (n := 2) d_M_file_1 rfl rfl rfl ?_
  refine pv_iload_n (n := 3) d_M_file_2 rfl rfl rfl ?_
  refine pv_iload (n := 5) d_M_file_3 rfl rfl ?_
  refine pv_callV (n := 8) (x := 0) [(0, a1), (0, a3), (0, a4)] [] (con_M_areSquares hl0 h) pw_cf8 rfl q_536 q_537 q_538 q_458 q_535 pyo_M_areSquares (by decide) rfl rfl (by decide) d_M_file_5 rfl (fun w25 r26 h _ => ?_) (fun _ _ h => h.elim)
  show pw_V l g cx_M_file Q X 8 [(10, 0), (0, a1), (0, a2), (0, a3), (0, a4), (1, 0), (1, 0), (1, 0)] [(0, r26)] w25
  refine pv_istore (n := 10) (L' := [(10, 0), (0, a1), (0, a2), (0, a3), (0, a4), (0, r26), (1, 0), (1, 0)]) d_M_file_8 (by decide) rfl rfl ?_
  refine pv_aload_n (n := 11) d_M_file_10 rfl rfl rfl ?_
  refine pv_iload (n := 13) d_M_file_11 rfl rfl ?_
  refine pv_if_ne (n := 16) (tgt := 20) d_M_file_13 (by decide) rfl (fun c27 => ?_) (fun c27 => ?_)
  · replace h := h.1 c27
    refine pv_iload_n (n := 21) d_M_file_20 rfl rfl rfl ?_
    refine pv_iload (n := 23) d_M_file_21 rfl rfl ?_
    refine pv_callS (n := 26) [(0, a3), (0, a4)] [(10, 0)] (con_M_isField hl0 h) q_514 q_515 q_458 q_513 pyo_M_isField (by decide) rfl rfl d_M_file_23 rfl (fun w28 r29 h _ => ?_) (fun _ _ h => h.elim)
    show pw_V l g cx_M_file Q X 26 [(10, 0), (0, a1), (0, a2), (0, a3), (0, a4), (0, r26), (1, 0), (1, 0)] [(0, r29), (10, 0)] w28
    refine pv_if_ne (n := 29) (tgt := 33) d_M_file_26 (by decide) rfl (fun c30 => ?_) (fun c30 => ?_)
    · replace h := h.1 c30
      refine pv_aload_n (n := 34) d_M_file_33 rfl rfl rfl ?_
      obtain ⟨g31, h⟩ := h
      refine gt_M_104 (n := 37) rfl d_M_file_34 (by decide) g31 rfl ?_
      refine pv_iload_n (n := 38) d_M_file_37 rfl rfl rfl ?_
      obtain ⟨g32, h⟩ := h
      refine pv_zald (n := 39) (f := 242) (by decide) rfl d_M_file_38 (by decide) g32 rfl ?_
      refine pv_if_ne (n := 42) (tgt := 63) d_M_file_39 (by decide) rfl (fun c33 => ?_) (fun c33 => ?_)
      · replace h := h.1 c33
        refine pv_unset (i := 5) (L1 := [(10, 0), (0, a1), (0, a2), (0, a3), (0, a4), (1, 0), (1, 0), (1, 0)]) rfl ?_
        exact vjp_M_file_63 hl0 _ _ _ _ _ h
      · replace h := h.2 c33
        refine pv_aload_n (n := 43) d_M_file_42 rfl rfl rfl ?_
        refine pv_iload_n (n := 44) d_M_file_43 rfl rfl rfl ?_
        refine pv_iload_n (n := 45) d_M_file_44 rfl rfl rfl ?_
        refine pv_iload_n (n := 46) d_M_file_45 rfl rfl rfl ?_
        refine pv_iload (n := 48) d_M_file_46 rfl rfl ?_
        refine pv_callV (n := 51) (x := 0) [(0, a1), (0, a2), (0, a3), (0, a4)] [(10, 0)] (con_M_claimed hl0 h) pw_cf8 rfl q_549 q_550 q_551 q_458 q_548 pyo_M_claimed (by decide) rfl rfl (by decide) d_M_file_48 rfl (fun w34 r35 h _ => ?_) (fun _ _ h => h.elim)
        show pw_V l g cx_M_file Q X 51 [(10, 0), (0, a1), (0, a2), (0, a3), (0, a4), (0, r26), (1, 0), (1, 0)] [(0, r35), (10, 0)] w34
        refine pv_if_eq (n := 54) (tgt := 63) d_M_file_51 (by decide) rfl (fun c36 => ?_) (fun c36 => ?_)
        · replace h := h.1 c36
          refine pv_unset (i := 5) (L1 := [(10, 0), (0, a1), (0, a2), (0, a3), (0, a4), (1, 0), (1, 0), (1, 0)]) rfl ?_
          exact vjp_M_file_63 hl0 _ _ _ _ _ h
        · replace h := h.2 c36
          refine pv_aload_n (n := 55) d_M_file_54 rfl rfl rfl ?_
          refine gt_M_128 (n := 58) rfl d_M_file_55 (by decide) rfl ?_
          refine pv_bipush (v := 16) (n := 60) d_M_file_58 (by decide) rfl ?_
          refine pv_icmp_ne (n := 63) (tgt := 67) d_M_file_60 (by decide) rfl (fun c37 => ?_) (fun c37 => ?_)
          · replace h := h.1 c37
            refine pv_iconst (v := 0) (n := 68) d_M_file_67 (by decide) rfl ?_
            refine pv_unset (i := 5) (L1 := [(10, 0), (0, a1), (0, a2), (0, a3), (0, a4), (1, 0), (1, 0), (1, 0)]) rfl ?_
            exact vjp_M_file_68 hl0 _ _ _ _ _ _ h
          · replace h := h.2 c37
            refine pv_unset (i := 5) (L1 := [(10, 0), (0, a1), (0, a2), (0, a3), (0, a4), (1, 0), (1, 0), (1, 0)]) rfl ?_
            exact vjp_M_file_63 hl0 _ _ _ _ _ h
    · replace h := h.2 c30
      refine pv_iconst (v := 2) (n := 30) d_M_file_29 (by decide) rfl ?_
      refine pv_goto (tgt := 68) d_M_file_30 (by decide) ?_
      refine pv_unset (i := 5) (L1 := [(10, 0), (0, a1), (0, a2), (0, a3), (0, a4), (1, 0), (1, 0), (1, 0)]) rfl ?_
      exact vjp_M_file_68 hl0 _ _ _ _ _ _ h
  · replace h := h.2 c27
    refine pv_iconst (v := 1) (n := 17) d_M_file_16 (by decide) rfl ?_
    refine pv_goto (tgt := 68) d_M_file_17 (by decide) ?_
    refine pv_unset (i := 5) (L1 := [(10, 0), (0, a1), (0, a2), (0, a3), (0, a4), (1, 0), (1, 0), (1, 0)]) rfl ?_
    exact vjp_M_file_68 hl0 _ _ _ _ _ _ h
set_option maxHeartbeats 4000000 in
set_option maxRecDepth 20000 in
theorem con_M_file {l : Launch} {g : pw_G} {Q : pw_W → Int32 → Prop} {X : pw_W → Nat → Prop} (hl0 : l.stackTraces = false) {w : pw_W} {a1 a2 a3 a4 : Int32} (h : wp_M_file w a1 a2 a3 a4 Q X) : pw_Con l g y_M_file cx_M_file [(10, 0), (0, a1), (0, a2), (0, a3), (0, a4)] w Q X :=
  pw_con (by decide +kernel) rfl rfl hl0 rfl (Nat.le_of_ble_eq_true rfl) (by simp) (vw_M_file hl0 h)
theorem d_M_evidence_0 : decode (pw_cc cx_M_evidence) 0 = .ok (.aload_n 0, 1) := by decide +kernel
theorem d_M_evidence_1 : decode (pw_cc cx_M_evidence) 1 = .ok (.iload_n 1, 1) := by decide +kernel
theorem d_M_evidence_2 : decode (pw_cc cx_M_evidence) 2 = .ok (.invokevirtual 218, 3) := by decide +kernel
theorem d_M_evidence_5 : decode (pw_cc cx_M_evidence) 5 = .ok (.istore 4, 2) := by decide +kernel
theorem d_M_evidence_7 : decode (pw_cc cx_M_evidence) 7 = .ok (.aload_n 0, 1) := by decide +kernel
theorem d_M_evidence_8 : decode (pw_cc cx_M_evidence) 8 = .ok (.iload 4, 2) := by decide +kernel
theorem d_M_evidence_10 : decode (pw_cc cx_M_evidence) 10 = .ok (.ifCond .ne 7, 3) := by decide +kernel
theorem d_M_evidence_13 : decode (pw_cc cx_M_evidence) 13 = .ok (.iconst 1, 1) := by decide +kernel
theorem d_M_evidence_14 : decode (pw_cc cx_M_evidence) 14 = .ok (.goto 31, 3) := by decide +kernel
theorem d_M_evidence_17 : decode (pw_cc cx_M_evidence) 17 = .ok (.iload_n 3, 1) := by decide +kernel
theorem d_M_evidence_18 : decode (pw_cc cx_M_evidence) 18 = .ok (.iconst 1, 1) := by decide +kernel
theorem d_M_evidence_19 : decode (pw_cc cx_M_evidence) 19 = .ok (.bipush 9, 2) := by decide +kernel
theorem d_M_evidence_21 : decode (pw_cc cx_M_evidence) 21 = .ok (.invokestatic 124, 3) := by decide +kernel
theorem d_M_evidence_24 : decode (pw_cc cx_M_evidence) 24 = .ok (.ifCond .ne 7, 3) := by decide +kernel
theorem d_M_evidence_27 : decode (pw_cc cx_M_evidence) 27 = .ok (.iconst 2, 1) := by decide +kernel
theorem d_M_evidence_28 : decode (pw_cc cx_M_evidence) 28 = .ok (.goto 17, 3) := by decide +kernel
theorem d_M_evidence_31 : decode (pw_cc cx_M_evidence) 31 = .ok (.aload_n 0, 1) := by decide +kernel
theorem d_M_evidence_32 : decode (pw_cc cx_M_evidence) 32 = .ok (.getfield 80, 3) := by decide +kernel
theorem d_M_evidence_35 : decode (pw_cc cx_M_evidence) 35 = .ok (.iload_n 1, 1) := by decide +kernel
theorem d_M_evidence_36 : decode (pw_cc cx_M_evidence) 36 = .ok (.iaload, 1) := by decide +kernel
theorem d_M_evidence_37 : decode (pw_cc cx_M_evidence) 37 = .ok (.ifCond .eq 7, 3) := by decide +kernel
theorem d_M_evidence_40 : decode (pw_cc cx_M_evidence) 40 = .ok (.iconst 3, 1) := by decide +kernel
theorem d_M_evidence_41 : decode (pw_cc cx_M_evidence) 41 = .ok (.goto 4, 3) := by decide +kernel
theorem d_M_evidence_44 : decode (pw_cc cx_M_evidence) 44 = .ok (.iconst 0, 1) := by decide +kernel
theorem d_M_evidence_45 : decode (pw_cc cx_M_evidence) 45 = .ok (.invokevirtual 179, 3) := by decide +kernel
theorem d_M_evidence_48 : decode (pw_cc cx_M_evidence) 48 = .ok (.ifCond .ne 5, 3) := by decide +kernel
theorem d_M_evidence_51 : decode (pw_cc cx_M_evidence) 51 = .ok (.iconst 0, 1) := by decide +kernel
theorem d_M_evidence_52 : decode (pw_cc cx_M_evidence) 52 = .ok (.ireturn, 1) := by decide +kernel
theorem d_M_evidence_53 : decode (pw_cc cx_M_evidence) 53 = .ok (.aload_n 0, 1) := by decide +kernel
theorem d_M_evidence_54 : decode (pw_cc cx_M_evidence) 54 = .ok (.getfield 89, 3) := by decide +kernel
theorem d_M_evidence_57 : decode (pw_cc cx_M_evidence) 57 = .ok (.iload_n 1, 1) := by decide +kernel
theorem d_M_evidence_58 : decode (pw_cc cx_M_evidence) 58 = .ok (.dup2, 1) := by decide +kernel
theorem d_M_evidence_59 : decode (pw_cc cx_M_evidence) 59 = .ok (.iaload, 1) := by decide +kernel
theorem d_M_evidence_60 : decode (pw_cc cx_M_evidence) 60 = .ok (.iload_n 2, 1) := by decide +kernel
theorem d_M_evidence_61 : decode (pw_cc cx_M_evidence) 61 = .ok (.ifCond .eq 7, 3) := by decide +kernel
theorem d_M_evidence_64 : decode (pw_cc cx_M_evidence) 64 = .ok (.iload_n 3, 1) := by decide +kernel
theorem d_M_evidence_65 : decode (pw_cc cx_M_evidence) 65 = .ok (.goto 4, 3) := by decide +kernel
theorem d_M_evidence_68 : decode (pw_cc cx_M_evidence) 68 = .ok (.iconst 0, 1) := by decide +kernel
theorem d_M_evidence_69 : decode (pw_cc cx_M_evidence) 69 = .ok (.iadd, 1) := by decide +kernel
theorem d_M_evidence_70 : decode (pw_cc cx_M_evidence) 70 = .ok (.iastore, 1) := by decide +kernel
theorem d_M_evidence_71 : decode (pw_cc cx_M_evidence) 71 = .ok (.aload_n 0, 1) := by decide +kernel
theorem d_M_evidence_72 : decode (pw_cc cx_M_evidence) 72 = .ok (.getfield 92, 3) := by decide +kernel
theorem d_M_evidence_75 : decode (pw_cc cx_M_evidence) 75 = .ok (.iload_n 1, 1) := by decide +kernel
theorem d_M_evidence_76 : decode (pw_cc cx_M_evidence) 76 = .ok (.dup2, 1) := by decide +kernel
theorem d_M_evidence_77 : decode (pw_cc cx_M_evidence) 77 = .ok (.iaload, 1) := by decide +kernel
theorem d_M_evidence_78 : decode (pw_cc cx_M_evidence) 78 = .ok (.iload_n 2, 1) := by decide +kernel
theorem d_M_evidence_79 : decode (pw_cc cx_M_evidence) 79 = .ok (.ifCond .eq 7, 3) := by decide +kernel
theorem d_M_evidence_82 : decode (pw_cc cx_M_evidence) 82 = .ok (.iconst 0, 1) := by decide +kernel
theorem d_M_evidence_83 : decode (pw_cc cx_M_evidence) 83 = .ok (.goto 4, 3) := by decide +kernel
theorem d_M_evidence_86 : decode (pw_cc cx_M_evidence) 86 = .ok (.iload_n 3, 1) := by decide +kernel
theorem d_M_evidence_87 : decode (pw_cc cx_M_evidence) 87 = .ok (.iadd, 1) := by decide +kernel
theorem d_M_evidence_88 : decode (pw_cc cx_M_evidence) 88 = .ok (.iastore, 1) := by decide +kernel
theorem d_M_evidence_89 : decode (pw_cc cx_M_evidence) 89 = .ok (.iload_n 2, 1) := by decide +kernel
theorem d_M_evidence_90 : decode (pw_cc cx_M_evidence) 90 = .ok (.ifCond .eq 12, 3) := by decide +kernel
theorem d_M_evidence_93 : decode (pw_cc cx_M_evidence) 93 = .ok (.aload_n 0, 1) := by decide +kernel
theorem d_M_evidence_94 : decode (pw_cc cx_M_evidence) 94 = .ok (.getfield 89, 3) := by decide +kernel
theorem d_M_evidence_97 : decode (pw_cc cx_M_evidence) 97 = .ok (.iload_n 1, 1) := by decide +kernel
theorem d_M_evidence_98 : decode (pw_cc cx_M_evidence) 98 = .ok (.iaload, 1) := by decide +kernel
theorem d_M_evidence_99 : decode (pw_cc cx_M_evidence) 99 = .ok (.goto 9, 3) := by decide +kernel
theorem d_M_evidence_102 : decode (pw_cc cx_M_evidence) 102 = .ok (.aload_n 0, 1) := by decide +kernel
theorem d_M_evidence_103 : decode (pw_cc cx_M_evidence) 103 = .ok (.getfield 92, 3) := by decide +kernel
theorem d_M_evidence_106 : decode (pw_cc cx_M_evidence) 106 = .ok (.iload_n 1, 1) := by decide +kernel
theorem d_M_evidence_107 : decode (pw_cc cx_M_evidence) 107 = .ok (.iaload, 1) := by decide +kernel
theorem d_M_evidence_108 : decode (pw_cc cx_M_evidence) 108 = .ok (.ireturn, 1) := by decide +kernel
set_option maxHeartbeats 4000000 in
set_option maxRecDepth 20000 in
def jp_M_evidence_87 (Q : pw_W → Int32 → Prop) (X : pw_W → Nat → Prop) (a1 a2 s0 s1 s2 : Int32) (w : pw_W) : Prop := pw_jn s2 (pw_ln w 236 0) ∧ ∀ w2, w2 = pw_ps w 236 0 (pw_i s2) (s1 + s0) → (a2 = 0 → w2.1 8 0 36 = 0 ∧ pw_jn a1 (pw_ln w2 236 0) ∧ Q w2 (w2.1 236 0 (pw_i a1))) ∧ (¬ a2 = 0 → w2.1 8 0 35 = 0 ∧ pw_jn a1 (pw_ln w2 235 0) ∧ Q w2 (w2.1 235 0 (pw_i a1)))
set_option maxHeartbeats 4000000 in
set_option maxRecDepth 20000 in
theorem vjp_M_evidence_87 {l : Launch} {g : pw_G} {Q : pw_W → Int32 → Prop} {X : pw_W → Nat → Prop} (hl0 : l.stackTraces = false) (a1 a2 s0 s1 s2 : Int32) (w : pw_W) (h : jp_M_evidence_87 Q X a1 a2 s0 s1 s2 w) : pw_V l g cx_M_evidence Q X 87 [(10, 0), (0, a1), (0, a2), (1, 0), (1, 0)] [(0, s0), (0, s1), (0, s2), (238, 0)] w := by
  unfold jp_M_evidence_87 at h
  refine pv_iadd (n := 88) d_M_evidence_87 rfl ?_
  obtain ⟨g1, h⟩ := h
  refine pv_iast1 (n := 89) (f := 236) (by decide) rfl (fun _ => rfl) d_M_evidence_88 (by decide) g1 rfl (fun w2 e3 => ?_)
  replace h := h w2 e3
  refine pv_iload_n (n := 90) d_M_evidence_89 rfl rfl rfl ?_
  refine pv_if_eq (n := 93) (tgt := 102) d_M_evidence_90 (by decide) rfl (fun c4 => ?_) (fun c4 => ?_)
  · replace h := h.1 c4
    refine pv_aload_n (n := 103) d_M_evidence_102 rfl rfl rfl ?_
    obtain ⟨g5, h⟩ := h
    refine gt_M_92 (n := 106) rfl d_M_evidence_103 (by decide) g5 rfl ?_
    refine pv_iload_n (n := 107) d_M_evidence_106 rfl rfl rfl ?_
    obtain ⟨g6, h⟩ := h
    refine pv_iald (n := 108) (f := 236) (by decide) rfl d_M_evidence_107 (by decide) g6 rfl ?_
    exact pv_iret rfl rfl d_M_evidence_108 h
  · replace h := h.2 c4
    refine pv_aload_n (n := 94) d_M_evidence_93 rfl rfl rfl ?_
    obtain ⟨g7, h⟩ := h
    refine gt_M_89 (n := 97) rfl d_M_evidence_94 (by decide) g7 rfl ?_
    refine pv_iload_n (n := 98) d_M_evidence_97 rfl rfl rfl ?_
    obtain ⟨g8, h⟩ := h
    refine pv_iald (n := 99) (f := 235) (by decide) rfl d_M_evidence_98 (by decide) g8 rfl ?_
    refine pv_goto (tgt := 108) d_M_evidence_99 (by decide) ?_
    exact pv_iret rfl rfl d_M_evidence_108 h
set_option maxHeartbeats 4000000 in
set_option maxRecDepth 20000 in
def jp_M_evidence_69 (Q : pw_W → Int32 → Prop) (X : pw_W → Nat → Prop) (a1 a2 a3 s0 s1 s2 : Int32) (w : pw_W) : Prop := pw_jn s2 (pw_ln w 235 0) ∧ ∀ w10, w10 = pw_ps w 235 0 (pw_i s2) (s1 + s0) → w10.1 8 0 36 = 0 ∧ pw_jn a1 (pw_ln w10 236 0) ∧ (a2 = 0 → jp_M_evidence_87 Q X a1 a2 a3 (w10.1 236 0 (pw_i a1)) a1 w10) ∧ (¬ a2 = 0 → jp_M_evidence_87 Q X a1 a2 0 (w10.1 236 0 (pw_i a1)) a1 w10)
set_option maxHeartbeats 4000000 in
set_option maxRecDepth 20000 in
theorem vjp_M_evidence_69 {l : Launch} {g : pw_G} {Q : pw_W → Int32 → Prop} {X : pw_W → Nat → Prop} (hl0 : l.stackTraces = false) (a1 a2 a3 s0 s1 s2 : Int32) (w : pw_W) (h : jp_M_evidence_69 Q X a1 a2 a3 s0 s1 s2 w) : pw_V l g cx_M_evidence Q X 69 [(10, 0), (0, a1), (0, a2), (0, a3), (1, 0)] [(0, s0), (0, s1), (0, s2), (237, 0)] w := by
  unfold jp_M_evidence_69 at h
  refine pv_iadd (n := 70) d_M_evidence_69 rfl ?_
  obtain ⟨g9, h⟩ := h
  refine pv_iast1 (n := 71) (f := 235) (by decide) rfl (fun _ => rfl) d_M_evidence_70 (by decide) g9 rfl (fun w10 e11 => ?_)
  replace h := h w10 e11
  refine pv_aload_n (n := 72) d_M_evidence_71 rfl rfl rfl ?_
  obtain ⟨g12, h⟩ := h
  refine gt_M_92 (n := 75) rfl d_M_evidence_72 (by decide) g12 rfl ?_
  refine pv_iload_n (n := 76) d_M_evidence_75 rfl rfl rfl ?_
  refine pv_dup2 (n := 77) d_M_evidence_76 (by decide) (by decide) rfl ?_
  obtain ⟨g13, h⟩ := h
  refine pv_iald (n := 78) (f := 236) (by decide) rfl d_M_evidence_77 (by decide) g13 rfl ?_
  refine pv_iload_n (n := 79) d_M_evidence_78 rfl rfl rfl ?_
  refine pv_if_eq (n := 82) (tgt := 86) d_M_evidence_79 (by decide) rfl (fun c14 => ?_) (fun c14 => ?_)
  · replace h := h.1 c14
    refine pv_iload_n (n := 87) d_M_evidence_86 rfl rfl rfl ?_
    refine pv_unset (i := 3) (L1 := [(10, 0), (0, a1), (0, a2), (1, 0), (1, 0)]) rfl ?_
    exact vjp_M_evidence_87 hl0 _ _ _ _ _ _ h
  · replace h := h.2 c14
    refine pv_iconst (v := 0) (n := 83) d_M_evidence_82 (by decide) rfl ?_
    refine pv_goto (tgt := 87) d_M_evidence_83 (by decide) ?_
    refine pv_unset (i := 3) (L1 := [(10, 0), (0, a1), (0, a2), (1, 0), (1, 0)]) rfl ?_
    exact vjp_M_evidence_87 hl0 _ _ _ _ _ _ h
set_option maxHeartbeats 4000000 in
set_option maxRecDepth 20000 in
def jp_M_evidence_45 (Q : pw_W → Int32 → Prop) (X : pw_W → Nat → Prop) (a1 a2 a3 s0 : Int32) (w : pw_W) : Prop := wp_M_isFine w s0 (fun w15 r16 => (¬ r16 = 0 → w15.1 8 0 35 = 0 ∧ pw_jn a1 (pw_ln w15 235 0) ∧ (a2 = 0 → jp_M_evidence_69 Q X a1 a2 a3 0 (w15.1 235 0 (pw_i a1)) a1 w15) ∧ (¬ a2 = 0 → jp_M_evidence_69 Q X a1 a2 a3 a3 (w15.1 235 0 (pw_i a1)) a1 w15)) ∧ (r16 = 0 → Q w15 0)) (fun _ _ => False)
set_option maxHeartbeats 4000000 in
set_option maxRecDepth 20000 in
theorem vjp_M_evidence_45 {l : Launch} {g : pw_G} {Q : pw_W → Int32 → Prop} {X : pw_W → Nat → Prop} (hl0 : l.stackTraces = false) (a1 a2 a3 s0 : Int32) (w : pw_W) (h : jp_M_evidence_45 Q X a1 a2 a3 s0 w) : pw_V l g cx_M_evidence Q X 45 [(10, 0), (0, a1), (0, a2), (0, a3), (1, 0)] [(0, s0), (10, 0)] w := by
  unfold jp_M_evidence_45 at h
  refine pv_callV (n := 48) (x := 0) [(0, s0)] [] (con_M_isFine hl0 h) pw_cf8 rfl q_506 q_507 q_508 q_458 q_505 pyo_M_isFine (by decide) rfl rfl (by decide) d_M_evidence_45 rfl (fun w15 r16 h _ => ?_) (fun _ _ h => h.elim)
  show pw_V l g cx_M_evidence Q X 48 [(10, 0), (0, a1), (0, a2), (0, a3), (1, 0)] [(0, r16)] w15
  refine pv_if_ne (n := 51) (tgt := 53) d_M_evidence_48 (by decide) rfl (fun c17 => ?_) (fun c17 => ?_)
  · replace h := h.1 c17
    refine pv_aload_n (n := 54) d_M_evidence_53 rfl rfl rfl ?_
    obtain ⟨g18, h⟩ := h
    refine gt_M_89 (n := 57) rfl d_M_evidence_54 (by decide) g18 rfl ?_
    refine pv_iload_n (n := 58) d_M_evidence_57 rfl rfl rfl ?_
    refine pv_dup2 (n := 59) d_M_evidence_58 (by decide) (by decide) rfl ?_
    obtain ⟨g19, h⟩ := h
    refine pv_iald (n := 60) (f := 235) (by decide) rfl d_M_evidence_59 (by decide) g19 rfl ?_
    refine pv_iload_n (n := 61) d_M_evidence_60 rfl rfl rfl ?_
    refine pv_if_eq (n := 64) (tgt := 68) d_M_evidence_61 (by decide) rfl (fun c20 => ?_) (fun c20 => ?_)
    · replace h := h.1 c20
      refine pv_iconst (v := 0) (n := 69) d_M_evidence_68 (by decide) rfl ?_
      exact vjp_M_evidence_69 hl0 _ _ _ _ _ _ _ h
    · replace h := h.2 c20
      refine pv_iload_n (n := 65) d_M_evidence_64 rfl rfl rfl ?_
      refine pv_goto (tgt := 69) d_M_evidence_65 (by decide) ?_
      exact vjp_M_evidence_69 hl0 _ _ _ _ _ _ _ h
  · replace h := h.2 c17
    refine pv_iconst (v := 0) (n := 52) d_M_evidence_51 (by decide) rfl ?_
    exact pv_iret rfl rfl d_M_evidence_52 h
set_option maxHeartbeats 4000000 in
set_option maxRecDepth 20000 in
def wp_M_evidence (w : pw_W) (a1 a2 a3 : Int32) (Q : pw_W → Int32 → Prop) (X : pw_W → Nat → Prop) : Prop := wp_M_isCase w a1 (fun w21 r22 => (¬ r22 = 0 → wp_M_isIn w21 a3 1 9 (fun w24 r25 => (¬ r25 = 0 → w24.1 8 0 32 = 0 ∧ pw_jn a1 (pw_ln w24 232 0) ∧ ((w24.1 232 0 (pw_i a1)) = 0 → jp_M_evidence_45 Q X a1 a2 a3 0 w24) ∧ (¬ (w24.1 232 0 (pw_i a1)) = 0 → jp_M_evidence_45 Q X a1 a2 a3 3 w24)) ∧ (r25 = 0 → jp_M_evidence_45 Q X a1 a2 a3 2 w24)) (fun _ _ => False)) ∧ (r22 = 0 → jp_M_evidence_45 Q X a1 a2 a3 1 w21)) (fun _ _ => False)
set_option maxHeartbeats 4000000 in
set_option maxRecDepth 20000 in
theorem vw_M_evidence {l : Launch} {g : pw_G} {Q : pw_W → Int32 → Prop} {X : pw_W → Nat → Prop} (hl0 : l.stackTraces = false) {w : pw_W} {a1 a2 a3 : Int32} (h : wp_M_evidence w a1 a2 a3 Q X) : pw_V l g cx_M_evidence Q X 0 [(10, 0), (0, a1), (0, a2), (0, a3), (1, 0)] [] w := by
  unfold wp_M_evidence at h
  refine pv_aload_n (n := 1) d_M_evidence_0 rfl rfl rfl ?_
  refine pv_iload_n (n := 2) d_M_evidence_1 rfl rfl rfl ?_
  refine pv_callV (n := 5) (x := 0) [(0, a1)] [] (con_M_isCase hl0 h) pw_cf8 rfl q_553 q_554 q_555 q_458 q_552 pyo_M_isCase (by decide) rfl rfl (by decide) d_M_evidence_2 rfl (fun w21 r22 h _ => ?_) (fun _ _ h => h.elim)
  show pw_V l g cx_M_evidence Q X 5 [(10, 0), (0, a1), (0, a2), (0, a3), (1, 0)] [(0, r22)] w21
  refine pv_istore (n := 7) (L' := [(10, 0), (0, a1), (0, a2), (0, a3), (0, r22)]) d_M_evidence_5 (by decide) rfl rfl ?_
  refine pv_aload_n (n := 8) d_M_evidence_7 rfl rfl rfl ?_
  refine pv_iload (n := 10) d_M_evidence_8 rfl rfl ?_
  refine pv_if_ne (n := 13) (tgt := 17) d_M_evidence_10 (by decide) rfl (fun c23 => ?_) (fun c23 => ?_)
  · replace h := h.1 c23
    refine pv_iload_n (n := 18) d_M_evidence_17 rfl rfl rfl ?_
    refine pv_iconst (v := 1) (n := 19) d_M_evidence_18 (by decide) rfl ?_
    refine pv_bipush (v := 9) (n := 21) d_M_evidence_19 (by decide) rfl ?_
    refine pv_callS (n := 24) [(0, a3), (0, 1), (0, 9)] [(10, 0)] (con_M_isIn hl0 h) q_459 q_460 q_458 q_457 pyo_M_isIn (by decide) rfl rfl d_M_evidence_21 rfl (fun w24 r25 h _ => ?_) (fun _ _ h => h.elim)
    show pw_V l g cx_M_evidence Q X 24 [(10, 0), (0, a1), (0, a2), (0, a3), (0, r22)] [(0, r25), (10, 0)] w24
    refine pv_if_ne (n := 27) (tgt := 31) d_M_evidence_24 (by decide) rfl (fun c26 => ?_) (fun c26 => ?_)
    · replace h := h.1 c26
      refine pv_aload_n (n := 32) d_M_evidence_31 rfl rfl rfl ?_
      obtain ⟨g27, h⟩ := h
      refine gt_M_80 (n := 35) rfl d_M_evidence_32 (by decide) g27 rfl ?_
      refine pv_iload_n (n := 36) d_M_evidence_35 rfl rfl rfl ?_
      obtain ⟨g28, h⟩ := h
      refine pv_iald (n := 37) (f := 232) (by decide) rfl d_M_evidence_36 (by decide) g28 rfl ?_
      refine pv_if_eq (n := 40) (tgt := 44) d_M_evidence_37 (by decide) rfl (fun c29 => ?_) (fun c29 => ?_)
      · replace h := h.1 c29
        refine pv_iconst (v := 0) (n := 45) d_M_evidence_44 (by decide) rfl ?_
        refine pv_unset (i := 4) (L1 := [(10, 0), (0, a1), (0, a2), (0, a3), (1, 0)]) rfl ?_
        exact vjp_M_evidence_45 hl0 _ _ _ _ _ h
      · replace h := h.2 c29
        refine pv_iconst (v := 3) (n := 41) d_M_evidence_40 (by decide) rfl ?_
        refine pv_goto (tgt := 45) d_M_evidence_41 (by decide) ?_
        refine pv_unset (i := 4) (L1 := [(10, 0), (0, a1), (0, a2), (0, a3), (1, 0)]) rfl ?_
        exact vjp_M_evidence_45 hl0 _ _ _ _ _ h
    · replace h := h.2 c26
      refine pv_iconst (v := 2) (n := 28) d_M_evidence_27 (by decide) rfl ?_
      refine pv_goto (tgt := 45) d_M_evidence_28 (by decide) ?_
      refine pv_unset (i := 4) (L1 := [(10, 0), (0, a1), (0, a2), (0, a3), (1, 0)]) rfl ?_
      exact vjp_M_evidence_45 hl0 _ _ _ _ _ h
  · replace h := h.2 c23
    refine pv_iconst (v := 1) (n := 14) d_M_evidence_13 (by decide) rfl ?_
    refine pv_goto (tgt := 45) d_M_evidence_14 (by decide) ?_
    refine pv_unset (i := 4) (L1 := [(10, 0), (0, a1), (0, a2), (0, a3), (1, 0)]) rfl ?_
    exact vjp_M_evidence_45 hl0 _ _ _ _ _ h
set_option maxHeartbeats 4000000 in
set_option maxRecDepth 20000 in
theorem con_M_evidence {l : Launch} {g : pw_G} {Q : pw_W → Int32 → Prop} {X : pw_W → Nat → Prop} (hl0 : l.stackTraces = false) {w : pw_W} {a1 a2 a3 : Int32} (h : wp_M_evidence w a1 a2 a3 Q X) : pw_Con l g y_M_evidence cx_M_evidence [(10, 0), (0, a1), (0, a2), (0, a3)] w Q X :=
  pw_con (by decide +kernel) rfl rfl hl0 rfl (Nat.le_of_ble_eq_true rfl) (by simp) (vw_M_evidence hl0 h)
theorem d_M_gets_0 : decode (pw_cc cx_M_gets) 0 = .ok (.aload_n 0, 1) := by decide +kernel
theorem d_M_gets_1 : decode (pw_cc cx_M_gets) 1 = .ok (.getfield 28, 3) := by decide +kernel
theorem d_M_gets_4 : decode (pw_cc cx_M_gets) 4 = .ok (.iload_n 2, 1) := by decide +kernel
theorem d_M_gets_5 : decode (pw_cc cx_M_gets) 5 = .ok (.iaload, 1) := by decide +kernel
theorem d_M_gets_6 : decode (pw_cc cx_M_gets) 6 = .ok (.iconst (-1), 1) := by decide +kernel
theorem d_M_gets_7 : decode (pw_cc cx_M_gets) 7 = .ok (.if_icmp .eq 37, 3) := by decide +kernel
theorem d_M_gets_10 : decode (pw_cc cx_M_gets) 10 = .ok (.aload_n 0, 1) := by decide +kernel
theorem d_M_gets_11 : decode (pw_cc cx_M_gets) 11 = .ok (.getfield 28, 3) := by decide +kernel
theorem d_M_gets_14 : decode (pw_cc cx_M_gets) 14 = .ok (.iload_n 2, 1) := by decide +kernel
theorem d_M_gets_15 : decode (pw_cc cx_M_gets) 15 = .ok (.iaload, 1) := by decide +kernel
theorem d_M_gets_16 : decode (pw_cc cx_M_gets) 16 = .ok (.iload_n 1, 1) := by decide +kernel
theorem d_M_gets_17 : decode (pw_cc cx_M_gets) 17 = .ok (.if_icmp .eq 27, 3) := by decide +kernel
theorem d_M_gets_20 : decode (pw_cc cx_M_gets) 20 = .ok (.aload_n 0, 1) := by decide +kernel
theorem d_M_gets_21 : decode (pw_cc cx_M_gets) 21 = .ok (.getfield 86, 3) := by decide +kernel
theorem d_M_gets_24 : decode (pw_cc cx_M_gets) 24 = .ok (.aload_n 0, 1) := by decide +kernel
theorem d_M_gets_25 : decode (pw_cc cx_M_gets) 25 = .ok (.getfield 28, 3) := by decide +kernel
theorem d_M_gets_28 : decode (pw_cc cx_M_gets) 28 = .ok (.iload_n 2, 1) := by decide +kernel
theorem d_M_gets_29 : decode (pw_cc cx_M_gets) 29 = .ok (.iaload, 1) := by decide +kernel
theorem d_M_gets_30 : decode (pw_cc cx_M_gets) 30 = .ok (.iaload, 1) := by decide +kernel
theorem d_M_gets_31 : decode (pw_cc cx_M_gets) 31 = .ok (.aload_n 0, 1) := by decide +kernel
theorem d_M_gets_32 : decode (pw_cc cx_M_gets) 32 = .ok (.getfield 83, 3) := by decide +kernel
theorem d_M_gets_35 : decode (pw_cc cx_M_gets) 35 = .ok (.iload_n 1, 1) := by decide +kernel
theorem d_M_gets_36 : decode (pw_cc cx_M_gets) 36 = .ok (.iaload, 1) := by decide +kernel
theorem d_M_gets_37 : decode (pw_cc cx_M_gets) 37 = .ok (.if_icmp .le 7, 3) := by decide +kernel
theorem d_M_gets_40 : decode (pw_cc cx_M_gets) 40 = .ok (.iconst 1, 1) := by decide +kernel
theorem d_M_gets_41 : decode (pw_cc cx_M_gets) 41 = .ok (.goto 4, 3) := by decide +kernel
theorem d_M_gets_44 : decode (pw_cc cx_M_gets) 44 = .ok (.iconst 0, 1) := by decide +kernel
theorem d_M_gets_45 : decode (pw_cc cx_M_gets) 45 = .ok (.istore_n 3, 1) := by decide +kernel
theorem d_M_gets_46 : decode (pw_cc cx_M_gets) 46 = .ok (.aload_n 0, 1) := by decide +kernel
theorem d_M_gets_47 : decode (pw_cc cx_M_gets) 47 = .ok (.getfield 95, 3) := by decide +kernel
theorem d_M_gets_50 : decode (pw_cc cx_M_gets) 50 = .ok (.bipush 100, 2) := by decide +kernel
theorem d_M_gets_52 : decode (pw_cc cx_M_gets) 52 = .ok (.iload_n 1, 1) := by decide +kernel
theorem d_M_gets_53 : decode (pw_cc cx_M_gets) 53 = .ok (.imul, 1) := by decide +kernel
theorem d_M_gets_54 : decode (pw_cc cx_M_gets) 54 = .ok (.iload_n 2, 1) := by decide +kernel
theorem d_M_gets_55 : decode (pw_cc cx_M_gets) 55 = .ok (.iadd, 1) := by decide +kernel
theorem d_M_gets_56 : decode (pw_cc cx_M_gets) 56 = .ok (.baload, 1) := by decide +kernel
theorem d_M_gets_57 : decode (pw_cc cx_M_gets) 57 = .ok (.ifCond .eq 31, 3) := by decide +kernel
theorem d_M_gets_60 : decode (pw_cc cx_M_gets) 60 = .ok (.aload_n 0, 1) := by decide +kernel
theorem d_M_gets_61 : decode (pw_cc cx_M_gets) 61 = .ok (.getfield 40, 3) := by decide +kernel
theorem d_M_gets_64 : decode (pw_cc cx_M_gets) 64 = .ok (.aload_n 0, 1) := by decide +kernel
theorem d_M_gets_65 : decode (pw_cc cx_M_gets) 65 = .ok (.getfield 16, 3) := by decide +kernel
theorem d_M_gets_68 : decode (pw_cc cx_M_gets) 68 = .ok (.iload_n 2, 1) := by decide +kernel
theorem d_M_gets_69 : decode (pw_cc cx_M_gets) 69 = .ok (.iaload, 1) := by decide +kernel
theorem d_M_gets_70 : decode (pw_cc cx_M_gets) 70 = .ok (.iaload, 1) := by decide +kernel
theorem d_M_gets_71 : decode (pw_cc cx_M_gets) 71 = .ok (.aload_n 0, 1) := by decide +kernel
theorem d_M_gets_72 : decode (pw_cc cx_M_gets) 72 = .ok (.getfield 77, 3) := by decide +kernel
theorem d_M_gets_75 : decode (pw_cc cx_M_gets) 75 = .ok (.iload_n 1, 1) := by decide +kernel
theorem d_M_gets_76 : decode (pw_cc cx_M_gets) 76 = .ok (.iaload, 1) := by decide +kernel
theorem d_M_gets_77 : decode (pw_cc cx_M_gets) 77 = .ok (.if_icmp .eq 11, 3) := by decide +kernel
theorem d_M_gets_80 : decode (pw_cc cx_M_gets) 80 = .ok (.iload_n 3, 1) := by decide +kernel
theorem d_M_gets_81 : decode (pw_cc cx_M_gets) 81 = .ok (.ifCond .ne 7, 3) := by decide +kernel
theorem d_M_gets_84 : decode (pw_cc cx_M_gets) 84 = .ok (.iconst 1, 1) := by decide +kernel
theorem d_M_gets_85 : decode (pw_cc cx_M_gets) 85 = .ok (.goto 4, 3) := by decide +kernel
theorem d_M_gets_88 : decode (pw_cc cx_M_gets) 88 = .ok (.iconst 0, 1) := by decide +kernel
theorem d_M_gets_89 : decode (pw_cc cx_M_gets) 89 = .ok (.ireturn, 1) := by decide +kernel
set_option maxHeartbeats 4000000 in
set_option maxRecDepth 20000 in
def jp_M_gets_45 (Q : pw_W → Int32 → Prop) (X : pw_W → Nat → Prop) (a1 a2 s0 : Int32) (w : pw_W) : Prop := w.1 8 0 37 = 0 ∧ pw_jn (((100 : Int32) * a1) + a2) (pw_ln w 237 0) ∧ ((w.1 237 0 (pw_i (((100 : Int32) * a1) + a2))) = 0 → Q w 0) ∧ (¬ (w.1 237 0 (pw_i (((100 : Int32) * a1) + a2))) = 0 → w.1 8 0 16 = 0 ∧ w.1 8 0 8 = 0 ∧ pw_jn a2 (pw_ln w 208 0) ∧ pw_jn (w.1 208 0 (pw_i a2)) (pw_ln w 216 0) ∧ w.1 8 0 31 = 0 ∧ pw_jn a1 (pw_ln w 231 0) ∧ ((w.1 216 0 (pw_i (w.1 208 0 (pw_i a2)))) = (w.1 231 0 (pw_i a1)) → Q w 0) ∧ (¬ (w.1 216 0 (pw_i (w.1 208 0 (pw_i a2)))) = (w.1 231 0 (pw_i a1)) → (¬ s0 = 0 → Q w 0) ∧ (s0 = 0 → Q w 1)))
set_option maxHeartbeats 4000000 in
set_option maxRecDepth 20000 in
theorem vjp_M_gets_45 {l : Launch} {g : pw_G} {Q : pw_W → Int32 → Prop} {X : pw_W → Nat → Prop} (hl0 : l.stackTraces = false) (a1 a2 s0 : Int32) (w : pw_W) (h : jp_M_gets_45 Q X a1 a2 s0 w) : pw_V l g cx_M_gets Q X 45 [(10, 0), (0, a1), (0, a2), (1, 0)] [(0, s0)] w := by
  unfold jp_M_gets_45 at h
  refine pv_istore_n (n := 46) (L' := [(10, 0), (0, a1), (0, a2), (0, s0)]) d_M_gets_45 rfl (by decide) rfl rfl ?_
  refine pv_aload_n (n := 47) d_M_gets_46 rfl rfl rfl ?_
  obtain ⟨g1, h⟩ := h
  refine gt_M_95 (n := 50) rfl d_M_gets_47 (by decide) g1 rfl ?_
  refine pv_bipush (v := 100) (n := 52) d_M_gets_50 (by decide) rfl ?_
  refine pv_iload_n (n := 53) d_M_gets_52 rfl rfl rfl ?_
  refine pv_imul (n := 54) d_M_gets_53 rfl ?_
  refine pv_iload_n (n := 55) d_M_gets_54 rfl rfl rfl ?_
  refine pv_iadd (n := 56) d_M_gets_55 rfl ?_
  obtain ⟨g2, h⟩ := h
  refine pv_zald (n := 57) (f := 237) (by decide) rfl d_M_gets_56 (by decide) g2 rfl ?_
  refine pv_if_eq (n := 60) (tgt := 88) d_M_gets_57 (by decide) rfl (fun c3 => ?_) (fun c3 => ?_)
  · replace h := h.1 c3
    refine pv_iconst (v := 0) (n := 89) d_M_gets_88 (by decide) rfl ?_
    exact pv_zret rfl rfl d_M_gets_89 (by decide) h
  · replace h := h.2 c3
    refine pv_aload_n (n := 61) d_M_gets_60 rfl rfl rfl ?_
    obtain ⟨g4, h⟩ := h
    refine gt_M_40 (n := 64) rfl d_M_gets_61 (by decide) g4 rfl ?_
    refine pv_aload_n (n := 65) d_M_gets_64 rfl rfl rfl ?_
    obtain ⟨g5, h⟩ := h
    refine gt_M_16 (n := 68) rfl d_M_gets_65 (by decide) g5 rfl ?_
    refine pv_iload_n (n := 69) d_M_gets_68 rfl rfl rfl ?_
    obtain ⟨g6, h⟩ := h
    refine pv_iald (n := 70) (f := 208) (by decide) rfl d_M_gets_69 (by decide) g6 rfl ?_
    obtain ⟨g7, h⟩ := h
    refine pv_iald (n := 71) (f := 216) (by decide) rfl d_M_gets_70 (by decide) g7 rfl ?_
    refine pv_aload_n (n := 72) d_M_gets_71 rfl rfl rfl ?_
    obtain ⟨g8, h⟩ := h
    refine gt_M_77 (n := 75) rfl d_M_gets_72 (by decide) g8 rfl ?_
    refine pv_iload_n (n := 76) d_M_gets_75 rfl rfl rfl ?_
    obtain ⟨g9, h⟩ := h
    refine pv_iald (n := 77) (f := 231) (by decide) rfl d_M_gets_76 (by decide) g9 rfl ?_
    refine pv_icmp_eq (n := 80) (tgt := 88) d_M_gets_77 (by decide) rfl (fun c10 => ?_) (fun c10 => ?_)
    · replace h := h.1 c10
      refine pv_iconst (v := 0) (n := 89) d_M_gets_88 (by decide) rfl ?_
      exact pv_zret rfl rfl d_M_gets_89 (by decide) h
    · replace h := h.2 c10
      refine pv_iload_n (n := 81) d_M_gets_80 rfl rfl rfl ?_
      refine pv_if_ne (n := 84) (tgt := 88) d_M_gets_81 (by decide) rfl (fun c11 => ?_) (fun c11 => ?_)
      · replace h := h.1 c11
        refine pv_iconst (v := 0) (n := 89) d_M_gets_88 (by decide) rfl ?_
        exact pv_zret rfl rfl d_M_gets_89 (by decide) h
      · replace h := h.2 c11
        refine pv_iconst (v := 1) (n := 85) d_M_gets_84 (by decide) rfl ?_
        refine pv_goto (tgt := 89) d_M_gets_85 (by decide) ?_
        exact pv_zret rfl rfl d_M_gets_89 (by decide) h
set_option maxHeartbeats 4000000 in
set_option maxRecDepth 20000 in
def jp_M_gets_44 (Q : pw_W → Int32 → Prop) (X : pw_W → Nat → Prop) (a1 a2 : Int32) (w : pw_W) : Prop := jp_M_gets_45 Q X a1 a2 0 w
set_option maxHeartbeats 4000000 in
set_option maxRecDepth 20000 in
theorem vjp_M_gets_44 {l : Launch} {g : pw_G} {Q : pw_W → Int32 → Prop} {X : pw_W → Nat → Prop} (hl0 : l.stackTraces = false) (a1 a2 : Int32) (w : pw_W) (h : jp_M_gets_44 Q X a1 a2 w) : pw_V l g cx_M_gets Q X 44 [(10, 0), (0, a1), (0, a2), (1, 0)] [] w := by
  unfold jp_M_gets_44 at h
  refine pv_iconst (v := 0) (n := 45) d_M_gets_44 (by decide) rfl ?_
  exact vjp_M_gets_45 hl0 _ _ _ _ h
set_option maxHeartbeats 4000000 in
set_option maxRecDepth 20000 in
def wp_M_gets (w : pw_W) (a1 a2 : Int32) (Q : pw_W → Int32 → Prop) (X : pw_W → Nat → Prop) : Prop := w.1 8 0 12 = 0 ∧ pw_jn a2 (pw_ln w 212 0) ∧ ((w.1 212 0 (pw_i a2)) = (-1) → jp_M_gets_44 Q X a1 a2 w) ∧ (¬ (w.1 212 0 (pw_i a2)) = (-1) → w.1 8 0 12 = 0 ∧ pw_jn a2 (pw_ln w 212 0) ∧ ((w.1 212 0 (pw_i a2)) = a1 → jp_M_gets_44 Q X a1 a2 w) ∧ (¬ (w.1 212 0 (pw_i a2)) = a1 → w.1 8 0 34 = 0 ∧ w.1 8 0 12 = 0 ∧ pw_jn a2 (pw_ln w 212 0) ∧ pw_jn (w.1 212 0 (pw_i a2)) (pw_ln w 234 0) ∧ w.1 8 0 33 = 0 ∧ pw_jn a1 (pw_ln w 233 0) ∧ ((w.1 234 0 (pw_i (w.1 212 0 (pw_i a2)))) ≤ (w.1 233 0 (pw_i a1)) → jp_M_gets_44 Q X a1 a2 w) ∧ (¬ (w.1 234 0 (pw_i (w.1 212 0 (pw_i a2)))) ≤ (w.1 233 0 (pw_i a1)) → jp_M_gets_45 Q X a1 a2 1 w)))
set_option maxHeartbeats 4000000 in
set_option maxRecDepth 20000 in
theorem vw_M_gets {l : Launch} {g : pw_G} {Q : pw_W → Int32 → Prop} {X : pw_W → Nat → Prop} (hl0 : l.stackTraces = false) {w : pw_W} {a1 a2 : Int32} (h : wp_M_gets w a1 a2 Q X) : pw_V l g cx_M_gets Q X 0 [(10, 0), (0, a1), (0, a2), (1, 0)] [] w := by
  unfold wp_M_gets at h
  refine pv_aload_n (n := 1) d_M_gets_0 rfl rfl rfl ?_
  obtain ⟨g12, h⟩ := h
  refine gt_M_28 (n := 4) rfl d_M_gets_1 (by decide) g12 rfl ?_
  refine pv_iload_n (n := 5) d_M_gets_4 rfl rfl rfl ?_
  obtain ⟨g13, h⟩ := h
  refine pv_iald (n := 6) (f := 212) (by decide) rfl d_M_gets_5 (by decide) g13 rfl ?_
  refine pv_iconst (v := -1) (n := 7) d_M_gets_6 (by decide) rfl ?_
  refine pv_icmp_eq (n := 10) (tgt := 44) d_M_gets_7 (by decide) rfl (fun c14 => ?_) (fun c14 => ?_)
  · replace h := h.1 c14
    exact vjp_M_gets_44 hl0 _ _ _ h
  · replace h := h.2 c14
    refine pv_aload_n (n := 11) d_M_gets_10 rfl rfl rfl ?_
    obtain ⟨g15, h⟩ := h
    refine gt_M_28 (n := 14) rfl d_M_gets_11 (by decide) g15 rfl ?_
    refine pv_iload_n (n := 15) d_M_gets_14 rfl rfl rfl ?_
    obtain ⟨g16, h⟩ := h
    refine pv_iald (n := 16) (f := 212) (by decide) rfl d_M_gets_15 (by decide) g16 rfl ?_
    refine pv_iload_n (n := 17) d_M_gets_16 rfl rfl rfl ?_
    refine pv_icmp_eq (n := 20) (tgt := 44) d_M_gets_17 (by decide) rfl (fun c17 => ?_) (fun c17 => ?_)
    · replace h := h.1 c17
      exact vjp_M_gets_44 hl0 _ _ _ h
    · replace h := h.2 c17
      refine pv_aload_n (n := 21) d_M_gets_20 rfl rfl rfl ?_
      obtain ⟨g18, h⟩ := h
      refine gt_M_86 (n := 24) rfl d_M_gets_21 (by decide) g18 rfl ?_
      refine pv_aload_n (n := 25) d_M_gets_24 rfl rfl rfl ?_
      obtain ⟨g19, h⟩ := h
      refine gt_M_28 (n := 28) rfl d_M_gets_25 (by decide) g19 rfl ?_
      refine pv_iload_n (n := 29) d_M_gets_28 rfl rfl rfl ?_
      obtain ⟨g20, h⟩ := h
      refine pv_iald (n := 30) (f := 212) (by decide) rfl d_M_gets_29 (by decide) g20 rfl ?_
      obtain ⟨g21, h⟩ := h
      refine pv_iald (n := 31) (f := 234) (by decide) rfl d_M_gets_30 (by decide) g21 rfl ?_
      refine pv_aload_n (n := 32) d_M_gets_31 rfl rfl rfl ?_
      obtain ⟨g22, h⟩ := h
      refine gt_M_83 (n := 35) rfl d_M_gets_32 (by decide) g22 rfl ?_
      refine pv_iload_n (n := 36) d_M_gets_35 rfl rfl rfl ?_
      obtain ⟨g23, h⟩ := h
      refine pv_iald (n := 37) (f := 233) (by decide) rfl d_M_gets_36 (by decide) g23 rfl ?_
      refine pv_icmp_le (n := 40) (tgt := 44) d_M_gets_37 (by decide) rfl (fun c24 => ?_) (fun c24 => ?_)
      · replace h := h.1 c24
        exact vjp_M_gets_44 hl0 _ _ _ h
      · replace h := h.2 c24
        refine pv_iconst (v := 1) (n := 41) d_M_gets_40 (by decide) rfl ?_
        refine pv_goto (tgt := 45) d_M_gets_41 (by decide) ?_
        exact vjp_M_gets_45 hl0 _ _ _ _ h
set_option maxHeartbeats 4000000 in
set_option maxRecDepth 20000 in
theorem con_M_gets {l : Launch} {g : pw_G} {Q : pw_W → Int32 → Prop} {X : pw_W → Nat → Prop} (hl0 : l.stackTraces = false) {w : pw_W} {a1 a2 : Int32} (h : wp_M_gets w a1 a2 Q X) : pw_Con l g y_M_gets cx_M_gets [(10, 0), (0, a1), (0, a2)] w Q X :=
  pw_con (by decide +kernel) rfl rfl hl0 rfl (Nat.le_of_ble_eq_true rfl) (by simp) (vw_M_gets hl0 h)
theorem d_M_gotten_0 : decode (pw_cc cx_M_gotten) 0 = .ok (.iconst 0, 1) := by decide +kernel
theorem d_M_gotten_1 : decode (pw_cc cx_M_gotten) 1 = .ok (.istore_n 2, 1) := by decide +kernel
theorem d_M_gotten_2 : decode (pw_cc cx_M_gotten) 2 = .ok (.iconst 0, 1) := by decide +kernel
theorem d_M_gotten_3 : decode (pw_cc cx_M_gotten) 3 = .ok (.istore_n 3, 1) := by decide +kernel
theorem d_M_gotten_4 : decode (pw_cc cx_M_gotten) 4 = .ok (.iload_n 3, 1) := by decide +kernel
theorem d_M_gotten_5 : decode (pw_cc cx_M_gotten) 5 = .ok (.bipush 100, 2) := by decide +kernel
theorem d_M_gotten_7 : decode (pw_cc cx_M_gotten) 7 = .ok (.if_icmp .ge 26, 3) := by decide +kernel
theorem d_M_gotten_10 : decode (pw_cc cx_M_gotten) 10 = .ok (.iload_n 2, 1) := by decide +kernel
theorem d_M_gotten_11 : decode (pw_cc cx_M_gotten) 11 = .ok (.aload_n 0, 1) := by decide +kernel
theorem d_M_gotten_12 : decode (pw_cc cx_M_gotten) 12 = .ok (.iload_n 1, 1) := by decide +kernel
theorem d_M_gotten_13 : decode (pw_cc cx_M_gotten) 13 = .ok (.iload_n 3, 1) := by decide +kernel
theorem d_M_gotten_14 : decode (pw_cc cx_M_gotten) 14 = .ok (.invokevirtual 221, 3) := by decide +kernel
theorem d_M_gotten_17 : decode (pw_cc cx_M_gotten) 17 = .ok (.ifCond .eq 7, 3) := by decide +kernel
theorem d_M_gotten_20 : decode (pw_cc cx_M_gotten) 20 = .ok (.iconst 1, 1) := by decide +kernel
theorem d_M_gotten_21 : decode (pw_cc cx_M_gotten) 21 = .ok (.goto 4, 3) := by decide +kernel
theorem d_M_gotten_24 : decode (pw_cc cx_M_gotten) 24 = .ok (.iconst 0, 1) := by decide +kernel
theorem d_M_gotten_25 : decode (pw_cc cx_M_gotten) 25 = .ok (.iadd, 1) := by decide +kernel
theorem d_M_gotten_26 : decode (pw_cc cx_M_gotten) 26 = .ok (.istore_n 2, 1) := by decide +kernel
theorem d_M_gotten_27 : decode (pw_cc cx_M_gotten) 27 = .ok (.iinc 3 1, 3) := by decide +kernel
theorem d_M_gotten_30 : decode (pw_cc cx_M_gotten) 30 = .ok (.goto (-26), 3) := by decide +kernel
theorem d_M_gotten_33 : decode (pw_cc cx_M_gotten) 33 = .ok (.iload_n 2, 1) := by decide +kernel
theorem d_M_gotten_34 : decode (pw_cc cx_M_gotten) 34 = .ok (.ireturn, 1) := by decide +kernel
set_option maxHeartbeats 4000000 in
set_option maxRecDepth 20000 in
def lp_M_gotten_4 (Q : pw_W → Int32 → Prop) (X : pw_W → Nat → Prop) : Nat → Int32 → Int32 → Int32 → pw_W → Prop := fun k => Nat.rec (motive := fun _ => Int32 → Int32 → Int32 → pw_W → Prop) (fun _ _ _ _ => False) (fun _ ih a1 a2 a3 w => ((100 : Int32) ≤ a3 → Q w a2) ∧ (¬ (100 : Int32) ≤ a3 → wp_M_gets w a1 a3 (fun w2 r3 => (r3 = 0 → ∀ v5, v5 = (a2 + 0) → ih a1 v5 (a3 + 1) w2) ∧ (¬ r3 = 0 → ∀ v7, v7 = (a2 + 1) → ih a1 v7 (a3 + 1) w2)) (fun _ _ => False))) k
set_option maxHeartbeats 4000000 in
set_option maxRecDepth 20000 in
theorem lp_M_gotten_4_s {Q : pw_W → Int32 → Prop} {X : pw_W → Nat → Prop}  {k : Nat} {a1 a2 a3 : Int32} {w : pw_W} : lp_M_gotten_4 Q X (k + 1) a1 a2 a3 w = (let ih := lp_M_gotten_4 Q X k; ((100 : Int32) ≤ a3 → Q w a2) ∧ (¬ (100 : Int32) ≤ a3 → wp_M_gets w a1 a3 (fun w2 r3 => (r3 = 0 → ∀ v5, v5 = (a2 + 0) → ih a1 v5 (a3 + 1) w2) ∧ (¬ r3 = 0 → ∀ v7, v7 = (a2 + 1) → ih a1 v7 (a3 + 1) w2)) (fun _ _ => False))) := rfl
set_option maxHeartbeats 4000000 in
set_option maxRecDepth 20000 in
theorem vlp_M_gotten_4 {l : Launch} {g : pw_G} {Q : pw_W → Int32 → Prop} {X : pw_W → Nat → Prop} (hl0 : l.stackTraces = false) : ∀ (k : Nat) (a1 a2 a3 : Int32) (w : pw_W), lp_M_gotten_4 Q X k a1 a2 a3 w → pw_V l g cx_M_gotten Q X 4 [(10, 0), (0, a1), (0, a2), (0, a3)] [] w := by
  intro k; induction k with
  | zero => intro _ _ _ _ h; exact h.elim
  | succ k ih =>
    intro a1 a2 a3 w h
    rw [lp_M_gotten_4_s] at h
    refine pv_iload_n (n := 5) d_M_gotten_4 rfl rfl rfl ?_
    refine pv_bipush (v := 100) (n := 7) d_M_gotten_5 (by decide) rfl ?_
    refine pv_icmp_ge (n := 10) (tgt := 33) d_M_gotten_7 (by decide) rfl (fun c1 => ?_) (fun c1 => ?_)
    · replace h := h.1 c1
      refine pv_iload_n (n := 34) d_M_gotten_33 rfl rfl rfl ?_
      exact pv_iret rfl rfl d_M_gotten_34 h
    · replace h := h.2 c1
      refine pv_iload_n (n := 11) d_M_gotten_10 rfl rfl rfl ?_
      refine pv_aload_n (n := 12) d_M_gotten_11 rfl rfl rfl ?_
      refine pv_iload_n (n := 13) d_M_gotten_12 rfl rfl rfl ?_
      refine pv_iload_n (n := 14) d_M_gotten_13 rfl rfl rfl ?_
      refine pv_callV (n := 17) (x := 0) [(0, a1), (0, a3)] [(0, a2)] (con_M_gets hl0 h) pw_cf8 rfl q_557 q_558 q_559 q_458 q_556 pyo_M_gets (by decide) rfl rfl (by decide) d_M_gotten_14 rfl (fun w2 r3 h _ => ?_) (fun _ _ h => h.elim)
      show pw_V l g cx_M_gotten Q X 17 [(10, 0), (0, a1), (0, a2), (0, a3)] [(0, r3), (0, a2)] w2
      refine pv_if_eq (n := 20) (tgt := 24) d_M_gotten_17 (by decide) rfl (fun c4 => ?_) (fun c4 => ?_)
      · replace h := h.1 c4
        refine pv_iconst (v := 0) (n := 25) d_M_gotten_24 (by decide) rfl ?_
        refine pv_iadd (n := 26) d_M_gotten_25 rfl ?_
        refine pv_nm (fun v5 e6 => ?_)
        replace h := h v5 e6
        refine pv_istore_n (n := 27) (L' := [(10, 0), (0, a1), (0, v5), (0, a3)]) d_M_gotten_26 rfl (by decide) rfl rfl ?_
        refine pv_iinc (v := (a3 + 1)) (n := 30) (L1 := [(10, 0), (0, a1), (0, v5), (0, (a3 + 1))]) d_M_gotten_27 rfl rfl rfl (by decide) rfl ?_
        refine pv_goto (tgt := 4) d_M_gotten_30 (by decide) ?_
        exact ih _ _ _ _ h
      · replace h := h.2 c4
        refine pv_iconst (v := 1) (n := 21) d_M_gotten_20 (by decide) rfl ?_
        refine pv_goto (tgt := 25) d_M_gotten_21 (by decide) ?_
        refine pv_iadd (n := 26) d_M_gotten_25 rfl ?_
        refine pv_nm (fun v7 e8 => ?_)
        replace h := h v7 e8
        refine pv_istore_n (n := 27) (L' := [(10, 0), (0, a1), (0, v7), (0, a3)]) d_M_gotten_26 rfl (by decide) rfl rfl ?_
        refine pv_iinc (v := (a3 + 1)) (n := 30) (L1 := [(10, 0), (0, a1), (0, v7), (0, (a3 + 1))]) d_M_gotten_27 rfl rfl rfl (by decide) rfl ?_
        refine pv_goto (tgt := 4) d_M_gotten_30 (by decide) ?_
        exact ih _ _ _ _ h
set_option maxHeartbeats 4000000 in
set_option maxRecDepth 20000 in
def wp_M_gotten (w : pw_W) (a1 : Int32) (Q : pw_W → Int32 → Prop) (X : pw_W → Nat → Prop) : Prop := ∃ k9, lp_M_gotten_4 Q X k9 a1 0 0 w
set_option maxHeartbeats 4000000 in
set_option maxRecDepth 20000 in
theorem vw_M_gotten {l : Launch} {g : pw_G} {Q : pw_W → Int32 → Prop} {X : pw_W → Nat → Prop} (hl0 : l.stackTraces = false) {w : pw_W} {a1 : Int32} (h : wp_M_gotten w a1 Q X) : pw_V l g cx_M_gotten Q X 0 [(10, 0), (0, a1), (1, 0), (1, 0)] [] w := by
  unfold wp_M_gotten at h
  refine pv_iconst (v := 0) (n := 1) d_M_gotten_0 (by decide) rfl ?_
  refine pv_istore_n (n := 2) (L' := [(10, 0), (0, a1), (0, 0), (1, 0)]) d_M_gotten_1 rfl (by decide) rfl rfl ?_
  refine pv_iconst (v := 0) (n := 3) d_M_gotten_2 (by decide) rfl ?_
  refine pv_istore_n (n := 4) (L' := [(10, 0), (0, a1), (0, 0), (0, 0)]) d_M_gotten_3 rfl (by decide) rfl rfl ?_
  obtain ⟨k9, h⟩ := h
  exact vlp_M_gotten_4 hl0 _ _ _ _ _ h
set_option maxHeartbeats 4000000 in
set_option maxRecDepth 20000 in
theorem con_M_gotten {l : Launch} {g : pw_G} {Q : pw_W → Int32 → Prop} {X : pw_W → Nat → Prop} (hl0 : l.stackTraces = false) {w : pw_W} {a1 : Int32} (h : wp_M_gotten w a1 Q X) : pw_Con l g y_M_gotten cx_M_gotten [(10, 0), (0, a1)] w Q X :=
  pw_con (by decide +kernel) rfl rfl hl0 rfl (Nat.le_of_ble_eq_true rfl) (by simp) (vw_M_gotten hl0 h)
theorem d_M_wins_0 : decode (pw_cc cx_M_wins) 0 = .ok (.aload_n 0, 1) := by decide +kernel
theorem d_M_wins_1 : decode (pw_cc cx_M_wins) 1 = .ok (.getfield 89, 3) := by decide +kernel
theorem d_M_wins_4 : decode (pw_cc cx_M_wins) 4 = .ok (.iload_n 1, 1) := by decide +kernel
theorem d_M_wins_5 : decode (pw_cc cx_M_wins) 5 = .ok (.iaload, 1) := by decide +kernel
theorem d_M_wins_6 : decode (pw_cc cx_M_wins) 6 = .ok (.aload_n 0, 1) := by decide +kernel
theorem d_M_wins_7 : decode (pw_cc cx_M_wins) 7 = .ok (.getfield 92, 3) := by decide +kernel
theorem d_M_wins_10 : decode (pw_cc cx_M_wins) 10 = .ok (.iload_n 1, 1) := by decide +kernel
theorem d_M_wins_11 : decode (pw_cc cx_M_wins) 11 = .ok (.iaload, 1) := by decide +kernel
theorem d_M_wins_12 : decode (pw_cc cx_M_wins) 12 = .ok (.if_icmp .le 7, 3) := by decide +kernel
theorem d_M_wins_15 : decode (pw_cc cx_M_wins) 15 = .ok (.iconst 1, 1) := by decide +kernel
theorem d_M_wins_16 : decode (pw_cc cx_M_wins) 16 = .ok (.goto 4, 3) := by decide +kernel
theorem d_M_wins_19 : decode (pw_cc cx_M_wins) 19 = .ok (.iconst 0, 1) := by decide +kernel
theorem d_M_wins_20 : decode (pw_cc cx_M_wins) 20 = .ok (.ireturn, 1) := by decide +kernel
set_option maxHeartbeats 4000000 in
set_option maxRecDepth 20000 in
def wp_M_wins (w : pw_W) (a1 : Int32) (Q : pw_W → Int32 → Prop) (X : pw_W → Nat → Prop) : Prop := w.1 8 0 35 = 0 ∧ pw_jn a1 (pw_ln w 235 0) ∧ w.1 8 0 36 = 0 ∧ pw_jn a1 (pw_ln w 236 0) ∧ ((w.1 235 0 (pw_i a1)) ≤ (w.1 236 0 (pw_i a1)) → Q w 0) ∧ (¬ (w.1 235 0 (pw_i a1)) ≤ (w.1 236 0 (pw_i a1)) → Q w 1)
set_option maxHeartbeats 4000000 in
set_option maxRecDepth 20000 in
theorem vw_M_wins {l : Launch} {g : pw_G} {Q : pw_W → Int32 → Prop} {X : pw_W → Nat → Prop} (hl0 : l.stackTraces = false) {w : pw_W} {a1 : Int32} (h : wp_M_wins w a1 Q X) : pw_V l g cx_M_wins Q X 0 [(10, 0), (0, a1)] [] w := by
  unfold wp_M_wins at h
  refine pv_aload_n (n := 1) d_M_wins_0 rfl rfl rfl ?_
  obtain ⟨g1, h⟩ := h
  refine gt_M_89 (n := 4) rfl d_M_wins_1 (by decide) g1 rfl ?_
  refine pv_iload_n (n := 5) d_M_wins_4 rfl rfl rfl ?_
  obtain ⟨g2, h⟩ := h
  refine pv_iald (n := 6) (f := 235) (by decide) rfl d_M_wins_5 (by decide) g2 rfl ?_
  refine pv_aload_n (n := 7) d_M_wins_6 rfl rfl rfl ?_
  obtain ⟨g3, h⟩ := h
  refine gt_M_92 (n := 10) rfl d_M_wins_7 (by decide) g3 rfl ?_
  refine pv_iload_n (n := 11) d_M_wins_10 rfl rfl rfl ?_
  obtain ⟨g4, h⟩ := h
  refine pv_iald (n := 12) (f := 236) (by decide) rfl d_M_wins_11 (by decide) g4 rfl ?_
  refine pv_icmp_le (n := 15) (tgt := 19) d_M_wins_12 (by decide) rfl (fun c5 => ?_) (fun c5 => ?_)
  · replace h := h.1 c5
    refine pv_iconst (v := 0) (n := 20) d_M_wins_19 (by decide) rfl ?_
    exact pv_zret rfl rfl d_M_wins_20 (by decide) h
  · replace h := h.2 c5
    refine pv_iconst (v := 1) (n := 16) d_M_wins_15 (by decide) rfl ?_
    refine pv_goto (tgt := 20) d_M_wins_16 (by decide) ?_
    exact pv_zret rfl rfl d_M_wins_20 (by decide) h
set_option maxHeartbeats 4000000 in
set_option maxRecDepth 20000 in
theorem con_M_wins {l : Launch} {g : pw_G} {Q : pw_W → Int32 → Prop} {X : pw_W → Nat → Prop} (hl0 : l.stackTraces = false) {w : pw_W} {a1 : Int32} (h : wp_M_wins w a1 Q X) : pw_Con l g y_M_wins cx_M_wins [(10, 0), (0, a1)] w Q X :=
  pw_con (by decide +kernel) rfl rfl hl0 rfl (Nat.le_of_ble_eq_true rfl) (by simp) (vw_M_wins hl0 h)
theorem d_M_grants_0 : decode (pw_cc cx_M_grants) 0 = .ok (.aload_n 0, 1) := by decide +kernel
theorem d_M_grants_1 : decode (pw_cc cx_M_grants) 1 = .ok (.getfield 80, 3) := by decide +kernel
theorem d_M_grants_4 : decode (pw_cc cx_M_grants) 4 = .ok (.iload_n 1, 1) := by decide +kernel
theorem d_M_grants_5 : decode (pw_cc cx_M_grants) 5 = .ok (.iconst 1, 1) := by decide +kernel
theorem d_M_grants_6 : decode (pw_cc cx_M_grants) 6 = .ok (.iastore, 1) := by decide +kernel
theorem d_M_grants_7 : decode (pw_cc cx_M_grants) 7 = .ok (.aload_n 0, 1) := by decide +kernel
theorem d_M_grants_8 : decode (pw_cc cx_M_grants) 8 = .ok (.getfield 86, 3) := by decide +kernel
theorem d_M_grants_11 : decode (pw_cc cx_M_grants) 11 = .ok (.iload_n 1, 1) := by decide +kernel
theorem d_M_grants_12 : decode (pw_cc cx_M_grants) 12 = .ok (.aload_n 0, 1) := by decide +kernel
theorem d_M_grants_13 : decode (pw_cc cx_M_grants) 13 = .ok (.getfield 83, 3) := by decide +kernel
theorem d_M_grants_16 : decode (pw_cc cx_M_grants) 16 = .ok (.iload_n 1, 1) := by decide +kernel
theorem d_M_grants_17 : decode (pw_cc cx_M_grants) 17 = .ok (.iaload, 1) := by decide +kernel
theorem d_M_grants_18 : decode (pw_cc cx_M_grants) 18 = .ok (.iastore, 1) := by decide +kernel
theorem d_M_grants_19 : decode (pw_cc cx_M_grants) 19 = .ok (.aload_n 0, 1) := by decide +kernel
theorem d_M_grants_20 : decode (pw_cc cx_M_grants) 20 = .ok (.iload_n 1, 1) := by decide +kernel
theorem d_M_grants_21 : decode (pw_cc cx_M_grants) 21 = .ok (.invokevirtual 224, 3) := by decide +kernel
theorem d_M_grants_24 : decode (pw_cc cx_M_grants) 24 = .ok (.istore_n 2, 1) := by decide +kernel
theorem d_M_grants_25 : decode (pw_cc cx_M_grants) 25 = .ok (.iload_n 2, 1) := by decide +kernel
theorem d_M_grants_26 : decode (pw_cc cx_M_grants) 26 = .ok (.ifCond .ne 5, 3) := by decide +kernel
theorem d_M_grants_29 : decode (pw_cc cx_M_grants) 29 = .ok (.iconst 0, 1) := by decide +kernel
theorem d_M_grants_30 : decode (pw_cc cx_M_grants) 30 = .ok (.ireturn, 1) := by decide +kernel
theorem d_M_grants_31 : decode (pw_cc cx_M_grants) 31 = .ok (.aload_n 0, 1) := by decide +kernel
theorem d_M_grants_32 : decode (pw_cc cx_M_grants) 32 = .ok (.aload_n 0, 1) := by decide +kernel
theorem d_M_grants_33 : decode (pw_cc cx_M_grants) 33 = .ok (.getfield 77, 3) := by decide +kernel
theorem d_M_grants_36 : decode (pw_cc cx_M_grants) 36 = .ok (.iload_n 1, 1) := by decide +kernel
theorem d_M_grants_37 : decode (pw_cc cx_M_grants) 37 = .ok (.iaload, 1) := by decide +kernel
theorem d_M_grants_38 : decode (pw_cc cx_M_grants) 38 = .ok (.invokevirtual 182, 3) := by decide +kernel
theorem d_M_grants_41 : decode (pw_cc cx_M_grants) 41 = .ok (.istore_n 3, 1) := by decide +kernel
theorem d_M_grants_42 : decode (pw_cc cx_M_grants) 42 = .ok (.iconst 0, 1) := by decide +kernel
theorem d_M_grants_43 : decode (pw_cc cx_M_grants) 43 = .ok (.istore 4, 2) := by decide +kernel
theorem d_M_grants_45 : decode (pw_cc cx_M_grants) 45 = .ok (.iload 4, 2) := by decide +kernel
theorem d_M_grants_47 : decode (pw_cc cx_M_grants) 47 = .ok (.bipush 100, 2) := by decide +kernel
theorem d_M_grants_49 : decode (pw_cc cx_M_grants) 49 = .ok (.if_icmp .ge 49, 3) := by decide +kernel
theorem d_M_grants_52 : decode (pw_cc cx_M_grants) 52 = .ok (.aload_n 0, 1) := by decide +kernel
theorem d_M_grants_53 : decode (pw_cc cx_M_grants) 53 = .ok (.iload_n 1, 1) := by decide +kernel
theorem d_M_grants_54 : decode (pw_cc cx_M_grants) 54 = .ok (.iload 4, 2) := by decide +kernel
theorem d_M_grants_56 : decode (pw_cc cx_M_grants) 56 = .ok (.invokevirtual 221, 3) := by decide +kernel
theorem d_M_grants_59 : decode (pw_cc cx_M_grants) 59 = .ok (.ifCond .eq 33, 3) := by decide +kernel
theorem d_M_grants_62 : decode (pw_cc cx_M_grants) 62 = .ok (.aload_n 0, 1) := by decide +kernel
theorem d_M_grants_63 : decode (pw_cc cx_M_grants) 63 = .ok (.getfield 31, 3) := by decide +kernel
theorem d_M_grants_66 : decode (pw_cc cx_M_grants) 66 = .ok (.iload 4, 2) := by decide +kernel
theorem d_M_grants_68 : decode (pw_cc cx_M_grants) 68 = .ok (.aload_n 0, 1) := by decide +kernel
theorem d_M_grants_69 : decode (pw_cc cx_M_grants) 69 = .ok (.getfield 16, 3) := by decide +kernel
theorem d_M_grants_72 : decode (pw_cc cx_M_grants) 72 = .ok (.iload 4, 2) := by decide +kernel
theorem d_M_grants_74 : decode (pw_cc cx_M_grants) 74 = .ok (.iaload, 1) := by decide +kernel
theorem d_M_grants_75 : decode (pw_cc cx_M_grants) 75 = .ok (.iastore, 1) := by decide +kernel
theorem d_M_grants_76 : decode (pw_cc cx_M_grants) 76 = .ok (.aload_n 0, 1) := by decide +kernel
theorem d_M_grants_77 : decode (pw_cc cx_M_grants) 77 = .ok (.getfield 28, 3) := by decide +kernel
theorem d_M_grants_80 : decode (pw_cc cx_M_grants) 80 = .ok (.iload 4, 2) := by decide +kernel
theorem d_M_grants_82 : decode (pw_cc cx_M_grants) 82 = .ok (.iload_n 1, 1) := by decide +kernel
theorem d_M_grants_83 : decode (pw_cc cx_M_grants) 83 = .ok (.iastore, 1) := by decide +kernel
theorem d_M_grants_84 : decode (pw_cc cx_M_grants) 84 = .ok (.aload_n 0, 1) := by decide +kernel
theorem d_M_grants_85 : decode (pw_cc cx_M_grants) 85 = .ok (.iload 4, 2) := by decide +kernel
theorem d_M_grants_87 : decode (pw_cc cx_M_grants) 87 = .ok (.iload_n 3, 1) := by decide +kernel
theorem d_M_grants_88 : decode (pw_cc cx_M_grants) 88 = .ok (.invokevirtual 185, 3) := by decide +kernel
theorem d_M_grants_91 : decode (pw_cc cx_M_grants) 91 = .ok (.pop, 1) := by decide +kernel
theorem d_M_grants_92 : decode (pw_cc cx_M_grants) 92 = .ok (.iinc 4 1, 3) := by decide +kernel
theorem d_M_grants_95 : decode (pw_cc cx_M_grants) 95 = .ok (.goto (-50), 3) := by decide +kernel
theorem d_M_grants_98 : decode (pw_cc cx_M_grants) 98 = .ok (.iload_n 2, 1) := by decide +kernel
theorem d_M_grants_99 : decode (pw_cc cx_M_grants) 99 = .ok (.ireturn, 1) := by decide +kernel
set_option maxHeartbeats 4000000 in
set_option maxRecDepth 20000 in
def lp_M_grants_45 (Q : pw_W → Int32 → Prop) (X : pw_W → Nat → Prop) : Nat → Int32 → Int32 → Int32 → Int32 → pw_W → Prop := fun k => Nat.rec (motive := fun _ => Int32 → Int32 → Int32 → Int32 → pw_W → Prop) (fun _ _ _ _ _ => False) (fun _ ih a1 a2 a3 a4 w => ((100 : Int32) ≤ a4 → Q w a2) ∧ (¬ (100 : Int32) ≤ a4 → wp_M_gets w a1 a4 (fun w2 r3 => (r3 = 0 → ih a1 a2 a3 (a4 + 1) w2) ∧ (¬ r3 = 0 → w2.1 8 0 13 = 0 ∧ w2.1 8 0 8 = 0 ∧ pw_jn a4 (pw_ln w2 208 0) ∧ pw_jn a4 (pw_ln w2 213 0) ∧ ∀ w9, w9 = pw_ps w2 213 0 (pw_i a4) (w2.1 208 0 (pw_i a4)) → w9.1 8 0 12 = 0 ∧ pw_jn a4 (pw_ln w9 212 0) ∧ ∀ w13, w13 = pw_ps w9 212 0 (pw_i a4) a1 → wp_M_comes w13 a4 a3 (fun w15 r16 => ih a1 a2 a3 (a4 + 1) w15) (fun _ _ => False))) (fun _ _ => False))) k
set_option maxHeartbeats 4000000 in
set_option maxRecDepth 20000 in
theorem lp_M_grants_45_s {Q : pw_W → Int32 → Prop} {X : pw_W → Nat → Prop}  {k : Nat} {a1 a2 a3 a4 : Int32} {w : pw_W} : lp_M_grants_45 Q X (k + 1) a1 a2 a3 a4 w = (let ih := lp_M_grants_45 Q X k; ((100 : Int32) ≤ a4 → Q w a2) ∧ (¬ (100 : Int32) ≤ a4 → wp_M_gets w a1 a4 (fun w2 r3 => (r3 = 0 → ih a1 a2 a3 (a4 + 1) w2) ∧ (¬ r3 = 0 → w2.1 8 0 13 = 0 ∧ w2.1 8 0 8 = 0 ∧ pw_jn a4 (pw_ln w2 208 0) ∧ pw_jn a4 (pw_ln w2 213 0) ∧ ∀ w9, w9 = pw_ps w2 213 0 (pw_i a4) (w2.1 208 0 (pw_i a4)) → w9.1 8 0 12 = 0 ∧ pw_jn a4 (pw_ln w9 212 0) ∧ ∀ w13, w13 = pw_ps w9 212 0 (pw_i a4) a1 → wp_M_comes w13 a4 a3 (fun w15 r16 => ih a1 a2 a3 (a4 + 1) w15) (fun _ _ => False))) (fun _ _ => False))) := rfl
set_option maxHeartbeats 4000000 in
set_option maxRecDepth 20000 in
theorem vlp_M_grants_45 {l : Launch} {g : pw_G} {Q : pw_W → Int32 → Prop} {X : pw_W → Nat → Prop} (hl0 : l.stackTraces = false) : ∀ (k : Nat) (a1 a2 a3 a4 : Int32) (w : pw_W), lp_M_grants_45 Q X k a1 a2 a3 a4 w → pw_V l g cx_M_grants Q X 45 [(10, 0), (0, a1), (0, a2), (0, a3), (0, a4)] [] w := by
  intro k; induction k with
  | zero => intro _ _ _ _ _ h; exact h.elim
  | succ k ih =>
    intro a1 a2 a3 a4 w h
    rw [lp_M_grants_45_s] at h
    refine pv_iload (n := 47) d_M_grants_45 rfl rfl ?_
    refine pv_bipush (v := 100) (n := 49) d_M_grants_47 (by decide) rfl ?_
    refine pv_icmp_ge (n := 52) (tgt := 98) d_M_grants_49 (by decide) rfl (fun c1 => ?_) (fun c1 => ?_)
    · replace h := h.1 c1
      refine pv_iload_n (n := 99) d_M_grants_98 rfl rfl rfl ?_
      exact pv_iret rfl rfl d_M_grants_99 h
    · replace h := h.2 c1
      refine pv_aload_n (n := 53) d_M_grants_52 rfl rfl rfl ?_
      refine pv_iload_n (n := 54) d_M_grants_53 rfl rfl rfl ?_
      refine pv_iload (n := 56) d_M_grants_54 rfl rfl ?_
      refine pv_callV (n := 59) (x := 0) [(0, a1), (0, a4)] [] (con_M_gets hl0 h) pw_cf8 rfl q_557 q_558 q_559 q_458 q_556 pyo_M_gets (by decide) rfl rfl (by decide) d_M_grants_56 rfl (fun w2 r3 h _ => ?_) (fun _ _ h => h.elim)
      show pw_V l g cx_M_grants Q X 59 [(10, 0), (0, a1), (0, a2), (0, a3), (0, a4)] [(0, r3)] w2
      refine pv_if_eq (n := 62) (tgt := 92) d_M_grants_59 (by decide) rfl (fun c4 => ?_) (fun c4 => ?_)
      · replace h := h.1 c4
        refine pv_iinc (v := (a4 + 1)) (n := 95) (L1 := [(10, 0), (0, a1), (0, a2), (0, a3), (0, (a4 + 1))]) d_M_grants_92 rfl rfl rfl (by decide) rfl ?_
        refine pv_goto (tgt := 45) d_M_grants_95 (by decide) ?_
        exact ih _ _ _ _ _ h
      · replace h := h.2 c4
        refine pv_aload_n (n := 63) d_M_grants_62 rfl rfl rfl ?_
        obtain ⟨g5, h⟩ := h
        refine gt_M_31 (n := 66) rfl d_M_grants_63 (by decide) g5 rfl ?_
        refine pv_iload (n := 68) d_M_grants_66 rfl rfl ?_
        refine pv_aload_n (n := 69) d_M_grants_68 rfl rfl rfl ?_
        obtain ⟨g6, h⟩ := h
        refine gt_M_16 (n := 72) rfl d_M_grants_69 (by decide) g6 rfl ?_
        refine pv_iload (n := 74) d_M_grants_72 rfl rfl ?_
        obtain ⟨g7, h⟩ := h
        refine pv_iald (n := 75) (f := 208) (by decide) rfl d_M_grants_74 (by decide) g7 rfl ?_
        obtain ⟨g8, h⟩ := h
        refine pv_iast1 (n := 76) (f := 213) (by decide) rfl (fun _ => rfl) d_M_grants_75 (by decide) g8 rfl (fun w9 e10 => ?_)
        replace h := h w9 e10
        refine pv_aload_n (n := 77) d_M_grants_76 rfl rfl rfl ?_
        obtain ⟨g11, h⟩ := h
        refine gt_M_28 (n := 80) rfl d_M_grants_77 (by decide) g11 rfl ?_
        refine pv_iload (n := 82) d_M_grants_80 rfl rfl ?_
        refine pv_iload_n (n := 83) d_M_grants_82 rfl rfl rfl ?_
        obtain ⟨g12, h⟩ := h
        refine pv_iast1 (n := 84) (f := 212) (by decide) rfl (fun _ => rfl) d_M_grants_83 (by decide) g12 rfl (fun w13 e14 => ?_)
        replace h := h w13 e14
        refine pv_aload_n (n := 85) d_M_grants_84 rfl rfl rfl ?_
        refine pv_iload (n := 87) d_M_grants_85 rfl rfl ?_
        refine pv_iload_n (n := 88) d_M_grants_87 rfl rfl rfl ?_
        refine pv_callV (n := 91) (x := 0) [(0, a4), (0, a3)] [] (con_M_comes hl0 h) pw_cf8 rfl q_494 q_495 q_496 q_458 q_493 pyo_M_comes (by decide) rfl rfl (by decide) d_M_grants_88 rfl (fun w15 r16 h _ => ?_) (fun _ _ h => h.elim)
        show pw_V l g cx_M_grants Q X 91 [(10, 0), (0, a1), (0, a2), (0, a3), (0, a4)] [(0, r16)] w15
        refine pv_pop (n := 92) d_M_grants_91 (by decide) rfl ?_
        refine pv_iinc (v := (a4 + 1)) (n := 95) (L1 := [(10, 0), (0, a1), (0, a2), (0, a3), (0, (a4 + 1))]) d_M_grants_92 rfl rfl rfl (by decide) rfl ?_
        refine pv_goto (tgt := 45) d_M_grants_95 (by decide) ?_
        exact ih _ _ _ _ _ h
set_option maxHeartbeats 4000000 in
set_option maxRecDepth 20000 in
def wp_M_grants (w : pw_W) (a1 : Int32) (Q : pw_W → Int32 → Prop) (X : pw_W → Nat → Prop) : Prop := w.1 8 0 32 = 0 ∧ pw_jn a1 (pw_ln w 232 0) ∧ ∀ w19, w19 = pw_ps w 232 0 (pw_i a1) 1 → w19.1 8 0 34 = 0 ∧ w19.1 8 0 33 = 0 ∧ pw_jn a1 (pw_ln w19 233 0) ∧ pw_jn a1 (pw_ln w19 234 0) ∧ ∀ w25, w25 = pw_ps w19 234 0 (pw_i a1) (w19.1 233 0 (pw_i a1)) → wp_M_gotten w25 a1 (fun w27 r28 => (¬ r28 = 0 → w27.1 8 0 31 = 0 ∧ pw_jn a1 (pw_ln w27 231 0) ∧ wp_M_makesParcel w27 (w27.1 231 0 (pw_i a1)) (fun w32 r33 => ∃ k34, lp_M_grants_45 Q X k34 a1 r28 r33 0 w32) (fun _ _ => False)) ∧ (r28 = 0 → Q w27 0)) (fun _ _ => False)
set_option maxHeartbeats 4000000 in
set_option maxRecDepth 20000 in
theorem vw_M_grants {l : Launch} {g : pw_G} {Q : pw_W → Int32 → Prop} {X : pw_W → Nat → Prop} (hl0 : l.stackTraces = false) {w : pw_W} {a1 : Int32} (h : wp_M_grants w a1 Q X) : pw_V l g cx_M_grants Q X 0 [(10, 0), (0, a1), (1, 0), (1, 0), (1, 0)] [] w := by
  unfold wp_M_grants at h
  refine pv_aload_n (n := 1) d_M_grants_0 rfl rfl rfl ?_
  obtain ⟨g17, h⟩ := h
  refine gt_M_80 (n := 4) rfl d_M_grants_1 (by decide) g17 rfl ?_
  refine pv_iload_n (n := 5) d_M_grants_4 rfl rfl rfl ?_
  refine pv_iconst (v := 1) (n := 6) d_M_grants_5 (by decide) rfl ?_
  obtain ⟨g18, h⟩ := h
  refine pv_iast1 (n := 7) (f := 232) (by decide) rfl (fun _ => rfl) d_M_grants_6 (by decide) g18 rfl (fun w19 e20 => ?_)
  replace h := h w19 e20
  refine pv_aload_n (n := 8) d_M_grants_7 rfl rfl rfl ?_
  obtain ⟨g21, h⟩ := h
  refine gt_M_86 (n := 11) rfl d_M_grants_8 (by decide) g21 rfl ?_
  refine pv_iload_n (n := 12) d_M_grants_11 rfl rfl rfl ?_
  refine pv_aload_n (n := 13) d_M_grants_12 rfl rfl rfl ?_
  obtain ⟨g22, h⟩ := h
  refine gt_M_83 (n := 16) rfl d_M_grants_13 (by decide) g22 rfl ?_
  refine pv_iload_n (n := 17) d_M_grants_16 rfl rfl rfl ?_
  obtain ⟨g23, h⟩ := h
  refine pv_iald (n := 18) (f := 233) (by decide) rfl d_M_grants_17 (by decide) g23 rfl ?_
  obtain ⟨g24, h⟩ := h
  refine pv_iast1 (n := 19) (f := 234) (by decide) rfl (fun _ => rfl) d_M_grants_18 (by decide) g24 rfl (fun w25 e26 => ?_)
  replace h := h w25 e26
  refine pv_aload_n (n := 20) d_M_grants_19 rfl rfl rfl ?_
  refine pv_iload_n (n := 21) d_M_grants_20 rfl rfl rfl ?_
  refine pv_callV (n := 24) (x := 0) [(0, a1)] [] (con_M_gotten hl0 h) pw_cf8 rfl q_561 q_562 q_563 q_458 q_560 pyo_M_gotten (by decide) rfl rfl (by decide) d_M_grants_21 rfl (fun w27 r28 h _ => ?_) (fun _ _ h => h.elim)
  show pw_V l g cx_M_grants Q X 24 [(10, 0), (0, a1), (1, 0), (1, 0), (1, 0)] [(0, r28)] w27
  refine pv_istore_n (n := 25) (L' := [(10, 0), (0, a1), (0, r28), (1, 0), (1, 0)]) d_M_grants_24 rfl (by decide) rfl rfl ?_
  refine pv_iload_n (n := 26) d_M_grants_25 rfl rfl rfl ?_
  refine pv_if_ne (n := 29) (tgt := 31) d_M_grants_26 (by decide) rfl (fun c29 => ?_) (fun c29 => ?_)
  · replace h := h.1 c29
    refine pv_aload_n (n := 32) d_M_grants_31 rfl rfl rfl ?_
    refine pv_aload_n (n := 33) d_M_grants_32 rfl rfl rfl ?_
    obtain ⟨g30, h⟩ := h
    refine gt_M_77 (n := 36) rfl d_M_grants_33 (by decide) g30 rfl ?_
    refine pv_iload_n (n := 37) d_M_grants_36 rfl rfl rfl ?_
    obtain ⟨g31, h⟩ := h
    refine pv_iald (n := 38) (f := 231) (by decide) rfl d_M_grants_37 (by decide) g31 rfl ?_
    refine pv_callV (n := 41) (x := 0) [(0, (w27.1 231 0 (pw_i a1)))] [] (con_M_makesParcel hl0 h) pw_cf8 rfl q_498 q_499 q_500 q_458 q_497 pyo_M_makesParcel (by decide) rfl rfl (by decide) d_M_grants_38 rfl (fun w32 r33 h _ => ?_) (fun _ _ h => h.elim)
    show pw_V l g cx_M_grants Q X 41 [(10, 0), (0, a1), (0, r28), (1, 0), (1, 0)] [(0, r33)] w32
    refine pv_istore_n (n := 42) (L' := [(10, 0), (0, a1), (0, r28), (0, r33), (1, 0)]) d_M_grants_41 rfl (by decide) rfl rfl ?_
    refine pv_iconst (v := 0) (n := 43) d_M_grants_42 (by decide) rfl ?_
    refine pv_istore (n := 45) (L' := [(10, 0), (0, a1), (0, r28), (0, r33), (0, 0)]) d_M_grants_43 (by decide) rfl rfl ?_
    obtain ⟨k34, h⟩ := h
    exact vlp_M_grants_45 hl0 _ _ _ _ _ _ h
  · replace h := h.2 c29
    refine pv_iconst (v := 0) (n := 30) d_M_grants_29 (by decide) rfl ?_
    exact pv_iret rfl rfl d_M_grants_30 h
set_option maxHeartbeats 4000000 in
set_option maxRecDepth 20000 in
theorem con_M_grants {l : Launch} {g : pw_G} {Q : pw_W → Int32 → Prop} {X : pw_W → Nat → Prop} (hl0 : l.stackTraces = false) {w : pw_W} {a1 : Int32} (h : wp_M_grants w a1 Q X) : pw_Con l g y_M_grants cx_M_grants [(10, 0), (0, a1)] w Q X :=
  pw_con (by decide +kernel) rfl rfl hl0 rfl (Nat.le_of_ble_eq_true rfl) (by simp) (vw_M_grants hl0 h)
theorem d_M_refuses_0 : decode (pw_cc cx_M_refuses) 0 = .ok (.aload_n 0, 1) := by decide +kernel
theorem d_M_refuses_1 : decode (pw_cc cx_M_refuses) 1 = .ok (.getfield 80, 3) := by decide +kernel
theorem d_M_refuses_4 : decode (pw_cc cx_M_refuses) 4 = .ok (.iload_n 1, 1) := by decide +kernel
theorem d_M_refuses_5 : decode (pw_cc cx_M_refuses) 5 = .ok (.iconst 2, 1) := by decide +kernel
theorem d_M_refuses_6 : decode (pw_cc cx_M_refuses) 6 = .ok (.iastore, 1) := by decide +kernel
theorem d_M_refuses_7 : decode (pw_cc cx_M_refuses) 7 = .ok (.aload_n 0, 1) := by decide +kernel
theorem d_M_refuses_8 : decode (pw_cc cx_M_refuses) 8 = .ok (.getfield 86, 3) := by decide +kernel
theorem d_M_refuses_11 : decode (pw_cc cx_M_refuses) 11 = .ok (.iload_n 1, 1) := by decide +kernel
theorem d_M_refuses_12 : decode (pw_cc cx_M_refuses) 12 = .ok (.aload_n 0, 1) := by decide +kernel
theorem d_M_refuses_13 : decode (pw_cc cx_M_refuses) 13 = .ok (.getfield 83, 3) := by decide +kernel
theorem d_M_refuses_16 : decode (pw_cc cx_M_refuses) 16 = .ok (.iload_n 1, 1) := by decide +kernel
theorem d_M_refuses_17 : decode (pw_cc cx_M_refuses) 17 = .ok (.iaload, 1) := by decide +kernel
theorem d_M_refuses_18 : decode (pw_cc cx_M_refuses) 18 = .ok (.iastore, 1) := by decide +kernel
theorem d_M_refuses_19 : decode (pw_cc cx_M_refuses) 19 = .ok (.iconst 0, 1) := by decide +kernel
theorem d_M_refuses_20 : decode (pw_cc cx_M_refuses) 20 = .ok (.istore_n 2, 1) := by decide +kernel
theorem d_M_refuses_21 : decode (pw_cc cx_M_refuses) 21 = .ok (.iconst 0, 1) := by decide +kernel
theorem d_M_refuses_22 : decode (pw_cc cx_M_refuses) 22 = .ok (.istore_n 3, 1) := by decide +kernel
theorem d_M_refuses_23 : decode (pw_cc cx_M_refuses) 23 = .ok (.iload_n 3, 1) := by decide +kernel
theorem d_M_refuses_24 : decode (pw_cc cx_M_refuses) 24 = .ok (.bipush 100, 2) := by decide +kernel
theorem d_M_refuses_26 : decode (pw_cc cx_M_refuses) 26 = .ok (.if_icmp .ge 44, 3) := by decide +kernel
theorem d_M_refuses_29 : decode (pw_cc cx_M_refuses) 29 = .ok (.aload_n 0, 1) := by decide +kernel
theorem d_M_refuses_30 : decode (pw_cc cx_M_refuses) 30 = .ok (.getfield 28, 3) := by decide +kernel
theorem d_M_refuses_33 : decode (pw_cc cx_M_refuses) 33 = .ok (.iload_n 3, 1) := by decide +kernel
theorem d_M_refuses_34 : decode (pw_cc cx_M_refuses) 34 = .ok (.iaload, 1) := by decide +kernel
theorem d_M_refuses_35 : decode (pw_cc cx_M_refuses) 35 = .ok (.iload_n 1, 1) := by decide +kernel
theorem d_M_refuses_36 : decode (pw_cc cx_M_refuses) 36 = .ok (.if_icmp .ne 28, 3) := by decide +kernel
theorem d_M_refuses_39 : decode (pw_cc cx_M_refuses) 39 = .ok (.aload_n 0, 1) := by decide +kernel
theorem d_M_refuses_40 : decode (pw_cc cx_M_refuses) 40 = .ok (.getfield 28, 3) := by decide +kernel
theorem d_M_refuses_43 : decode (pw_cc cx_M_refuses) 43 = .ok (.iload_n 3, 1) := by decide +kernel
theorem d_M_refuses_44 : decode (pw_cc cx_M_refuses) 44 = .ok (.iconst (-1), 1) := by decide +kernel
theorem d_M_refuses_45 : decode (pw_cc cx_M_refuses) 45 = .ok (.iastore, 1) := by decide +kernel
theorem d_M_refuses_46 : decode (pw_cc cx_M_refuses) 46 = .ok (.iload_n 2, 1) := by decide +kernel
theorem d_M_refuses_47 : decode (pw_cc cx_M_refuses) 47 = .ok (.aload_n 0, 1) := by decide +kernel
theorem d_M_refuses_48 : decode (pw_cc cx_M_refuses) 48 = .ok (.iload_n 3, 1) := by decide +kernel
theorem d_M_refuses_49 : decode (pw_cc cx_M_refuses) 49 = .ok (.aload_n 0, 1) := by decide +kernel
theorem d_M_refuses_50 : decode (pw_cc cx_M_refuses) 50 = .ok (.aload_n 0, 1) := by decide +kernel
theorem d_M_refuses_51 : decode (pw_cc cx_M_refuses) 51 = .ok (.getfield 31, 3) := by decide +kernel
theorem d_M_refuses_54 : decode (pw_cc cx_M_refuses) 54 = .ok (.iload_n 3, 1) := by decide +kernel
theorem d_M_refuses_55 : decode (pw_cc cx_M_refuses) 55 = .ok (.iaload, 1) := by decide +kernel
theorem d_M_refuses_56 : decode (pw_cc cx_M_refuses) 56 = .ok (.invokevirtual 172, 3) := by decide +kernel
theorem d_M_refuses_59 : decode (pw_cc cx_M_refuses) 59 = .ok (.invokevirtual 185, 3) := by decide +kernel
theorem d_M_refuses_62 : decode (pw_cc cx_M_refuses) 62 = .ok (.iadd, 1) := by decide +kernel
theorem d_M_refuses_63 : decode (pw_cc cx_M_refuses) 63 = .ok (.istore_n 2, 1) := by decide +kernel
theorem d_M_refuses_64 : decode (pw_cc cx_M_refuses) 64 = .ok (.iinc 3 1, 3) := by decide +kernel
theorem d_M_refuses_67 : decode (pw_cc cx_M_refuses) 67 = .ok (.goto (-44), 3) := by decide +kernel
theorem d_M_refuses_70 : decode (pw_cc cx_M_refuses) 70 = .ok (.iload_n 2, 1) := by decide +kernel
theorem d_M_refuses_71 : decode (pw_cc cx_M_refuses) 71 = .ok (.ireturn, 1) := by decide +kernel
set_option maxHeartbeats 4000000 in
set_option maxRecDepth 20000 in
def lp_M_refuses_23 (Q : pw_W → Int32 → Prop) (X : pw_W → Nat → Prop) : Nat → Int32 → Int32 → Int32 → pw_W → Prop := fun k => Nat.rec (motive := fun _ => Int32 → Int32 → Int32 → pw_W → Prop) (fun _ _ _ _ => False) (fun _ ih a1 a2 a3 w => ((100 : Int32) ≤ a3 → Q w a2) ∧ (¬ (100 : Int32) ≤ a3 → w.1 8 0 12 = 0 ∧ pw_jn a3 (pw_ln w 212 0) ∧ (¬ (w.1 212 0 (pw_i a3)) = a1 → ih a1 a2 (a3 + 1) w) ∧ ((w.1 212 0 (pw_i a3)) = a1 → w.1 8 0 12 = 0 ∧ pw_jn a3 (pw_ln w 212 0) ∧ ∀ w7, w7 = pw_ps w 212 0 (pw_i a3) (-1) → w7.1 8 0 13 = 0 ∧ pw_jn a3 (pw_ln w7 213 0) ∧ wp_M_now w7 (w7.1 213 0 (pw_i a3)) (fun w11 r12 => wp_M_comes w11 a3 r12 (fun w13 r14 => ∀ v15, v15 = (a2 + r14) → ih a1 v15 (a3 + 1) w13) (fun _ _ => False)) (fun _ _ => False)))) k
set_option maxHeartbeats 4000000 in
set_option maxRecDepth 20000 in
theorem lp_M_refuses_23_s {Q : pw_W → Int32 → Prop} {X : pw_W → Nat → Prop}  {k : Nat} {a1 a2 a3 : Int32} {w : pw_W} : lp_M_refuses_23 Q X (k + 1) a1 a2 a3 w = (let ih := lp_M_refuses_23 Q X k; ((100 : Int32) ≤ a3 → Q w a2) ∧ (¬ (100 : Int32) ≤ a3 → w.1 8 0 12 = 0 ∧ pw_jn a3 (pw_ln w 212 0) ∧ (¬ (w.1 212 0 (pw_i a3)) = a1 → ih a1 a2 (a3 + 1) w) ∧ ((w.1 212 0 (pw_i a3)) = a1 → w.1 8 0 12 = 0 ∧ pw_jn a3 (pw_ln w 212 0) ∧ ∀ w7, w7 = pw_ps w 212 0 (pw_i a3) (-1) → w7.1 8 0 13 = 0 ∧ pw_jn a3 (pw_ln w7 213 0) ∧ wp_M_now w7 (w7.1 213 0 (pw_i a3)) (fun w11 r12 => wp_M_comes w11 a3 r12 (fun w13 r14 => ∀ v15, v15 = (a2 + r14) → ih a1 v15 (a3 + 1) w13) (fun _ _ => False)) (fun _ _ => False)))) := rfl
set_option maxHeartbeats 4000000 in
set_option maxRecDepth 20000 in
theorem vlp_M_refuses_23 {l : Launch} {g : pw_G} {Q : pw_W → Int32 → Prop} {X : pw_W → Nat → Prop} (hl0 : l.stackTraces = false) : ∀ (k : Nat) (a1 a2 a3 : Int32) (w : pw_W), lp_M_refuses_23 Q X k a1 a2 a3 w → pw_V l g cx_M_refuses Q X 23 [(10, 0), (0, a1), (0, a2), (0, a3)] [] w := by
  intro k; induction k with
  | zero => intro _ _ _ _ h; exact h.elim
  | succ k ih =>
    intro a1 a2 a3 w h
    rw [lp_M_refuses_23_s] at h
    refine pv_iload_n (n := 24) d_M_refuses_23 rfl rfl rfl ?_
    refine pv_bipush (v := 100) (n := 26) d_M_refuses_24 (by decide) rfl ?_
    refine pv_icmp_ge (n := 29) (tgt := 70) d_M_refuses_26 (by decide) rfl (fun c1 => ?_) (fun c1 => ?_)
    · replace h := h.1 c1
      refine pv_iload_n (n := 71) d_M_refuses_70 rfl rfl rfl ?_
      exact pv_iret rfl rfl d_M_refuses_71 h
    · replace h := h.2 c1
      refine pv_aload_n (n := 30) d_M_refuses_29 rfl rfl rfl ?_
      obtain ⟨g2, h⟩ := h
      refine gt_M_28 (n := 33) rfl d_M_refuses_30 (by decide) g2 rfl ?_
      refine pv_iload_n (n := 34) d_M_refuses_33 rfl rfl rfl ?_
      obtain ⟨g3, h⟩ := h
      refine pv_iald (n := 35) (f := 212) (by decide) rfl d_M_refuses_34 (by decide) g3 rfl ?_
      refine pv_iload_n (n := 36) d_M_refuses_35 rfl rfl rfl ?_
      refine pv_icmp_ne (n := 39) (tgt := 64) d_M_refuses_36 (by decide) rfl (fun c4 => ?_) (fun c4 => ?_)
      · replace h := h.1 c4
        refine pv_iinc (v := (a3 + 1)) (n := 67) (L1 := [(10, 0), (0, a1), (0, a2), (0, (a3 + 1))]) d_M_refuses_64 rfl rfl rfl (by decide) rfl ?_
        refine pv_goto (tgt := 23) d_M_refuses_67 (by decide) ?_
        exact ih _ _ _ _ h
      · replace h := h.2 c4
        refine pv_aload_n (n := 40) d_M_refuses_39 rfl rfl rfl ?_
        obtain ⟨g5, h⟩ := h
        refine gt_M_28 (n := 43) rfl d_M_refuses_40 (by decide) g5 rfl ?_
        refine pv_iload_n (n := 44) d_M_refuses_43 rfl rfl rfl ?_
        refine pv_iconst (v := -1) (n := 45) d_M_refuses_44 (by decide) rfl ?_
        obtain ⟨g6, h⟩ := h
        refine pv_iast1 (n := 46) (f := 212) (by decide) rfl (fun _ => rfl) d_M_refuses_45 (by decide) g6 rfl (fun w7 e8 => ?_)
        replace h := h w7 e8
        refine pv_iload_n (n := 47) d_M_refuses_46 rfl rfl rfl ?_
        refine pv_aload_n (n := 48) d_M_refuses_47 rfl rfl rfl ?_
        refine pv_iload_n (n := 49) d_M_refuses_48 rfl rfl rfl ?_
        refine pv_aload_n (n := 50) d_M_refuses_49 rfl rfl rfl ?_
        refine pv_aload_n (n := 51) d_M_refuses_50 rfl rfl rfl ?_
        obtain ⟨g9, h⟩ := h
        refine gt_M_31 (n := 54) rfl d_M_refuses_51 (by decide) g9 rfl ?_
        refine pv_iload_n (n := 55) d_M_refuses_54 rfl rfl rfl ?_
        obtain ⟨g10, h⟩ := h
        refine pv_iald (n := 56) (f := 213) (by decide) rfl d_M_refuses_55 (by decide) g10 rfl ?_
        refine pv_callV (n := 59) (x := 0) [(0, (w7.1 213 0 (pw_i a3)))] [(0, a3), (10, 0), (0, a2)] (con_M_now hl0 h) pw_cf8 rfl q_502 q_503 q_504 q_458 q_501 pyo_M_now (by decide) rfl rfl (by decide) d_M_refuses_56 rfl (fun w11 r12 h _ => ?_) (fun _ _ h => h.elim)
        show pw_V l g cx_M_refuses Q X 59 [(10, 0), (0, a1), (0, a2), (0, a3)] [(0, r12), (0, a3), (10, 0), (0, a2)] w11
        refine pv_callV (n := 62) (x := 0) [(0, a3), (0, r12)] [(0, a2)] (con_M_comes hl0 h) pw_cf8 rfl q_494 q_495 q_496 q_458 q_493 pyo_M_comes (by decide) rfl rfl (by decide) d_M_refuses_59 rfl (fun w13 r14 h _ => ?_) (fun _ _ h => h.elim)
        show pw_V l g cx_M_refuses Q X 62 [(10, 0), (0, a1), (0, a2), (0, a3)] [(0, r14), (0, a2)] w13
        refine pv_iadd (n := 63) d_M_refuses_62 rfl ?_
        refine pv_nm (fun v15 e16 => ?_)
        replace h := h v15 e16
        refine pv_istore_n (n := 64) (L' := [(10, 0), (0, a1), (0, v15), (0, a3)]) d_M_refuses_63 rfl (by decide) rfl rfl ?_
        refine pv_iinc (v := (a3 + 1)) (n := 67) (L1 := [(10, 0), (0, a1), (0, v15), (0, (a3 + 1))]) d_M_refuses_64 rfl rfl rfl (by decide) rfl ?_
        refine pv_goto (tgt := 23) d_M_refuses_67 (by decide) ?_
        exact ih _ _ _ _ h
set_option maxHeartbeats 4000000 in
set_option maxRecDepth 20000 in
def wp_M_refuses (w : pw_W) (a1 : Int32) (Q : pw_W → Int32 → Prop) (X : pw_W → Nat → Prop) : Prop := w.1 8 0 32 = 0 ∧ pw_jn a1 (pw_ln w 232 0) ∧ ∀ w19, w19 = pw_ps w 232 0 (pw_i a1) 2 → w19.1 8 0 34 = 0 ∧ w19.1 8 0 33 = 0 ∧ pw_jn a1 (pw_ln w19 233 0) ∧ pw_jn a1 (pw_ln w19 234 0) ∧ ∀ w25, w25 = pw_ps w19 234 0 (pw_i a1) (w19.1 233 0 (pw_i a1)) → ∃ k27, lp_M_refuses_23 Q X k27 a1 0 0 w25
set_option maxHeartbeats 4000000 in
set_option maxRecDepth 20000 in
theorem vw_M_refuses {l : Launch} {g : pw_G} {Q : pw_W → Int32 → Prop} {X : pw_W → Nat → Prop} (hl0 : l.stackTraces = false) {w : pw_W} {a1 : Int32} (h : wp_M_refuses w a1 Q X) : pw_V l g cx_M_refuses Q X 0 [(10, 0), (0, a1), (1, 0), (1, 0)] [] w := by
  unfold wp_M_refuses at h
  refine pv_aload_n (n := 1) d_M_refuses_0 rfl rfl rfl ?_
  obtain ⟨g17, h⟩ := h
  refine gt_M_80 (n := 4) rfl d_M_refuses_1 (by decide) g17 rfl ?_
  refine pv_iload_n (n := 5) d_M_refuses_4 rfl rfl rfl ?_
  refine pv_iconst (v := 2) (n := 6) d_M_refuses_5 (by decide) rfl ?_
  obtain ⟨g18, h⟩ := h
  refine pv_iast1 (n := 7) (f := 232) (by decide) rfl (fun _ => rfl) d_M_refuses_6 (by decide) g18 rfl (fun w19 e20 => ?_)
  replace h := h w19 e20
  refine pv_aload_n (n := 8) d_M_refuses_7 rfl rfl rfl ?_
  obtain ⟨g21, h⟩ := h
  refine gt_M_86 (n := 11) rfl d_M_refuses_8 (by decide) g21 rfl ?_
  refine pv_iload_n (n := 12) d_M_refuses_11 rfl rfl rfl ?_
  refine pv_aload_n (n := 13) d_M_refuses_12 rfl rfl rfl ?_
  obtain ⟨g22, h⟩ := h
  refine gt_M_83 (n := 16) rfl d_M_refuses_13 (by decide) g22 rfl ?_
  refine pv_iload_n (n := 17) d_M_refuses_16 rfl rfl rfl ?_
  obtain ⟨g23, h⟩ := h
  refine pv_iald (n := 18) (f := 233) (by decide) rfl d_M_refuses_17 (by decide) g23 rfl ?_
  obtain ⟨g24, h⟩ := h
  refine pv_iast1 (n := 19) (f := 234) (by decide) rfl (fun _ => rfl) d_M_refuses_18 (by decide) g24 rfl (fun w25 e26 => ?_)
  replace h := h w25 e26
  refine pv_iconst (v := 0) (n := 20) d_M_refuses_19 (by decide) rfl ?_
  refine pv_istore_n (n := 21) (L' := [(10, 0), (0, a1), (0, 0), (1, 0)]) d_M_refuses_20 rfl (by decide) rfl rfl ?_
  refine pv_iconst (v := 0) (n := 22) d_M_refuses_21 (by decide) rfl ?_
  refine pv_istore_n (n := 23) (L' := [(10, 0), (0, a1), (0, 0), (0, 0)]) d_M_refuses_22 rfl (by decide) rfl rfl ?_
  obtain ⟨k27, h⟩ := h
  exact vlp_M_refuses_23 hl0 _ _ _ _ _ h
set_option maxHeartbeats 4000000 in
set_option maxRecDepth 20000 in
theorem con_M_refuses {l : Launch} {g : pw_G} {Q : pw_W → Int32 → Prop} {X : pw_W → Nat → Prop} (hl0 : l.stackTraces = false) {w : pw_W} {a1 : Int32} (h : wp_M_refuses w a1 Q X) : pw_Con l g y_M_refuses cx_M_refuses [(10, 0), (0, a1)] w Q X :=
  pw_con (by decide +kernel) rfl rfl hl0 rfl (Nat.le_of_ble_eq_true rfl) (by simp) (vw_M_refuses hl0 h)
theorem d_M_decide_0 : decode (pw_cc cx_M_decide) 0 = .ok (.aload_n 0, 1) := by decide +kernel
theorem d_M_decide_1 : decode (pw_cc cx_M_decide) 1 = .ok (.iload_n 1, 1) := by decide +kernel
theorem d_M_decide_2 : decode (pw_cc cx_M_decide) 2 = .ok (.invokevirtual 218, 3) := by decide +kernel
theorem d_M_decide_5 : decode (pw_cc cx_M_decide) 5 = .ok (.istore_n 2, 1) := by decide +kernel
theorem d_M_decide_6 : decode (pw_cc cx_M_decide) 6 = .ok (.iload_n 2, 1) := by decide +kernel
theorem d_M_decide_7 : decode (pw_cc cx_M_decide) 7 = .ok (.ifCond .eq 41, 3) := by decide +kernel
theorem d_M_decide_10 : decode (pw_cc cx_M_decide) 10 = .ok (.aload_n 0, 1) := by decide +kernel
theorem d_M_decide_11 : decode (pw_cc cx_M_decide) 11 = .ok (.getfield 80, 3) := by decide +kernel
theorem d_M_decide_14 : decode (pw_cc cx_M_decide) 14 = .ok (.iload_n 1, 1) := by decide +kernel
theorem d_M_decide_15 : decode (pw_cc cx_M_decide) 15 = .ok (.iaload, 1) := by decide +kernel
theorem d_M_decide_16 : decode (pw_cc cx_M_decide) 16 = .ok (.ifCond .ne 32, 3) := by decide +kernel
theorem d_M_decide_19 : decode (pw_cc cx_M_decide) 19 = .ok (.aload_n 0, 1) := by decide +kernel
theorem d_M_decide_20 : decode (pw_cc cx_M_decide) 20 = .ok (.iload_n 1, 1) := by decide +kernel
theorem d_M_decide_21 : decode (pw_cc cx_M_decide) 21 = .ok (.invokevirtual 227, 3) := by decide +kernel
theorem d_M_decide_24 : decode (pw_cc cx_M_decide) 24 = .ok (.ifCond .eq 20, 3) := by decide +kernel
theorem d_M_decide_27 : decode (pw_cc cx_M_decide) 27 = .ok (.aload_n 0, 1) := by decide +kernel
theorem d_M_decide_28 : decode (pw_cc cx_M_decide) 28 = .ok (.iload_n 1, 1) := by decide +kernel
theorem d_M_decide_29 : decode (pw_cc cx_M_decide) 29 = .ok (.invokevirtual 224, 3) := by decide +kernel
theorem d_M_decide_32 : decode (pw_cc cx_M_decide) 32 = .ok (.ifCond .eq 12, 3) := by decide +kernel
theorem d_M_decide_35 : decode (pw_cc cx_M_decide) 35 = .ok (.aload_n 0, 1) := by decide +kernel
theorem d_M_decide_36 : decode (pw_cc cx_M_decide) 36 = .ok (.getfield 116, 3) := by decide +kernel
theorem d_M_decide_39 : decode (pw_cc cx_M_decide) 39 = .ok (.bipush 40, 2) := by decide +kernel
theorem d_M_decide_41 : decode (pw_cc cx_M_decide) 41 = .ok (.if_icmp .ge 7, 3) := by decide +kernel
theorem d_M_decide_44 : decode (pw_cc cx_M_decide) 44 = .ok (.iconst 1, 1) := by decide +kernel
theorem d_M_decide_45 : decode (pw_cc cx_M_decide) 45 = .ok (.goto 4, 3) := by decide +kernel
theorem d_M_decide_48 : decode (pw_cc cx_M_decide) 48 = .ok (.iconst 0, 1) := by decide +kernel
theorem d_M_decide_49 : decode (pw_cc cx_M_decide) 49 = .ok (.istore_n 3, 1) := by decide +kernel
theorem d_M_decide_50 : decode (pw_cc cx_M_decide) 50 = .ok (.aload_n 0, 1) := by decide +kernel
theorem d_M_decide_51 : decode (pw_cc cx_M_decide) 51 = .ok (.iload_n 2, 1) := by decide +kernel
theorem d_M_decide_52 : decode (pw_cc cx_M_decide) 52 = .ok (.ifCond .ne 7, 3) := by decide +kernel
theorem d_M_decide_55 : decode (pw_cc cx_M_decide) 55 = .ok (.iconst 1, 1) := by decide +kernel
theorem d_M_decide_56 : decode (pw_cc cx_M_decide) 56 = .ok (.goto 12, 3) := by decide +kernel
theorem d_M_decide_59 : decode (pw_cc cx_M_decide) 59 = .ok (.iload_n 3, 1) := by decide +kernel
theorem d_M_decide_60 : decode (pw_cc cx_M_decide) 60 = .ok (.ifCond .ne 7, 3) := by decide +kernel
theorem d_M_decide_63 : decode (pw_cc cx_M_decide) 63 = .ok (.iconst 2, 1) := by decide +kernel
theorem d_M_decide_64 : decode (pw_cc cx_M_decide) 64 = .ok (.goto 4, 3) := by decide +kernel
theorem d_M_decide_67 : decode (pw_cc cx_M_decide) 67 = .ok (.iconst 0, 1) := by decide +kernel
theorem d_M_decide_68 : decode (pw_cc cx_M_decide) 68 = .ok (.invokevirtual 179, 3) := by decide +kernel
theorem d_M_decide_71 : decode (pw_cc cx_M_decide) 71 = .ok (.ifCond .ne 5, 3) := by decide +kernel
theorem d_M_decide_74 : decode (pw_cc cx_M_decide) 74 = .ok (.iconst 0, 1) := by decide +kernel
theorem d_M_decide_75 : decode (pw_cc cx_M_decide) 75 = .ok (.ireturn, 1) := by decide +kernel
theorem d_M_decide_76 : decode (pw_cc cx_M_decide) 76 = .ok (.aload_n 0, 1) := by decide +kernel
theorem d_M_decide_77 : decode (pw_cc cx_M_decide) 77 = .ok (.iload_n 1, 1) := by decide +kernel
theorem d_M_decide_78 : decode (pw_cc cx_M_decide) 78 = .ok (.invokevirtual 227, 3) := by decide +kernel
theorem d_M_decide_81 : decode (pw_cc cx_M_decide) 81 = .ok (.ifCond .eq 11, 3) := by decide +kernel
theorem d_M_decide_84 : decode (pw_cc cx_M_decide) 84 = .ok (.aload_n 0, 1) := by decide +kernel
theorem d_M_decide_85 : decode (pw_cc cx_M_decide) 85 = .ok (.iload_n 1, 1) := by decide +kernel
theorem d_M_decide_86 : decode (pw_cc cx_M_decide) 86 = .ok (.invokevirtual 230, 3) := by decide +kernel
theorem d_M_decide_89 : decode (pw_cc cx_M_decide) 89 = .ok (.goto 8, 3) := by decide +kernel
theorem d_M_decide_92 : decode (pw_cc cx_M_decide) 92 = .ok (.aload_n 0, 1) := by decide +kernel
theorem d_M_decide_93 : decode (pw_cc cx_M_decide) 93 = .ok (.iload_n 1, 1) := by decide +kernel
theorem d_M_decide_94 : decode (pw_cc cx_M_decide) 94 = .ok (.invokevirtual 233, 3) := by decide +kernel
theorem d_M_decide_97 : decode (pw_cc cx_M_decide) 97 = .ok (.ireturn, 1) := by decide +kernel
set_option maxHeartbeats 4000000 in
set_option maxRecDepth 20000 in
def jp_M_decide_68 (Q : pw_W → Int32 → Prop) (X : pw_W → Nat → Prop) (a1 s0 : Int32) (w : pw_W) : Prop := wp_M_isFine w s0 (fun w1 r2 => (¬ r2 = 0 → wp_M_wins w1 a1 (fun w4 r5 => (r5 = 0 → wp_M_refuses w4 a1 (fun w7 r8 => Q w7 r8) (fun _ _ => False)) ∧ (¬ r5 = 0 → wp_M_grants w4 a1 (fun w9 r10 => Q w9 r10) (fun _ _ => False))) (fun _ _ => False)) ∧ (r2 = 0 → Q w1 0)) (fun _ _ => False)
set_option maxHeartbeats 4000000 in
set_option maxRecDepth 20000 in
theorem vjp_M_decide_68 {l : Launch} {g : pw_G} {Q : pw_W → Int32 → Prop} {X : pw_W → Nat → Prop} (hl0 : l.stackTraces = false) (a1 s0 : Int32) (w : pw_W) (h : jp_M_decide_68 Q X a1 s0 w) : pw_V l g cx_M_decide Q X 68 [(10, 0), (0, a1), (1, 0), (1, 0)] [(0, s0), (10, 0)] w := by
  unfold jp_M_decide_68 at h
  refine pv_callV (n := 71) (x := 0) [(0, s0)] [] (con_M_isFine hl0 h) pw_cf8 rfl q_506 q_507 q_508 q_458 q_505 pyo_M_isFine (by decide) rfl rfl (by decide) d_M_decide_68 rfl (fun w1 r2 h _ => ?_) (fun _ _ h => h.elim)
  show pw_V l g cx_M_decide Q X 71 [(10, 0), (0, a1), (1, 0), (1, 0)] [(0, r2)] w1
  refine pv_if_ne (n := 74) (tgt := 76) d_M_decide_71 (by decide) rfl (fun c3 => ?_) (fun c3 => ?_)
  · replace h := h.1 c3
    refine pv_aload_n (n := 77) d_M_decide_76 rfl rfl rfl ?_
    refine pv_iload_n (n := 78) d_M_decide_77 rfl rfl rfl ?_
    refine pv_callV (n := 81) (x := 0) [(0, a1)] [] (con_M_wins hl0 h) pw_cf8 rfl q_573 q_574 q_575 q_458 q_572 pyo_M_wins (by decide) rfl rfl (by decide) d_M_decide_78 rfl (fun w4 r5 h _ => ?_) (fun _ _ h => h.elim)
    show pw_V l g cx_M_decide Q X 81 [(10, 0), (0, a1), (1, 0), (1, 0)] [(0, r5)] w4
    refine pv_if_eq (n := 84) (tgt := 92) d_M_decide_81 (by decide) rfl (fun c6 => ?_) (fun c6 => ?_)
    · replace h := h.1 c6
      refine pv_aload_n (n := 93) d_M_decide_92 rfl rfl rfl ?_
      refine pv_iload_n (n := 94) d_M_decide_93 rfl rfl rfl ?_
      refine pv_callV (n := 97) (x := 0) [(0, a1)] [] (con_M_refuses hl0 h) pw_cf8 rfl q_565 q_566 q_567 q_458 q_564 pyo_M_refuses (by decide) rfl rfl (by decide) d_M_decide_94 rfl (fun w7 r8 h _ => ?_) (fun _ _ h => h.elim)
      show pw_V l g cx_M_decide Q X 97 [(10, 0), (0, a1), (1, 0), (1, 0)] [(0, r8)] w7
      exact pv_iret rfl rfl d_M_decide_97 h
    · replace h := h.2 c6
      refine pv_aload_n (n := 85) d_M_decide_84 rfl rfl rfl ?_
      refine pv_iload_n (n := 86) d_M_decide_85 rfl rfl rfl ?_
      refine pv_callV (n := 89) (x := 0) [(0, a1)] [] (con_M_grants hl0 h) pw_cf8 rfl q_569 q_570 q_571 q_458 q_568 pyo_M_grants (by decide) rfl rfl (by decide) d_M_decide_86 rfl (fun w9 r10 h _ => ?_) (fun _ _ h => h.elim)
      show pw_V l g cx_M_decide Q X 89 [(10, 0), (0, a1), (1, 0), (1, 0)] [(0, r10)] w9
      refine pv_goto (tgt := 97) d_M_decide_89 (by decide) ?_
      exact pv_iret rfl rfl d_M_decide_97 h
  · replace h := h.2 c3
    refine pv_iconst (v := 0) (n := 75) d_M_decide_74 (by decide) rfl ?_
    exact pv_iret rfl rfl d_M_decide_75 h
set_option maxHeartbeats 4000000 in
set_option maxRecDepth 20000 in
def jp_M_decide_49 (Q : pw_W → Int32 → Prop) (X : pw_W → Nat → Prop) (a1 a2 s0 : Int32) (w : pw_W) : Prop := (¬ a2 = 0 → (¬ s0 = 0 → jp_M_decide_68 Q X a1 0 w) ∧ (s0 = 0 → jp_M_decide_68 Q X a1 2 w)) ∧ (a2 = 0 → jp_M_decide_68 Q X a1 1 w)
set_option maxHeartbeats 4000000 in
set_option maxRecDepth 20000 in
theorem vjp_M_decide_49 {l : Launch} {g : pw_G} {Q : pw_W → Int32 → Prop} {X : pw_W → Nat → Prop} (hl0 : l.stackTraces = false) (a1 a2 s0 : Int32) (w : pw_W) (h : jp_M_decide_49 Q X a1 a2 s0 w) : pw_V l g cx_M_decide Q X 49 [(10, 0), (0, a1), (0, a2), (1, 0)] [(0, s0)] w := by
  unfold jp_M_decide_49 at h
  refine pv_istore_n (n := 50) (L' := [(10, 0), (0, a1), (0, a2), (0, s0)]) d_M_decide_49 rfl (by decide) rfl rfl ?_
  refine pv_aload_n (n := 51) d_M_decide_50 rfl rfl rfl ?_
  refine pv_iload_n (n := 52) d_M_decide_51 rfl rfl rfl ?_
  refine pv_if_ne (n := 55) (tgt := 59) d_M_decide_52 (by decide) rfl (fun c11 => ?_) (fun c11 => ?_)
  · replace h := h.1 c11
    refine pv_iload_n (n := 60) d_M_decide_59 rfl rfl rfl ?_
    refine pv_if_ne (n := 63) (tgt := 67) d_M_decide_60 (by decide) rfl (fun c12 => ?_) (fun c12 => ?_)
    · replace h := h.1 c12
      refine pv_iconst (v := 0) (n := 68) d_M_decide_67 (by decide) rfl ?_
      refine pv_unset (i := 2) (L1 := [(10, 0), (0, a1), (1, 0), (0, s0)]) rfl ?_
      refine pv_unset (i := 3) (L1 := [(10, 0), (0, a1), (1, 0), (1, 0)]) rfl ?_
      exact vjp_M_decide_68 hl0 _ _ _ h
    · replace h := h.2 c12
      refine pv_iconst (v := 2) (n := 64) d_M_decide_63 (by decide) rfl ?_
      refine pv_goto (tgt := 68) d_M_decide_64 (by decide) ?_
      refine pv_unset (i := 2) (L1 := [(10, 0), (0, a1), (1, 0), (0, s0)]) rfl ?_
      refine pv_unset (i := 3) (L1 := [(10, 0), (0, a1), (1, 0), (1, 0)]) rfl ?_
      exact vjp_M_decide_68 hl0 _ _ _ h
  · replace h := h.2 c11
    refine pv_iconst (v := 1) (n := 56) d_M_decide_55 (by decide) rfl ?_
    refine pv_goto (tgt := 68) d_M_decide_56 (by decide) ?_
    refine pv_unset (i := 2) (L1 := [(10, 0), (0, a1), (1, 0), (0, s0)]) rfl ?_
    refine pv_unset (i := 3) (L1 := [(10, 0), (0, a1), (1, 0), (1, 0)]) rfl ?_
    exact vjp_M_decide_68 hl0 _ _ _ h
set_option maxHeartbeats 4000000 in
set_option maxRecDepth 20000 in
def jp_M_decide_48 (Q : pw_W → Int32 → Prop) (X : pw_W → Nat → Prop) (a1 a2 : Int32) (w : pw_W) : Prop := jp_M_decide_49 Q X a1 a2 0 w
set_option maxHeartbeats 4000000 in
set_option maxRecDepth 20000 in
theorem vjp_M_decide_48 {l : Launch} {g : pw_G} {Q : pw_W → Int32 → Prop} {X : pw_W → Nat → Prop} (hl0 : l.stackTraces = false) (a1 a2 : Int32) (w : pw_W) (h : jp_M_decide_48 Q X a1 a2 w) : pw_V l g cx_M_decide Q X 48 [(10, 0), (0, a1), (0, a2), (1, 0)] [] w := by
  unfold jp_M_decide_48 at h
  refine pv_iconst (v := 0) (n := 49) d_M_decide_48 (by decide) rfl ?_
  exact vjp_M_decide_49 hl0 _ _ _ _ h
set_option maxHeartbeats 4000000 in
set_option maxRecDepth 20000 in
def jp_M_decide_44 (Q : pw_W → Int32 → Prop) (X : pw_W → Nat → Prop) (a1 a2 : Int32) (w : pw_W) : Prop := jp_M_decide_49 Q X a1 a2 1 w
set_option maxHeartbeats 4000000 in
set_option maxRecDepth 20000 in
theorem vjp_M_decide_44 {l : Launch} {g : pw_G} {Q : pw_W → Int32 → Prop} {X : pw_W → Nat → Prop} (hl0 : l.stackTraces = false) (a1 a2 : Int32) (w : pw_W) (h : jp_M_decide_44 Q X a1 a2 w) : pw_V l g cx_M_decide Q X 44 [(10, 0), (0, a1), (0, a2), (1, 0)] [] w := by
  unfold jp_M_decide_44 at h
  refine pv_iconst (v := 1) (n := 45) d_M_decide_44 (by decide) rfl ?_
  refine pv_goto (tgt := 49) d_M_decide_45 (by decide) ?_
  exact vjp_M_decide_49 hl0 _ _ _ _ h
set_option maxHeartbeats 4000000 in
set_option maxRecDepth 20000 in
def wp_M_decide (w : pw_W) (a1 : Int32) (Q : pw_W → Int32 → Prop) (X : pw_W → Nat → Prop) : Prop := wp_M_isCase w a1 (fun w13 r14 => (r14 = 0 → jp_M_decide_48 Q X a1 r14 w13) ∧ (¬ r14 = 0 → w13.1 8 0 32 = 0 ∧ pw_jn a1 (pw_ln w13 232 0) ∧ (¬ (w13.1 232 0 (pw_i a1)) = 0 → jp_M_decide_48 Q X a1 r14 w13) ∧ ((w13.1 232 0 (pw_i a1)) = 0 → wp_M_wins w13 a1 (fun w19 r20 => (r20 = 0 → jp_M_decide_44 Q X a1 r14 w19) ∧ (¬ r20 = 0 → wp_M_gotten w19 a1 (fun w22 r23 => (r23 = 0 → jp_M_decide_44 Q X a1 r14 w22) ∧ (¬ r23 = 0 → ((40 : Int32) ≤ (w22.1 8 0 18) → jp_M_decide_48 Q X a1 r14 w22) ∧ (¬ (40 : Int32) ≤ (w22.1 8 0 18) → jp_M_decide_44 Q X a1 r14 w22))) (fun _ _ => False))) (fun _ _ => False)))) (fun _ _ => False)
set_option maxHeartbeats 4000000 in
set_option maxRecDepth 20000 in
theorem vw_M_decide {l : Launch} {g : pw_G} {Q : pw_W → Int32 → Prop} {X : pw_W → Nat → Prop} (hl0 : l.stackTraces = false) {w : pw_W} {a1 : Int32} (h : wp_M_decide w a1 Q X) : pw_V l g cx_M_decide Q X 0 [(10, 0), (0, a1), (1, 0), (1, 0)] [] w := by
  unfold wp_M_decide at h
  refine pv_aload_n (n := 1) d_M_decide_0 rfl rfl rfl ?_
  refine pv_iload_n (n := 2) d_M_decide_1 rfl rfl rfl ?_
  refine pv_callV (n := 5) (x := 0) [(0, a1)] [] (con_M_isCase hl0 h) pw_cf8 rfl q_553 q_554 q_555 q_458 q_552 pyo_M_isCase (by decide) rfl rfl (by decide) d_M_decide_2 rfl (fun w13 r14 h _ => ?_) (fun _ _ h => h.elim)
  show pw_V l g cx_M_decide Q X 5 [(10, 0), (0, a1), (1, 0), (1, 0)] [(0, r14)] w13
  refine pv_istore_n (n := 6) (L' := [(10, 0), (0, a1), (0, r14), (1, 0)]) d_M_decide_5 rfl (by decide) rfl rfl ?_
  refine pv_iload_n (n := 7) d_M_decide_6 rfl rfl rfl ?_
  refine pv_if_eq (n := 10) (tgt := 48) d_M_decide_7 (by decide) rfl (fun c15 => ?_) (fun c15 => ?_)
  · replace h := h.1 c15
    exact vjp_M_decide_48 hl0 _ _ _ h
  · replace h := h.2 c15
    refine pv_aload_n (n := 11) d_M_decide_10 rfl rfl rfl ?_
    obtain ⟨g16, h⟩ := h
    refine gt_M_80 (n := 14) rfl d_M_decide_11 (by decide) g16 rfl ?_
    refine pv_iload_n (n := 15) d_M_decide_14 rfl rfl rfl ?_
    obtain ⟨g17, h⟩ := h
    refine pv_iald (n := 16) (f := 232) (by decide) rfl d_M_decide_15 (by decide) g17 rfl ?_
    refine pv_if_ne (n := 19) (tgt := 48) d_M_decide_16 (by decide) rfl (fun c18 => ?_) (fun c18 => ?_)
    · replace h := h.1 c18
      exact vjp_M_decide_48 hl0 _ _ _ h
    · replace h := h.2 c18
      refine pv_aload_n (n := 20) d_M_decide_19 rfl rfl rfl ?_
      refine pv_iload_n (n := 21) d_M_decide_20 rfl rfl rfl ?_
      refine pv_callV (n := 24) (x := 0) [(0, a1)] [] (con_M_wins hl0 h) pw_cf8 rfl q_573 q_574 q_575 q_458 q_572 pyo_M_wins (by decide) rfl rfl (by decide) d_M_decide_21 rfl (fun w19 r20 h _ => ?_) (fun _ _ h => h.elim)
      show pw_V l g cx_M_decide Q X 24 [(10, 0), (0, a1), (0, r14), (1, 0)] [(0, r20)] w19
      refine pv_if_eq (n := 27) (tgt := 44) d_M_decide_24 (by decide) rfl (fun c21 => ?_) (fun c21 => ?_)
      · replace h := h.1 c21
        exact vjp_M_decide_44 hl0 _ _ _ h
      · replace h := h.2 c21
        refine pv_aload_n (n := 28) d_M_decide_27 rfl rfl rfl ?_
        refine pv_iload_n (n := 29) d_M_decide_28 rfl rfl rfl ?_
        refine pv_callV (n := 32) (x := 0) [(0, a1)] [] (con_M_gotten hl0 h) pw_cf8 rfl q_561 q_562 q_563 q_458 q_560 pyo_M_gotten (by decide) rfl rfl (by decide) d_M_decide_29 rfl (fun w22 r23 h _ => ?_) (fun _ _ h => h.elim)
        show pw_V l g cx_M_decide Q X 32 [(10, 0), (0, a1), (0, r14), (1, 0)] [(0, r23)] w22
        refine pv_if_eq (n := 35) (tgt := 44) d_M_decide_32 (by decide) rfl (fun c24 => ?_) (fun c24 => ?_)
        · replace h := h.1 c24
          exact vjp_M_decide_44 hl0 _ _ _ h
        · replace h := h.2 c24
          refine pv_aload_n (n := 36) d_M_decide_35 rfl rfl rfl ?_
          refine gt_M_116 (n := 39) rfl d_M_decide_36 (by decide) rfl ?_
          refine pv_bipush (v := 40) (n := 41) d_M_decide_39 (by decide) rfl ?_
          refine pv_icmp_ge (n := 44) (tgt := 48) d_M_decide_41 (by decide) rfl (fun c25 => ?_) (fun c25 => ?_)
          · replace h := h.1 c25
            exact vjp_M_decide_48 hl0 _ _ _ h
          · replace h := h.2 c25
            exact vjp_M_decide_44 hl0 _ _ _ h
set_option maxHeartbeats 4000000 in
set_option maxRecDepth 20000 in
theorem con_M_decide {l : Launch} {g : pw_G} {Q : pw_W → Int32 → Prop} {X : pw_W → Nat → Prop} (hl0 : l.stackTraces = false) {w : pw_W} {a1 : Int32} (h : wp_M_decide w a1 Q X) : pw_Con l g y_M_decide cx_M_decide [(10, 0), (0, a1)] w Q X :=
  pw_con (by decide +kernel) rfl rfl hl0 rfl (Nat.le_of_ble_eq_true rfl) (by simp) (vw_M_decide hl0 h)
theorem d_M_appeal_0 : decode (pw_cc cx_M_appeal) 0 = .ok (.aload_n 0, 1) := by decide +kernel
theorem d_M_appeal_1 : decode (pw_cc cx_M_appeal) 1 = .ok (.iload_n 1, 1) := by decide +kernel
theorem d_M_appeal_2 : decode (pw_cc cx_M_appeal) 2 = .ok (.invokevirtual 218, 3) := by decide +kernel
theorem d_M_appeal_5 : decode (pw_cc cx_M_appeal) 5 = .ok (.istore_n 2, 1) := by decide +kernel
theorem d_M_appeal_6 : decode (pw_cc cx_M_appeal) 6 = .ok (.aload_n 0, 1) := by decide +kernel
theorem d_M_appeal_7 : decode (pw_cc cx_M_appeal) 7 = .ok (.iload_n 2, 1) := by decide +kernel
theorem d_M_appeal_8 : decode (pw_cc cx_M_appeal) 8 = .ok (.ifCond .ne 7, 3) := by decide +kernel
theorem d_M_appeal_11 : decode (pw_cc cx_M_appeal) 11 = .ok (.iconst 1, 1) := by decide +kernel
theorem d_M_appeal_12 : decode (pw_cc cx_M_appeal) 12 = .ok (.goto 41, 3) := by decide +kernel
theorem d_M_appeal_15 : decode (pw_cc cx_M_appeal) 15 = .ok (.aload_n 0, 1) := by decide +kernel
theorem d_M_appeal_16 : decode (pw_cc cx_M_appeal) 16 = .ok (.getfield 80, 3) := by decide +kernel
theorem d_M_appeal_19 : decode (pw_cc cx_M_appeal) 19 = .ok (.iload_n 1, 1) := by decide +kernel
theorem d_M_appeal_20 : decode (pw_cc cx_M_appeal) 20 = .ok (.iaload, 1) := by decide +kernel
theorem d_M_appeal_21 : decode (pw_cc cx_M_appeal) 21 = .ok (.ifCond .eq 27, 3) := by decide +kernel
theorem d_M_appeal_24 : decode (pw_cc cx_M_appeal) 24 = .ok (.aload_n 0, 1) := by decide +kernel
theorem d_M_appeal_25 : decode (pw_cc cx_M_appeal) 25 = .ok (.getfield 83, 3) := by decide +kernel
theorem d_M_appeal_28 : decode (pw_cc cx_M_appeal) 28 = .ok (.iload_n 1, 1) := by decide +kernel
theorem d_M_appeal_29 : decode (pw_cc cx_M_appeal) 29 = .ok (.iaload, 1) := by decide +kernel
theorem d_M_appeal_30 : decode (pw_cc cx_M_appeal) 30 = .ok (.iconst 2, 1) := by decide +kernel
theorem d_M_appeal_31 : decode (pw_cc cx_M_appeal) 31 = .ok (.if_icmp .eq 17, 3) := by decide +kernel
theorem d_M_appeal_34 : decode (pw_cc cx_M_appeal) 34 = .ok (.aload_n 0, 1) := by decide +kernel
theorem d_M_appeal_35 : decode (pw_cc cx_M_appeal) 35 = .ok (.getfield 104, 3) := by decide +kernel
theorem d_M_appeal_38 : decode (pw_cc cx_M_appeal) 38 = .ok (.aload_n 0, 1) := by decide +kernel
theorem d_M_appeal_39 : decode (pw_cc cx_M_appeal) 39 = .ok (.getfield 77, 3) := by decide +kernel
theorem d_M_appeal_42 : decode (pw_cc cx_M_appeal) 42 = .ok (.iload_n 1, 1) := by decide +kernel
theorem d_M_appeal_43 : decode (pw_cc cx_M_appeal) 43 = .ok (.iaload, 1) := by decide +kernel
theorem d_M_appeal_44 : decode (pw_cc cx_M_appeal) 44 = .ok (.baload, 1) := by decide +kernel
theorem d_M_appeal_45 : decode (pw_cc cx_M_appeal) 45 = .ok (.ifCond .eq 7, 3) := by decide +kernel
theorem d_M_appeal_48 : decode (pw_cc cx_M_appeal) 48 = .ok (.iconst 2, 1) := by decide +kernel
theorem d_M_appeal_49 : decode (pw_cc cx_M_appeal) 49 = .ok (.goto 4, 3) := by decide +kernel
theorem d_M_appeal_52 : decode (pw_cc cx_M_appeal) 52 = .ok (.iconst 0, 1) := by decide +kernel
theorem d_M_appeal_53 : decode (pw_cc cx_M_appeal) 53 = .ok (.invokevirtual 179, 3) := by decide +kernel
theorem d_M_appeal_56 : decode (pw_cc cx_M_appeal) 56 = .ok (.ifCond .ne 5, 3) := by decide +kernel
theorem d_M_appeal_59 : decode (pw_cc cx_M_appeal) 59 = .ok (.iconst 0, 1) := by decide +kernel
theorem d_M_appeal_60 : decode (pw_cc cx_M_appeal) 60 = .ok (.ireturn, 1) := by decide +kernel
theorem d_M_appeal_61 : decode (pw_cc cx_M_appeal) 61 = .ok (.aload_n 0, 1) := by decide +kernel
theorem d_M_appeal_62 : decode (pw_cc cx_M_appeal) 62 = .ok (.getfield 83, 3) := by decide +kernel
theorem d_M_appeal_65 : decode (pw_cc cx_M_appeal) 65 = .ok (.iload_n 1, 1) := by decide +kernel
theorem d_M_appeal_66 : decode (pw_cc cx_M_appeal) 66 = .ok (.dup2, 1) := by decide +kernel
theorem d_M_appeal_67 : decode (pw_cc cx_M_appeal) 67 = .ok (.iaload, 1) := by decide +kernel
theorem d_M_appeal_68 : decode (pw_cc cx_M_appeal) 68 = .ok (.iconst 1, 1) := by decide +kernel
theorem d_M_appeal_69 : decode (pw_cc cx_M_appeal) 69 = .ok (.iadd, 1) := by decide +kernel
theorem d_M_appeal_70 : decode (pw_cc cx_M_appeal) 70 = .ok (.iastore, 1) := by decide +kernel
theorem d_M_appeal_71 : decode (pw_cc cx_M_appeal) 71 = .ok (.aload_n 0, 1) := by decide +kernel
theorem d_M_appeal_72 : decode (pw_cc cx_M_appeal) 72 = .ok (.getfield 80, 3) := by decide +kernel
theorem d_M_appeal_75 : decode (pw_cc cx_M_appeal) 75 = .ok (.iload_n 1, 1) := by decide +kernel
theorem d_M_appeal_76 : decode (pw_cc cx_M_appeal) 76 = .ok (.iconst 0, 1) := by decide +kernel
theorem d_M_appeal_77 : decode (pw_cc cx_M_appeal) 77 = .ok (.iastore, 1) := by decide +kernel
theorem d_M_appeal_78 : decode (pw_cc cx_M_appeal) 78 = .ok (.aload_n 0, 1) := by decide +kernel
theorem d_M_appeal_79 : decode (pw_cc cx_M_appeal) 79 = .ok (.getfield 83, 3) := by decide +kernel
theorem d_M_appeal_82 : decode (pw_cc cx_M_appeal) 82 = .ok (.iload_n 1, 1) := by decide +kernel
theorem d_M_appeal_83 : decode (pw_cc cx_M_appeal) 83 = .ok (.iaload, 1) := by decide +kernel
theorem d_M_appeal_84 : decode (pw_cc cx_M_appeal) 84 = .ok (.ireturn, 1) := by decide +kernel
set_option maxHeartbeats 4000000 in
set_option maxRecDepth 20000 in
def jp_M_appeal_53 (Q : pw_W → Int32 → Prop) (X : pw_W → Nat → Prop) (a1 s0 : Int32) (w : pw_W) : Prop := wp_M_isFine w s0 (fun w1 r2 => (¬ r2 = 0 → w1.1 8 0 33 = 0 ∧ pw_jn a1 (pw_ln w1 233 0) ∧ pw_jn a1 (pw_ln w1 233 0) ∧ ∀ w7, w7 = pw_ps w1 233 0 (pw_i a1) ((w1.1 233 0 (pw_i a1)) + 1) → w7.1 8 0 32 = 0 ∧ pw_jn a1 (pw_ln w7 232 0) ∧ ∀ w11, w11 = pw_ps w7 232 0 (pw_i a1) 0 → w11.1 8 0 33 = 0 ∧ pw_jn a1 (pw_ln w11 233 0) ∧ Q w11 (w11.1 233 0 (pw_i a1))) ∧ (r2 = 0 → Q w1 0)) (fun _ _ => False)
set_option maxHeartbeats 4000000 in
set_option maxRecDepth 20000 in
theorem vjp_M_appeal_53 {l : Launch} {g : pw_G} {Q : pw_W → Int32 → Prop} {X : pw_W → Nat → Prop} (hl0 : l.stackTraces = false) (a1 s0 : Int32) (w : pw_W) (h : jp_M_appeal_53 Q X a1 s0 w) : pw_V l g cx_M_appeal Q X 53 [(10, 0), (0, a1), (1, 0)] [(0, s0), (10, 0)] w := by
  unfold jp_M_appeal_53 at h
  refine pv_callV (n := 56) (x := 0) [(0, s0)] [] (con_M_isFine hl0 h) pw_cf8 rfl q_506 q_507 q_508 q_458 q_505 pyo_M_isFine (by decide) rfl rfl (by decide) d_M_appeal_53 rfl (fun w1 r2 h _ => ?_) (fun _ _ h => h.elim)
  show pw_V l g cx_M_appeal Q X 56 [(10, 0), (0, a1), (1, 0)] [(0, r2)] w1
  refine pv_if_ne (n := 59) (tgt := 61) d_M_appeal_56 (by decide) rfl (fun c3 => ?_) (fun c3 => ?_)
  · replace h := h.1 c3
    refine pv_aload_n (n := 62) d_M_appeal_61 rfl rfl rfl ?_
    obtain ⟨g4, h⟩ := h
    refine gt_M_83 (n := 65) rfl d_M_appeal_62 (by decide) g4 rfl ?_
    refine pv_iload_n (n := 66) d_M_appeal_65 rfl rfl rfl ?_
    refine pv_dup2 (n := 67) d_M_appeal_66 (by decide) (by decide) rfl ?_
    obtain ⟨g5, h⟩ := h
    refine pv_iald (n := 68) (f := 233) (by decide) rfl d_M_appeal_67 (by decide) g5 rfl ?_
    refine pv_iconst (v := 1) (n := 69) d_M_appeal_68 (by decide) rfl ?_
    refine pv_iadd (n := 70) d_M_appeal_69 rfl ?_
    obtain ⟨g6, h⟩ := h
    refine pv_iast1 (n := 71) (f := 233) (by decide) rfl (fun _ => rfl) d_M_appeal_70 (by decide) g6 rfl (fun w7 e8 => ?_)
    replace h := h w7 e8
    refine pv_aload_n (n := 72) d_M_appeal_71 rfl rfl rfl ?_
    obtain ⟨g9, h⟩ := h
    refine gt_M_80 (n := 75) rfl d_M_appeal_72 (by decide) g9 rfl ?_
    refine pv_iload_n (n := 76) d_M_appeal_75 rfl rfl rfl ?_
    refine pv_iconst (v := 0) (n := 77) d_M_appeal_76 (by decide) rfl ?_
    obtain ⟨g10, h⟩ := h
    refine pv_iast1 (n := 78) (f := 232) (by decide) rfl (fun _ => rfl) d_M_appeal_77 (by decide) g10 rfl (fun w11 e12 => ?_)
    replace h := h w11 e12
    refine pv_aload_n (n := 79) d_M_appeal_78 rfl rfl rfl ?_
    obtain ⟨g13, h⟩ := h
    refine gt_M_83 (n := 82) rfl d_M_appeal_79 (by decide) g13 rfl ?_
    refine pv_iload_n (n := 83) d_M_appeal_82 rfl rfl rfl ?_
    obtain ⟨g14, h⟩ := h
    refine pv_iald (n := 84) (f := 233) (by decide) rfl d_M_appeal_83 (by decide) g14 rfl ?_
    exact pv_iret rfl rfl d_M_appeal_84 h
  · replace h := h.2 c3
    refine pv_iconst (v := 0) (n := 60) d_M_appeal_59 (by decide) rfl ?_
    exact pv_iret rfl rfl d_M_appeal_60 h
set_option maxHeartbeats 4000000 in
set_option maxRecDepth 20000 in
def jp_M_appeal_48 (Q : pw_W → Int32 → Prop) (X : pw_W → Nat → Prop) (a1 : Int32) (w : pw_W) : Prop := jp_M_appeal_53 Q X a1 2 w
set_option maxHeartbeats 4000000 in
set_option maxRecDepth 20000 in
theorem vjp_M_appeal_48 {l : Launch} {g : pw_G} {Q : pw_W → Int32 → Prop} {X : pw_W → Nat → Prop} (hl0 : l.stackTraces = false) (a1 : Int32) (w : pw_W) (h : jp_M_appeal_48 Q X a1 w) : pw_V l g cx_M_appeal Q X 48 [(10, 0), (0, a1), (1, 0)] [(10, 0)] w := by
  unfold jp_M_appeal_48 at h
  refine pv_iconst (v := 2) (n := 49) d_M_appeal_48 (by decide) rfl ?_
  refine pv_goto (tgt := 53) d_M_appeal_49 (by decide) ?_
  exact vjp_M_appeal_53 hl0 _ _ _ h
set_option maxHeartbeats 4000000 in
set_option maxRecDepth 20000 in
def wp_M_appeal (w : pw_W) (a1 : Int32) (Q : pw_W → Int32 → Prop) (X : pw_W → Nat → Prop) : Prop := wp_M_isCase w a1 (fun w15 r16 => (¬ r16 = 0 → w15.1 8 0 32 = 0 ∧ pw_jn a1 (pw_ln w15 232 0) ∧ ((w15.1 232 0 (pw_i a1)) = 0 → jp_M_appeal_48 Q X a1 w15) ∧ (¬ (w15.1 232 0 (pw_i a1)) = 0 → w15.1 8 0 33 = 0 ∧ pw_jn a1 (pw_ln w15 233 0) ∧ ((w15.1 233 0 (pw_i a1)) = 2 → jp_M_appeal_48 Q X a1 w15) ∧ (¬ (w15.1 233 0 (pw_i a1)) = 2 → w15.1 8 0 42 = 0 ∧ w15.1 8 0 31 = 0 ∧ pw_jn a1 (pw_ln w15 231 0) ∧ pw_jn (w15.1 231 0 (pw_i a1)) (pw_ln w15 242 0) ∧ ((w15.1 242 0 (pw_i (w15.1 231 0 (pw_i a1)))) = 0 → jp_M_appeal_53 Q X a1 0 w15) ∧ (¬ (w15.1 242 0 (pw_i (w15.1 231 0 (pw_i a1)))) = 0 → jp_M_appeal_48 Q X a1 w15)))) ∧ (r16 = 0 → jp_M_appeal_53 Q X a1 1 w15)) (fun _ _ => False)
set_option maxHeartbeats 4000000 in
set_option maxRecDepth 20000 in
theorem vw_M_appeal {l : Launch} {g : pw_G} {Q : pw_W → Int32 → Prop} {X : pw_W → Nat → Prop} (hl0 : l.stackTraces = false) {w : pw_W} {a1 : Int32} (h : wp_M_appeal w a1 Q X) : pw_V l g cx_M_appeal Q X 0 [(10, 0), (0, a1), (1, 0)] [] w := by
  unfold wp_M_appeal at h
  refine pv_aload_n (n := 1) d_M_appeal_0 rfl rfl rfl ?_
  refine pv_iload_n (n := 2) d_M_appeal_1 rfl rfl rfl ?_
  refine pv_callV (n := 5) (x := 0) [(0, a1)] [] (con_M_isCase hl0 h) pw_cf8 rfl q_553 q_554 q_555 q_458 q_552 pyo_M_isCase (by decide) rfl rfl (by decide) d_M_appeal_2 rfl (fun w15 r16 h _ => ?_) (fun _ _ h => h.elim)
  show pw_V l g cx_M_appeal Q X 5 [(10, 0), (0, a1), (1, 0)] [(0, r16)] w15
  refine pv_istore_n (n := 6) (L' := [(10, 0), (0, a1), (0, r16)]) d_M_appeal_5 rfl (by decide) rfl rfl ?_
  refine pv_aload_n (n := 7) d_M_appeal_6 rfl rfl rfl ?_
  refine pv_iload_n (n := 8) d_M_appeal_7 rfl rfl rfl ?_
  refine pv_if_ne (n := 11) (tgt := 15) d_M_appeal_8 (by decide) rfl (fun c17 => ?_) (fun c17 => ?_)
  · replace h := h.1 c17
    refine pv_aload_n (n := 16) d_M_appeal_15 rfl rfl rfl ?_
    obtain ⟨g18, h⟩ := h
    refine gt_M_80 (n := 19) rfl d_M_appeal_16 (by decide) g18 rfl ?_
    refine pv_iload_n (n := 20) d_M_appeal_19 rfl rfl rfl ?_
    obtain ⟨g19, h⟩ := h
    refine pv_iald (n := 21) (f := 232) (by decide) rfl d_M_appeal_20 (by decide) g19 rfl ?_
    refine pv_if_eq (n := 24) (tgt := 48) d_M_appeal_21 (by decide) rfl (fun c20 => ?_) (fun c20 => ?_)
    · replace h := h.1 c20
      refine pv_unset (i := 2) (L1 := [(10, 0), (0, a1), (1, 0)]) rfl ?_
      exact vjp_M_appeal_48 hl0 _ _ h
    · replace h := h.2 c20
      refine pv_aload_n (n := 25) d_M_appeal_24 rfl rfl rfl ?_
      obtain ⟨g21, h⟩ := h
      refine gt_M_83 (n := 28) rfl d_M_appeal_25 (by decide) g21 rfl ?_
      refine pv_iload_n (n := 29) d_M_appeal_28 rfl rfl rfl ?_
      obtain ⟨g22, h⟩ := h
      refine pv_iald (n := 30) (f := 233) (by decide) rfl d_M_appeal_29 (by decide) g22 rfl ?_
      refine pv_iconst (v := 2) (n := 31) d_M_appeal_30 (by decide) rfl ?_
      refine pv_icmp_eq (n := 34) (tgt := 48) d_M_appeal_31 (by decide) rfl (fun c23 => ?_) (fun c23 => ?_)
      · replace h := h.1 c23
        refine pv_unset (i := 2) (L1 := [(10, 0), (0, a1), (1, 0)]) rfl ?_
        exact vjp_M_appeal_48 hl0 _ _ h
      · replace h := h.2 c23
        refine pv_aload_n (n := 35) d_M_appeal_34 rfl rfl rfl ?_
        obtain ⟨g24, h⟩ := h
        refine gt_M_104 (n := 38) rfl d_M_appeal_35 (by decide) g24 rfl ?_
        refine pv_aload_n (n := 39) d_M_appeal_38 rfl rfl rfl ?_
        obtain ⟨g25, h⟩ := h
        refine gt_M_77 (n := 42) rfl d_M_appeal_39 (by decide) g25 rfl ?_
        refine pv_iload_n (n := 43) d_M_appeal_42 rfl rfl rfl ?_
        obtain ⟨g26, h⟩ := h
        refine pv_iald (n := 44) (f := 231) (by decide) rfl d_M_appeal_43 (by decide) g26 rfl ?_
        obtain ⟨g27, h⟩ := h
        refine pv_zald (n := 45) (f := 242) (by decide) rfl d_M_appeal_44 (by decide) g27 rfl ?_
        refine pv_if_eq (n := 48) (tgt := 52) d_M_appeal_45 (by decide) rfl (fun c28 => ?_) (fun c28 => ?_)
        · replace h := h.1 c28
          refine pv_iconst (v := 0) (n := 53) d_M_appeal_52 (by decide) rfl ?_
          refine pv_unset (i := 2) (L1 := [(10, 0), (0, a1), (1, 0)]) rfl ?_
          exact vjp_M_appeal_53 hl0 _ _ _ h
        · replace h := h.2 c28
          refine pv_unset (i := 2) (L1 := [(10, 0), (0, a1), (1, 0)]) rfl ?_
          exact vjp_M_appeal_48 hl0 _ _ h
  · replace h := h.2 c17
    refine pv_iconst (v := 1) (n := 12) d_M_appeal_11 (by decide) rfl ?_
    refine pv_goto (tgt := 53) d_M_appeal_12 (by decide) ?_
    refine pv_unset (i := 2) (L1 := [(10, 0), (0, a1), (1, 0)]) rfl ?_
    exact vjp_M_appeal_53 hl0 _ _ _ h
set_option maxHeartbeats 4000000 in
set_option maxRecDepth 20000 in
theorem con_M_appeal {l : Launch} {g : pw_G} {Q : pw_W → Int32 → Prop} {X : pw_W → Nat → Prop} (hl0 : l.stackTraces = false) {w : pw_W} {a1 : Int32} (h : wp_M_appeal w a1 Q X) : pw_Con l g y_M_appeal cx_M_appeal [(10, 0), (0, a1)] w Q X :=
  pw_con (by decide +kernel) rfl rfl hl0 rfl (Nat.le_of_ble_eq_true rfl) (by simp) (vw_M_appeal hl0 h)
