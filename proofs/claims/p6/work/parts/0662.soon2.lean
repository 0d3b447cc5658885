variable {η : zRn}
/-! findSoon: its loops -/
theorem zu_X12_findSoon_0 : decode cX12_findSoon 0 = .ok (.iconst 0, 1) := by decide +kernel
theorem zu_X12_findSoon_1 : decode cX12_findSoon 1 = .ok (.istore_n 3, 1) := by decide +kernel
theorem zu_X12_findSoon_2 : decode cX12_findSoon 2 = .ok (.iload_n 3, 1) := by decide +kernel
theorem zu_X12_findSoon_3 : decode cX12_findSoon 3 = .ok (.aload_n 0, 1) := by decide +kernel
theorem zu_X12_findSoon_4 : decode cX12_findSoon 4 = .ok (.getfield 89, 3) := by decide +kernel
theorem zu_X12_findSoon_7 : decode cX12_findSoon 7 = .ok (.arraylength, 1) := by decide +kernel
theorem zu_X12_findSoon_8 : decode cX12_findSoon 8 = .ok (.if_icmp .ge 23, 3) := by decide +kernel
theorem zu_X12_findSoon_11 : decode cX12_findSoon 11 = .ok (.aload_n 0, 1) := by decide +kernel
theorem zu_X12_findSoon_12 : decode cX12_findSoon 12 = .ok (.getfield 89, 3) := by decide +kernel
theorem zu_X12_findSoon_15 : decode cX12_findSoon 15 = .ok (.iload_n 3, 1) := by decide +kernel
theorem zu_X12_findSoon_16 : decode cX12_findSoon 16 = .ok (.iconst 0, 1) := by decide +kernel
theorem zu_X12_findSoon_17 : decode cX12_findSoon 17 = .ok (.bastore, 1) := by decide +kernel
theorem zu_X12_findSoon_18 : decode cX12_findSoon 18 = .ok (.aload_n 0, 1) := by decide +kernel
theorem zu_X12_findSoon_19 : decode cX12_findSoon 19 = .ok (.getfield 93, 3) := by decide +kernel
theorem zu_X12_findSoon_22 : decode cX12_findSoon 22 = .ok (.iload_n 3, 1) := by decide +kernel
theorem zu_X12_findSoon_23 : decode cX12_findSoon 23 = .ok (.iconst 0, 1) := by decide +kernel
theorem zu_X12_findSoon_24 : decode cX12_findSoon 24 = .ok (.bastore, 1) := by decide +kernel
theorem zu_X12_findSoon_25 : decode cX12_findSoon 25 = .ok (.iinc 3 1, 3) := by decide +kernel
theorem zu_X12_findSoon_28 : decode cX12_findSoon 28 = .ok (.goto (-26), 3) := by decide +kernel
theorem zu_X12_findSoon_31 : decode cX12_findSoon 31 = .ok (.aload_n 0, 1) := by decide +kernel
theorem zu_X12_findSoon_32 : decode cX12_findSoon 32 = .ok (.getfield 89, 3) := by decide +kernel
theorem zu_X12_findSoon_35 : decode cX12_findSoon 35 = .ok (.aload_n 0, 1) := by decide +kernel
theorem zu_X12_findSoon_36 : decode cX12_findSoon 36 = .ok (.getfield 41, 3) := by decide +kernel
theorem zu_X12_findSoon_39 : decode cX12_findSoon 39 = .ok (.iload_n 1, 1) := by decide +kernel
theorem zu_X12_findSoon_40 : decode cX12_findSoon 40 = .ok (.iaload, 1) := by decide +kernel
theorem zu_X12_findSoon_41 : decode cX12_findSoon 41 = .ok (.iconst 1, 1) := by decide +kernel
theorem zu_X12_findSoon_42 : decode cX12_findSoon 42 = .ok (.bastore, 1) := by decide +kernel
theorem zu_X12_findSoon_43 : decode cX12_findSoon 43 = .ok (.iconst (-1), 1) := by decide +kernel
theorem zu_X12_findSoon_44 : decode cX12_findSoon 44 = .ok (.istore_n 3, 1) := by decide +kernel
theorem zu_X12_findSoon_45 : decode cX12_findSoon 45 = .ok (.iconst 0, 1) := by decide +kernel
theorem zu_X12_findSoon_46 : decode cX12_findSoon 46 = .ok (.istore 4, 2) := by decide +kernel
theorem zu_X12_findSoon_48 : decode cX12_findSoon 48 = .ok (.iload 4, 2) := by decide +kernel
theorem zu_X12_findSoon_50 : decode cX12_findSoon 50 = .ok (.bipush 30, 2) := by decide +kernel
theorem zu_X12_findSoon_52 : decode cX12_findSoon 52 = .ok (.if_icmp .gt 139, 3) := by decide +kernel
theorem zu_X12_findSoon_55 : decode cX12_findSoon 55 = .ok (.iload_n 3, 1) := by decide +kernel
theorem zu_X12_findSoon_56 : decode cX12_findSoon 56 = .ok (.iconst (-1), 1) := by decide +kernel
theorem zu_X12_findSoon_57 : decode cX12_findSoon 57 = .ok (.if_icmp .ne 134, 3) := by decide +kernel
theorem zu_X12_findSoon_60 : decode cX12_findSoon 60 = .ok (.iconst 0, 1) := by decide +kernel
theorem zu_X12_findSoon_61 : decode cX12_findSoon 61 = .ok (.istore 5, 2) := by decide +kernel
theorem zu_X12_findSoon_63 : decode cX12_findSoon 63 = .ok (.iload 5, 2) := by decide +kernel
theorem zu_X12_findSoon_65 : decode cX12_findSoon 65 = .ok (.aload_n 0, 1) := by decide +kernel
theorem zu_X12_findSoon_66 : decode cX12_findSoon 66 = .ok (.getfield 289, 3) := by decide +kernel
theorem zu_X12_findSoon_69 : decode cX12_findSoon 69 = .ok (.aload_n 0, 1) := by decide +kernel
theorem zu_X12_findSoon_70 : decode cX12_findSoon 70 = .ok (.getfield 292, 3) := by decide +kernel
theorem zu_X12_findSoon_73 : decode cX12_findSoon 73 = .ok (.imul, 1) := by decide +kernel
theorem zu_X12_findSoon_74 : decode cX12_findSoon 74 = .ok (.if_icmp .ge 107, 3) := by decide +kernel
theorem zu_X12_findSoon_77 : decode cX12_findSoon 77 = .ok (.aload_n 0, 1) := by decide +kernel
theorem zu_X12_findSoon_78 : decode cX12_findSoon 78 = .ok (.getfield 89, 3) := by decide +kernel
theorem zu_X12_findSoon_81 : decode cX12_findSoon 81 = .ok (.bipush 64, 2) := by decide +kernel
theorem zu_X12_findSoon_83 : decode cX12_findSoon 83 = .ok (.iload 4, 2) := by decide +kernel
theorem zu_X12_findSoon_85 : decode cX12_findSoon 85 = .ok (.imul, 1) := by decide +kernel
theorem zu_X12_findSoon_86 : decode cX12_findSoon 86 = .ok (.iload 5, 2) := by decide +kernel
theorem zu_X12_findSoon_88 : decode cX12_findSoon 88 = .ok (.iadd, 1) := by decide +kernel
theorem zu_X12_findSoon_89 : decode cX12_findSoon 89 = .ok (.baload, 1) := by decide +kernel
theorem zu_X12_findSoon_90 : decode cX12_findSoon 90 = .ok (.ifCond .eq 85, 3) := by decide +kernel
theorem zu_X12_findSoon_93 : decode cX12_findSoon 93 = .ok (.aload_n 0, 1) := by decide +kernel
theorem zu_X12_findSoon_94 : decode cX12_findSoon 94 = .ok (.iload_n 1, 1) := by decide +kernel
theorem zu_X12_findSoon_95 : decode cX12_findSoon 95 = .ok (.iload 5, 2) := by decide +kernel
theorem zu_X12_findSoon_97 : decode cX12_findSoon 97 = .ok (.iload_n 2, 1) := by decide +kernel
theorem zu_X12_findSoon_98 : decode cX12_findSoon 98 = .ok (.invokevirtual 418, 3) := by decide +kernel
theorem zu_X12_findSoon_101 : decode cX12_findSoon 101 = .ok (.ifCond .eq 20, 3) := by decide +kernel
theorem zu_X12_findSoon_104 : decode cX12_findSoon 104 = .ok (.aload_n 0, 1) := by decide +kernel
theorem zu_X12_findSoon_105 : decode cX12_findSoon 105 = .ok (.getfield 93, 3) := by decide +kernel
theorem zu_X12_findSoon_108 : decode cX12_findSoon 108 = .ok (.bipush 64, 2) := by decide +kernel
theorem zu_X12_findSoon_110 : decode cX12_findSoon 110 = .ok (.iload 4, 2) := by decide +kernel
theorem zu_X12_findSoon_112 : decode cX12_findSoon 112 = .ok (.imul, 1) := by decide +kernel
theorem zu_X12_findSoon_113 : decode cX12_findSoon 113 = .ok (.iload 5, 2) := by decide +kernel
theorem zu_X12_findSoon_115 : decode cX12_findSoon 115 = .ok (.iadd, 1) := by decide +kernel
theorem zu_X12_findSoon_116 : decode cX12_findSoon 116 = .ok (.iconst 1, 1) := by decide +kernel
theorem zu_X12_findSoon_117 : decode cX12_findSoon 117 = .ok (.bastore, 1) := by decide +kernel
theorem zu_X12_findSoon_118 : decode cX12_findSoon 118 = .ok (.iload 4, 2) := by decide +kernel
theorem zu_X12_findSoon_120 : decode cX12_findSoon 120 = .ok (.istore_n 3, 1) := by decide +kernel
theorem zu_X12_findSoon_121 : decode cX12_findSoon 121 = .ok (.iconst 0, 1) := by decide +kernel
theorem zu_X12_findSoon_122 : decode cX12_findSoon 122 = .ok (.istore 6, 2) := by decide +kernel
theorem zu_X12_findSoon_124 : decode cX12_findSoon 124 = .ok (.iload 6, 2) := by decide +kernel
theorem zu_X12_findSoon_126 : decode cX12_findSoon 126 = .ok (.iconst 4, 1) := by decide +kernel
theorem zu_X12_findSoon_127 : decode cX12_findSoon 127 = .ok (.if_icmp .gt 48, 3) := by decide +kernel
theorem zu_X12_findSoon_130 : decode cX12_findSoon 130 = .ok (.iload 4, 2) := by decide +kernel
theorem zu_X12_findSoon_132 : decode cX12_findSoon 132 = .ok (.bipush 30, 2) := by decide +kernel
theorem zu_X12_findSoon_134 : decode cX12_findSoon 134 = .ok (.if_icmp .ge 41, 3) := by decide +kernel
theorem zu_X12_findSoon_137 : decode cX12_findSoon 137 = .ok (.aload_n 0, 1) := by decide +kernel
theorem zu_X12_findSoon_138 : decode cX12_findSoon 138 = .ok (.iload 5, 2) := by decide +kernel
theorem zu_X12_findSoon_140 : decode cX12_findSoon 140 = .ok (.iload 6, 2) := by decide +kernel
theorem zu_X12_findSoon_142 : decode cX12_findSoon 142 = .ok (.invokevirtual 421, 3) := by decide +kernel
theorem zu_X12_findSoon_145 : decode cX12_findSoon 145 = .ok (.istore 7, 2) := by decide +kernel
theorem zu_X12_findSoon_147 : decode cX12_findSoon 147 = .ok (.iload 7, 2) := by decide +kernel
theorem zu_X12_findSoon_149 : decode cX12_findSoon 149 = .ok (.iconst (-1), 1) := by decide +kernel
theorem zu_X12_findSoon_150 : decode cX12_findSoon 150 = .ok (.if_icmp .eq 19, 3) := by decide +kernel
theorem zu_X12_findSoon_153 : decode cX12_findSoon 153 = .ok (.aload_n 0, 1) := by decide +kernel
theorem zu_X12_findSoon_154 : decode cX12_findSoon 154 = .ok (.getfield 89, 3) := by decide +kernel
theorem zu_X12_findSoon_157 : decode cX12_findSoon 157 = .ok (.bipush 64, 2) := by decide +kernel
theorem zu_X12_findSoon_159 : decode cX12_findSoon 159 = .ok (.iload 4, 2) := by decide +kernel
theorem zu_X12_findSoon_161 : decode cX12_findSoon 161 = .ok (.iconst 1, 1) := by decide +kernel
theorem zu_X12_findSoon_162 : decode cX12_findSoon 162 = .ok (.iadd, 1) := by decide +kernel
theorem zu_X12_findSoon_163 : decode cX12_findSoon 163 = .ok (.imul, 1) := by decide +kernel
theorem zu_X12_findSoon_164 : decode cX12_findSoon 164 = .ok (.iload 7, 2) := by decide +kernel
theorem zu_X12_findSoon_166 : decode cX12_findSoon 166 = .ok (.iadd, 1) := by decide +kernel
theorem zu_X12_findSoon_167 : decode cX12_findSoon 167 = .ok (.iconst 1, 1) := by decide +kernel
theorem zu_X12_findSoon_168 : decode cX12_findSoon 168 = .ok (.bastore, 1) := by decide +kernel
theorem zu_X12_findSoon_169 : decode cX12_findSoon 169 = .ok (.iinc 6 1, 3) := by decide +kernel
theorem zu_X12_findSoon_172 : decode cX12_findSoon 172 = .ok (.goto (-48), 3) := by decide +kernel
theorem zu_X12_findSoon_175 : decode cX12_findSoon 175 = .ok (.iinc 5 1, 3) := by decide +kernel
theorem zu_X12_findSoon_178 : decode cX12_findSoon 178 = .ok (.goto (-115), 3) := by decide +kernel
theorem zu_X12_findSoon_181 : decode cX12_findSoon 181 = .ok (.aload_n 0, 1) := by decide +kernel
theorem zu_X12_findSoon_182 : decode cX12_findSoon 182 = .ok (.invokevirtual 400, 3) := by decide +kernel
theorem zu_X12_findSoon_185 : decode cX12_findSoon 185 = .ok (.iinc 4 1, 3) := by decide +kernel
theorem zu_X12_findSoon_188 : decode cX12_findSoon 188 = .ok (.goto (-140), 3) := by decide +kernel
theorem zu_X12_findSoon_191 : decode cX12_findSoon 191 = .ok (.iload_n 3, 1) := by decide +kernel
theorem zu_X12_findSoon_192 : decode cX12_findSoon 192 = .ok (.iconst 1, 1) := by decide +kernel
theorem zu_X12_findSoon_193 : decode cX12_findSoon 193 = .ok (.isub, 1) := by decide +kernel
theorem zu_X12_findSoon_194 : decode cX12_findSoon 194 = .ok (.istore 4, 2) := by decide +kernel
theorem zu_X12_findSoon_196 : decode cX12_findSoon 196 = .ok (.iload 4, 2) := by decide +kernel
theorem zu_X12_findSoon_198 : decode cX12_findSoon 198 = .ok (.ifCond .lt 115, 3) := by decide +kernel
theorem zu_X12_findSoon_201 : decode cX12_findSoon 201 = .ok (.iconst 0, 1) := by decide +kernel
theorem zu_X12_findSoon_202 : decode cX12_findSoon 202 = .ok (.istore 5, 2) := by decide +kernel
theorem zu_X12_findSoon_204 : decode cX12_findSoon 204 = .ok (.iload 5, 2) := by decide +kernel
theorem zu_X12_findSoon_206 : decode cX12_findSoon 206 = .ok (.aload_n 0, 1) := by decide +kernel
theorem zu_X12_findSoon_207 : decode cX12_findSoon 207 = .ok (.getfield 289, 3) := by decide +kernel
theorem zu_X12_findSoon_210 : decode cX12_findSoon 210 = .ok (.aload_n 0, 1) := by decide +kernel
theorem zu_X12_findSoon_211 : decode cX12_findSoon 211 = .ok (.getfield 292, 3) := by decide +kernel
theorem zu_X12_findSoon_214 : decode cX12_findSoon 214 = .ok (.imul, 1) := by decide +kernel
theorem zu_X12_findSoon_215 : decode cX12_findSoon 215 = .ok (.if_icmp .ge 92, 3) := by decide +kernel
theorem zu_X12_findSoon_218 : decode cX12_findSoon 218 = .ok (.iconst 0, 1) := by decide +kernel
theorem zu_X12_findSoon_219 : decode cX12_findSoon 219 = .ok (.istore 6, 2) := by decide +kernel
theorem zu_X12_findSoon_221 : decode cX12_findSoon 221 = .ok (.iload 6, 2) := by decide +kernel
theorem zu_X12_findSoon_223 : decode cX12_findSoon 223 = .ok (.iconst 4, 1) := by decide +kernel
theorem zu_X12_findSoon_224 : decode cX12_findSoon 224 = .ok (.if_icmp .gt 77, 3) := by decide +kernel
theorem zu_X12_findSoon_227 : decode cX12_findSoon 227 = .ok (.aload_n 0, 1) := by decide +kernel
theorem zu_X12_findSoon_228 : decode cX12_findSoon 228 = .ok (.iload 5, 2) := by decide +kernel
theorem zu_X12_findSoon_230 : decode cX12_findSoon 230 = .ok (.iload 6, 2) := by decide +kernel
theorem zu_X12_findSoon_232 : decode cX12_findSoon 232 = .ok (.invokevirtual 421, 3) := by decide +kernel
theorem zu_X12_findSoon_235 : decode cX12_findSoon 235 = .ok (.istore 7, 2) := by decide +kernel
theorem zu_X12_findSoon_237 : decode cX12_findSoon 237 = .ok (.aload_n 0, 1) := by decide +kernel
theorem zu_X12_findSoon_238 : decode cX12_findSoon 238 = .ok (.getfield 93, 3) := by decide +kernel
theorem zu_X12_findSoon_241 : decode cX12_findSoon 241 = .ok (.bipush 64, 2) := by decide +kernel
theorem zu_X12_findSoon_243 : decode cX12_findSoon 243 = .ok (.iload 4, 2) := by decide +kernel
theorem zu_X12_findSoon_245 : decode cX12_findSoon 245 = .ok (.imul, 1) := by decide +kernel
theorem zu_X12_findSoon_246 : decode cX12_findSoon 246 = .ok (.iload 5, 2) := by decide +kernel
theorem zu_X12_findSoon_248 : decode cX12_findSoon 248 = .ok (.iadd, 1) := by decide +kernel
theorem zu_X12_findSoon_249 : decode cX12_findSoon 249 = .ok (.aload_n 0, 1) := by decide +kernel
theorem zu_X12_findSoon_250 : decode cX12_findSoon 250 = .ok (.getfield 93, 3) := by decide +kernel
theorem zu_X12_findSoon_253 : decode cX12_findSoon 253 = .ok (.bipush 64, 2) := by decide +kernel
theorem zu_X12_findSoon_255 : decode cX12_findSoon 255 = .ok (.iload 4, 2) := by decide +kernel
theorem zu_X12_findSoon_257 : decode cX12_findSoon 257 = .ok (.imul, 1) := by decide +kernel
theorem zu_X12_findSoon_258 : decode cX12_findSoon 258 = .ok (.iload 5, 2) := by decide +kernel
theorem zu_X12_findSoon_260 : decode cX12_findSoon 260 = .ok (.iadd, 1) := by decide +kernel
theorem zu_X12_findSoon_261 : decode cX12_findSoon 261 = .ok (.baload, 1) := by decide +kernel
theorem zu_X12_findSoon_262 : decode cX12_findSoon 262 = .ok (.ifCond .ne 27, 3) := by decide +kernel
theorem zu_X12_findSoon_265 : decode cX12_findSoon 265 = .ok (.iload 7, 2) := by decide +kernel
theorem zu_X12_findSoon_267 : decode cX12_findSoon 267 = .ok (.iconst (-1), 1) := by decide +kernel
theorem zu_X12_findSoon_268 : decode cX12_findSoon 268 = .ok (.if_icmp .eq 25, 3) := by decide +kernel
theorem zu_X12_findSoon_271 : decode cX12_findSoon 271 = .ok (.aload_n 0, 1) := by decide +kernel
theorem zu_X12_findSoon_272 : decode cX12_findSoon 272 = .ok (.getfield 93, 3) := by decide +kernel
theorem zu_X12_findSoon_275 : decode cX12_findSoon 275 = .ok (.bipush 64, 2) := by decide +kernel
theorem zu_X12_findSoon_277 : decode cX12_findSoon 277 = .ok (.iload 4, 2) := by decide +kernel
theorem zu_X12_findSoon_279 : decode cX12_findSoon 279 = .ok (.iconst 1, 1) := by decide +kernel
theorem zu_X12_findSoon_280 : decode cX12_findSoon 280 = .ok (.iadd, 1) := by decide +kernel
theorem zu_X12_findSoon_281 : decode cX12_findSoon 281 = .ok (.imul, 1) := by decide +kernel
theorem zu_X12_findSoon_282 : decode cX12_findSoon 282 = .ok (.iload 7, 2) := by decide +kernel
theorem zu_X12_findSoon_284 : decode cX12_findSoon 284 = .ok (.iadd, 1) := by decide +kernel
theorem zu_X12_findSoon_285 : decode cX12_findSoon 285 = .ok (.baload, 1) := by decide +kernel
theorem zu_X12_findSoon_286 : decode cX12_findSoon 286 = .ok (.ifCond .eq 7, 3) := by decide +kernel
theorem zu_X12_findSoon_289 : decode cX12_findSoon 289 = .ok (.iconst 1, 1) := by decide +kernel
theorem zu_X12_findSoon_290 : decode cX12_findSoon 290 = .ok (.goto 4, 3) := by decide +kernel
theorem zu_X12_findSoon_293 : decode cX12_findSoon 293 = .ok (.iconst 0, 1) := by decide +kernel
theorem zu_X12_findSoon_294 : decode cX12_findSoon 294 = .ok (.bastore, 1) := by decide +kernel
theorem zu_X12_findSoon_295 : decode cX12_findSoon 295 = .ok (.iinc 6 1, 3) := by decide +kernel
theorem zu_X12_findSoon_298 : decode cX12_findSoon 298 = .ok (.goto (-77), 3) := by decide +kernel
theorem zu_X12_findSoon_301 : decode cX12_findSoon 301 = .ok (.iinc 5 1, 3) := by decide +kernel
theorem zu_X12_findSoon_304 : decode cX12_findSoon 304 = .ok (.goto (-100), 3) := by decide +kernel
theorem zu_X12_findSoon_307 : decode cX12_findSoon 307 = .ok (.iinc 4 (-1), 3) := by decide +kernel
theorem zu_X12_findSoon_310 : decode cX12_findSoon 310 = .ok (.goto (-114), 3) := by decide +kernel
theorem zu_X12_findSoon_313 : decode cX12_findSoon 313 = .ok (.aload_n 0, 1) := by decide +kernel
theorem zu_X12_findSoon_314 : decode cX12_findSoon 314 = .ok (.getfield 41, 3) := by decide +kernel
theorem zu_X12_findSoon_317 : decode cX12_findSoon 317 = .ok (.iload_n 1, 1) := by decide +kernel
theorem zu_X12_findSoon_318 : decode cX12_findSoon 318 = .ok (.iaload, 1) := by decide +kernel
theorem zu_X12_findSoon_319 : decode cX12_findSoon 319 = .ok (.istore 4, 2) := by decide +kernel
theorem zu_X12_findSoon_321 : decode cX12_findSoon 321 = .ok (.iconst 0, 1) := by decide +kernel
theorem zu_X12_findSoon_322 : decode cX12_findSoon 322 = .ok (.istore 5, 2) := by decide +kernel
theorem zu_X12_findSoon_324 : decode cX12_findSoon 324 = .ok (.iload 5, 2) := by decide +kernel
theorem zu_X12_findSoon_326 : decode cX12_findSoon 326 = .ok (.iload_n 3, 1) := by decide +kernel
theorem zu_X12_findSoon_327 : decode cX12_findSoon 327 = .ok (.if_icmp .ge 73, 3) := by decide +kernel
theorem zu_X12_findSoon_330 : decode cX12_findSoon 330 = .ok (.iconst 0, 1) := by decide +kernel
theorem zu_X12_findSoon_331 : decode cX12_findSoon 331 = .ok (.istore 6, 2) := by decide +kernel
theorem zu_X12_findSoon_333 : decode cX12_findSoon 333 = .ok (.aload_n 0, 1) := by decide +kernel
theorem zu_X12_findSoon_334 : decode cX12_findSoon 334 = .ok (.iload 4, 2) := by decide +kernel
theorem zu_X12_findSoon_336 : decode cX12_findSoon 336 = .ok (.iload 6, 2) := by decide +kernel
theorem zu_X12_findSoon_338 : decode cX12_findSoon 338 = .ok (.invokevirtual 421, 3) := by decide +kernel
theorem zu_X12_findSoon_341 : decode cX12_findSoon 341 = .ok (.iconst (-1), 1) := by decide +kernel
theorem zu_X12_findSoon_342 : decode cX12_findSoon 342 = .ok (.if_icmp .eq 27, 3) := by decide +kernel
theorem zu_X12_findSoon_345 : decode cX12_findSoon 345 = .ok (.aload_n 0, 1) := by decide +kernel
theorem zu_X12_findSoon_346 : decode cX12_findSoon 346 = .ok (.getfield 93, 3) := by decide +kernel
theorem zu_X12_findSoon_349 : decode cX12_findSoon 349 = .ok (.bipush 64, 2) := by decide +kernel
theorem zu_X12_findSoon_351 : decode cX12_findSoon 351 = .ok (.iload 5, 2) := by decide +kernel
theorem zu_X12_findSoon_353 : decode cX12_findSoon 353 = .ok (.iconst 1, 1) := by decide +kernel
theorem zu_X12_findSoon_354 : decode cX12_findSoon 354 = .ok (.iadd, 1) := by decide +kernel
theorem zu_X12_findSoon_355 : decode cX12_findSoon 355 = .ok (.imul, 1) := by decide +kernel
theorem zu_X12_findSoon_356 : decode cX12_findSoon 356 = .ok (.aload_n 0, 1) := by decide +kernel
theorem zu_X12_findSoon_357 : decode cX12_findSoon 357 = .ok (.iload 4, 2) := by decide +kernel
theorem zu_X12_findSoon_359 : decode cX12_findSoon 359 = .ok (.iload 6, 2) := by decide +kernel
theorem zu_X12_findSoon_361 : decode cX12_findSoon 361 = .ok (.invokevirtual 421, 3) := by decide +kernel
theorem zu_X12_findSoon_364 : decode cX12_findSoon 364 = .ok (.iadd, 1) := by decide +kernel
theorem zu_X12_findSoon_365 : decode cX12_findSoon 365 = .ok (.baload, 1) := by decide +kernel
theorem zu_X12_findSoon_366 : decode cX12_findSoon 366 = .ok (.ifCond .ne 9, 3) := by decide +kernel
theorem zu_X12_findSoon_369 : decode cX12_findSoon 369 = .ok (.iinc 6 1, 3) := by decide +kernel
theorem zu_X12_findSoon_372 : decode cX12_findSoon 372 = .ok (.goto (-39), 3) := by decide +kernel
theorem zu_X12_findSoon_375 : decode cX12_findSoon 375 = .ok (.aload_n 0, 1) := by decide +kernel
theorem zu_X12_findSoon_376 : decode cX12_findSoon 376 = .ok (.getfield 96, 3) := by decide +kernel
theorem zu_X12_findSoon_379 : decode cX12_findSoon 379 = .ok (.iload 5, 2) := by decide +kernel
theorem zu_X12_findSoon_381 : decode cX12_findSoon 381 = .ok (.iload 6, 2) := by decide +kernel
theorem zu_X12_findSoon_383 : decode cX12_findSoon 383 = .ok (.iastore, 1) := by decide +kernel
theorem zu_X12_findSoon_384 : decode cX12_findSoon 384 = .ok (.aload_n 0, 1) := by decide +kernel
theorem zu_X12_findSoon_385 : decode cX12_findSoon 385 = .ok (.iload 4, 2) := by decide +kernel
theorem zu_X12_findSoon_387 : decode cX12_findSoon 387 = .ok (.iload 6, 2) := by decide +kernel
theorem zu_X12_findSoon_389 : decode cX12_findSoon 389 = .ok (.invokevirtual 421, 3) := by decide +kernel
theorem zu_X12_findSoon_392 : decode cX12_findSoon 392 = .ok (.istore 4, 2) := by decide +kernel
theorem zu_X12_findSoon_394 : decode cX12_findSoon 394 = .ok (.iinc 5 1, 3) := by decide +kernel
theorem zu_X12_findSoon_397 : decode cX12_findSoon 397 = .ok (.goto (-73), 3) := by decide +kernel
theorem zu_X12_findSoon_400 : decode cX12_findSoon 400 = .ok (.iload_n 3, 1) := by decide +kernel
theorem zu_X12_findSoon_401 : decode cX12_findSoon 401 = .ok (.ireturn, 1) := by decide +kernel
theorem z_mawe {D : va_G} {cy : Nat → ClassId} {L : List Nat} {Θ : Nat → Option Nat} {h : Nat → Nat → Int} {a ma we bo ro : Nat} {w hh : Int} {H0 : Heap} {h2 : Nat → Nat → Int} {H : Heap} {locs : List Loc} (g : zFB η D cy L Θ h a ma we bo ro w hh H0 h2 H locs) : ma ≠ we := by
  rintro rfl
  have h1 := g.2.1.2.1
  rw [g.2.1.2.2.1] at h1
  cases h1
theorem z_rowe {D : va_G} {cy : Nat → ClassId} {L : List Nat} {Θ : Nat → Option Nat} {h : Nat → Nat → Int} {a ma we bo ro : Nat} {w hh : Int} {H0 : Heap} {h2 : Nat → Nat → Int} {H : Heap} {locs : List Loc} (g : zFB η D cy L Θ h a ma we bo ro w hh H0 h2 H locs) : we ≠ ro := by
  rintro rfl
  have h1 := g.2.1.2.2.1
  rw [g.2.1.2.2.2.2.1] at h1
  cases h1
theorem z_dec1 {f : Nat} (hf : f ≤ 100) : Int32.ofInt (f : Int) + Int32.ofInt (-1) = Int32.ofInt ((f : Int) - 1) := by
  rw [z_adi (by omega) (by omega) (by omega), Int.sub_eq_add_neg]
theorem z_n64 {w hh : Int} (hw : 2 ≤ w ∧ w ≤ 8) (hh8 : 0 ≤ hh ∧ hh ≤ 8) : 0 ≤ w * hh ∧ w * hh ≤ 64 := by
  have h1 : 0 ≤ w * hh := Int.mul_nonneg (by omega) (by omega)
  have h2 : w * hh ≤ 8 * hh := Int.mul_le_mul_of_nonneg_right (by omega) (by omega)
  exact ⟨h1, by omega⟩
theorem z_e32 {x y : Int} (h1 : -2147483648 ≤ x ∧ x ≤ 2147483647) (h2 : -2147483648 ≤ y ∧ y ≤ 2147483647) : Int32.ofInt x = Int32.ofInt y ↔ x = y := by
  refine ⟨fun q => ?_, fun q => by rw [q]⟩
  have q2 := congrArg Int32.toInt q
  rw [z_toi h1.1 h1.2, z_toi h2.1 h2.2] at q2
  exact q2
set_option maxHeartbeats 16000000 in
/-- all of may and well to nothing -/
theorem zfs_z {p : Program} {l : Launch} {e : Env} {R : Room} {s : State} {m : MethodId} {args : Array Value} {below : List Frame} {meth : Method} {c : Code} {Q : State → Prop} {D : va_G} {cy : Nat → ClassId} {L : List Nat} {Θ : Nat → Option Nat} {H0 : Heap} (X : hCx D vwCl cy L p s m args c cX12_findSoon 8 (tyW cy) zTW RX12) (hKW : KW D cy s) (hf : 6 ≤ R.frames) (hlo : 139 ≤ R.locals) {h : Nat → Nat → Int} {a ma we bo ro b0 sh : Nat} {w0 hh : Int} 
    (K : ∀ (h2 : Nat → Nat → Int) (H : Heap) (locs : List Loc) (ls : Array Slot), zFB η D cy L Θ h a ma we bo ro w0 hh H0 h2 H locs → (∀ j, j < 1984 → h2 ma j = 0 ∧ h2 we j = 0) → lv_has ls 8 [(2, .int (Int32.ofInt (sh : Int))), (1, .int (Int32.ofInt (b0 : Int))), (0, .ref (η.1 a))] → W p l e R s m args below meth c H locs 0 0 Q (F0 m 31 ls [])) :
    ∀ (f : Nat) (i : Nat) (h2 : Nat → Nat → Int) (H : Heap) (locs : List Loc) (ls : Array Slot), 1984 - i ≤ f → i ≤ 1984 → (∀ j, j < i → h2 ma j = 0 ∧ h2 we j = 0) → zFB η D cy L Θ h a ma we bo ro w0 hh H0 h2 H locs → lv_has ls 8 [(3, .int (Int32.ofInt (i : Int))), (2, .int (Int32.ofInt (sh : Int))), (1, .int (Int32.ofInt (b0 : Int))), (0, .ref (η.1 a))] → W p l e R s m args below meth c H locs 0 0 Q (F0 m 2 ls []) := by
  have hx := X.1
  have hb := X.2.1
  intro f
  induction f with
  | zero =>
    intro i h2 H locs ls hf2 hi hz g hl
    refine lv_iload_n hx hb zu_X12_findSoon_2 rfl (lv_at hl 0 rfl) ?_
    refine lv_aload_n hx hb zu_X12_findSoon_3 rfl (lv_at hl 3 rfl) ?_
    refine hw_fmay X g zu_X12_findSoon_4 ?_
    refine hw_zlen X g.2.1.2.1 zkk_may ⟨rfl, rfl⟩ (n := 1984) rfl g.2.2.1 zu_X12_findSoon_7 ?_
    refine lv_icmp_ge (tgt := 31) hx hb zu_X12_findSoon_8 (by decide) (fun _ => ?_) (fun hc => absurd ((z_le32 (by omega) (by omega)).mpr (by omega)) hc)
    exact K h2 H locs ls g (fun j hj => hz j (by omega)) (lv_sub hl [1, 2, 3] rfl)
  | succ f ih =>
    intro i h2 H locs ls hf2 hi hz g hl
    refine lv_iload_n hx hb zu_X12_findSoon_2 rfl (lv_at hl 0 rfl) ?_
    refine lv_aload_n hx hb zu_X12_findSoon_3 rfl (lv_at hl 3 rfl) ?_
    refine hw_fmay X g zu_X12_findSoon_4 ?_
    refine hw_zlen X g.2.1.2.1 zkk_may ⟨rfl, rfl⟩ (n := 1984) rfl g.2.2.1 zu_X12_findSoon_7 ?_
    refine lv_icmp_ge (tgt := 31) hx hb zu_X12_findSoon_8 (by decide) (fun hc => ?_) (fun hc => ?_)
    · have hc := (z_le32 (by omega) (by omega)).mp hc
      exact K h2 H locs ls g (fun j hj => hz j (by omega)) (lv_sub hl [1, 2, 3] rfl)
    have hlt : i < 1984 := by
      apply Nat.not_le.mp
      intro q
      exact hc ((z_le32 (by omega) (by omega)).mpr (by omega))
    refine lv_aload_n hx hb zu_X12_findSoon_11 rfl (lv_at hl 3 rfl) ?_
    refine hw_fmay X g zu_X12_findSoon_12 ?_
    refine lv_iload_n hx hb zu_X12_findSoon_15 rfl (lv_at hl 0 rfl) ?_
    refine lv_iconst (v := Int32.ofInt 0) hx hb zu_X12_findSoon_16 (by decide) ?_
    refine hw_st_may X g hlt (Or.inl rfl) zu_X12_findSoon_17 (fun H1 locs1 g1 => ?_)
    refine lv_aload_n hx hb zu_X12_findSoon_18 rfl (lv_at hl 3 rfl) ?_
    refine hw_fwell X g1 zu_X12_findSoon_19 ?_
    refine lv_iload_n hx hb zu_X12_findSoon_22 rfl (lv_at hl 0 rfl) ?_
    refine lv_iconst (v := Int32.ofInt 0) hx hb zu_X12_findSoon_23 (by decide) ?_
    refine hw_st_well X g1 hlt (Or.inl rfl) zu_X12_findSoon_24 (fun H2 locs2 g2 => ?_)
    refine lv_iinc (lv' := [(3, .int (Int32.ofInt ((i + 1 : Nat) : Int))), (2, .int (Int32.ofInt (sh : Int))), (1, .int (Int32.ofInt (b0 : Int))), (0, .ref (η.1 a))]) hx hb zu_X12_findSoon_25 hl (k := 0) rfl (z_inc1 (by omega)) (by decide) rfl (fun ls hl => ?_)
    refine lv_goto (tgt := 2) hx hb zu_X12_findSoon_28 (by decide) ?_
    have hne : ma ≠ we := z_mawe g
    refine ih (i + 1) _ H2 locs2 ls (by omega) (by omega) (fun j hj => ?_) g2 hl
    rw [zup_row hne, zup_slf, zup_slf, zup_row hne.symm]
    simp only
    by_cases q : j = i
    · rw [if_pos q, if_pos q]
      exact ⟨rfl, rfl⟩
    · rw [if_neg q, if_neg q]
      exact hz j (by omega)
theorem z_lt32 {x y : Int} (h1 : -2147483648 ≤ x ∧ x ≤ 2147483647) (h2 : -2147483648 ≤ y ∧ y ≤ 2147483647) : Int32.ofInt x < Int32.ofInt y ↔ x < y := by
  rw [Int32.lt_iff_toInt_lt, z_toi h1.1 h1.2, z_toi h2.1 h2.2]
set_option maxHeartbeats 16000000 in
/-- the deeds of a cell, going forward -/
theorem zfs_d {p : Program} {l : Launch} {e : Env} {R : Room} {s : State} {m : MethodId} {args : Array Value} {below : List Frame} {meth : Method} {c : Code} {Q : State → Prop} {D : va_G} {cy : Nat → ClassId} {L : List Nat} {Θ : Nat → Option Nat} {H0 : Heap} (X : hCx D vwCl cy L p s m args c cX12_findSoon 8 (tyW cy) zTW RX12) (hKW : KW D cy s) (hf : 6 ≤ R.frames) (hlo : 139 ≤ R.locals) {h : Nat → Nat → Int} {a ma we bo ro b0 sh : Nat} {w0 hh : Int} {c0 : Int} (t cc0 : Nat) (ht : t ≤ 30) (hc64 : cc0 < 64) (hcn : (cc0 : Int) < w0 * hh) (hR : zRch w0 hh c0 t (cc0 : Int)) (hr : Int) (fw : Nat → Int)
    (K : ∀ (h2 : Nat → Nat → Int) (H : Heap) (locs : List Loc) (ls : Array Slot), zFB η D cy L Θ h a ma we bo ro w0 hh H0 h2 H locs → zMy w0 hh c0 (h2 ma) → h2 we = fw → lv_has ls 8 [(5, .int (Int32.ofInt (cc0 : Int))), (4, .int (Int32.ofInt (t : Int))), (3, .int (Int32.ofInt hr)), (2, .int (Int32.ofInt (sh : Int))), (1, .int (Int32.ofInt (b0 : Int))), (0, .ref (η.1 a))] → W p l e R s m args below meth c H locs 0 0 Q (F0 m 175 ls [])) :
    ∀ (f : Nat) (d : Nat) (h2 : Nat → Nat → Int) (H : Heap) (locs : List Loc) (ls : Array Slot), 5 - d ≤ f → d ≤ 5 → zMy w0 hh c0 (h2 ma) → h2 we = fw → zFB η D cy L Θ h a ma we bo ro w0 hh H0 h2 H locs → lv_has ls 8 [(6, .int (Int32.ofInt (d : Int))), (5, .int (Int32.ofInt (cc0 : Int))), (4, .int (Int32.ofInt (t : Int))), (3, .int (Int32.ofInt hr)), (2, .int (Int32.ofInt (sh : Int))), (1, .int (Int32.ofInt (b0 : Int))), (0, .ref (η.1 a))] → W p l e R s m args below meth c H locs 0 0 Q (F0 m 124 ls []) := by
  have hx := X.1
  have hb := X.2.1
  intro f
  induction f with
  | zero =>
    intro d h2 H locs ls hf2 hd5 hM hW g hl
    refine lv_iload hx hb zu_X12_findSoon_124 (lv_at hl 0 rfl) ?_
    refine lv_iconst (v := Int32.ofInt 4) hx hb zu_X12_findSoon_126 (by decide) ?_
    refine lv_icmp_gt (tgt := 175) hx hb zu_X12_findSoon_127 (by decide) (fun _ => ?_) (fun hc => absurd ((z_lt32 (by omega) (by omega)).mpr (by omega)) hc)
    exact K h2 H locs ls g hM hW (lv_sub hl [1, 2, 3, 4, 5, 6] rfl)
  | succ f ih =>
    intro d h2 H locs ls hf2 hd5 hM hW g hl
    refine lv_iload hx hb zu_X12_findSoon_124 (lv_at hl 0 rfl) ?_
    refine lv_iconst (v := Int32.ofInt 4) hx hb zu_X12_findSoon_126 (by decide) ?_
    refine lv_icmp_gt (tgt := 175) hx hb zu_X12_findSoon_127 (by decide) (fun hc => ?_) (fun hc => ?_)
    · exact K h2 H locs ls g hM hW (lv_sub hl [1, 2, 3, 4, 5, 6] rfl)
    have hd4 : d ≤ 4 := by
      apply Nat.not_lt.mp
      intro q
      exact hc ((z_lt32 (by omega) (by omega)).mpr (by omega))
    refine lv_iload hx hb zu_X12_findSoon_130 (lv_at hl 2 rfl) ?_
    refine lv_bipush (v := Int32.ofInt 30) hx hb zu_X12_findSoon_132 (by decide) ?_
    refine lv_icmp_ge (tgt := 175) hx hb zu_X12_findSoon_134 (by decide) (fun hc => ?_) (fun hc => ?_)
    · exact K h2 H locs ls g hM hW (lv_sub hl [1, 2, 3, 4, 5, 6] rfl)
    have ht29 : t < 30 := by
      apply Nat.not_le.mp
      intro q
      exact hc ((z_le32 (by omega) (by omega)).mpr (by omega))
    have g0 := g
    obtain ⟨gR, ⟨ha, hma, hwe, hbo, hro, f52, f53, f30, f54, f24, f25, hw, hhh, hsea⟩, hH, hS⟩ := g0
    refine lv_aload_n hx hb zu_X12_findSoon_137 rfl (lv_at hl 6 rfl) ?_
    refine lv_iload hx hb zu_X12_findSoon_138 (lv_at hl 1 rfl) ?_
    refine lv_iload hx hb zu_X12_findSoon_140 (lv_at hl 0 rfl) ?_
    refine hw_moved X hKW ha hl.1 (by omega) (by omega) (Nat.le_of_ble_eq_true rfl) hH hd4 f24 f25 (by omega) (by omega) zyt_421 zu_X12_findSoon_142 ?_
    refine lv_istore (lv' := [(7, .int (Int32.ofInt (zmv w0 hh (cc0 : Int) (d : Int)))), (6, .int (Int32.ofInt (d : Int))), (5, .int (Int32.ofInt (cc0 : Int))), (4, .int (Int32.ofInt (t : Int))), (3, .int (Int32.ofInt hr)), (2, .int (Int32.ofInt (sh : Int))), (1, .int (Int32.ofInt (b0 : Int))), (0, .ref (η.1 a))]) hx hb zu_X12_findSoon_145 hl (by decide) rfl (fun ls hl => ?_)
    refine lv_iload hx hb zu_X12_findSoon_147 (lv_at hl 0 rfl) ?_
    refine lv_iconst (v := Int32.ofInt (-1)) hx hb zu_X12_findSoon_149 (by decide) ?_
    have hmv := z_mv63 (w := w0) (hh := hh) (c := (cc0 : Int)) (d := (d : Int)) (by omega) hhh.2 (by omega)
    refine lv_icmp_eq (tgt := 169) hx hb zu_X12_findSoon_150 (by decide) (fun he => ?_) (fun he => ?_)
    · refine lv_iinc (lv' := [(6, .int (Int32.ofInt ((d + 1 : Nat) : Int))), (7, .int (Int32.ofInt (zmv w0 hh (cc0 : Int) (d : Int)))), (5, .int (Int32.ofInt (cc0 : Int))), (4, .int (Int32.ofInt (t : Int))), (3, .int (Int32.ofInt hr)), (2, .int (Int32.ofInt (sh : Int))), (1, .int (Int32.ofInt (b0 : Int))), (0, .ref (η.1 a))]) hx hb zu_X12_findSoon_169 hl (k := 1) rfl (z_inc1 (by omega)) (by decide) rfl (fun ls hl => ?_)
      refine lv_goto (tgt := 124) hx hb zu_X12_findSoon_172 (by decide) ?_
      exact ih (d + 1) h2 H locs ls (by omega) (by omega) hM hW g (lv_sub hl [0, 2, 3, 4, 5, 6, 7] rfl)
    have he : ¬ zmv w0 hh (cc0 : Int) (d : Int) = -1 := fun q => he ((z_e32 (by omega) (by omega)).mpr q)
    obtain ⟨x, hx63, ex⟩ : ∃ x : Nat, x < 64 ∧ zmv w0 hh (cc0 : Int) (d : Int) = (x : Int) := ⟨(zmv w0 hh (cc0 : Int) (d : Int)).toNat, by omega, by omega⟩
    refine lv_aload_n hx hb zu_X12_findSoon_153 rfl (lv_at hl 7 rfl) ?_
    refine hw_fmay X g zu_X12_findSoon_154 ?_
    refine lv_bipush (v := Int32.ofInt 64) hx hb zu_X12_findSoon_157 (by decide) ?_
    refine lv_iload hx hb zu_X12_findSoon_159 (lv_at hl 3 rfl) ?_
    refine lv_iconst (v := Int32.ofInt 1) hx hb zu_X12_findSoon_161 (by decide) ?_
    refine lv_iadd hx hb zu_X12_findSoon_162 ?_
    rw [z_inc1 (by omega)]
    refine lv_imul hx hb zu_X12_findSoon_163 ?_
    refine lv_iload hx hb zu_X12_findSoon_164 (lv_at hl 0 rfl) ?_
    refine lv_iadd hx hb zu_X12_findSoon_166 ?_
    rw [ex, z_ix (by omega) hx63]
    refine lv_iconst (v := Int32.ofInt 1) hx hb zu_X12_findSoon_167 (by decide) ?_
    refine hw_st_may X g (by omega) (Or.inr rfl) zu_X12_findSoon_168 (fun H1 locs1 g1 => ?_)
    refine lv_iinc (lv' := [(6, .int (Int32.ofInt ((d + 1 : Nat) : Int))), (7, .int (Int32.ofInt (zmv w0 hh (cc0 : Int) (d : Int)))), (5, .int (Int32.ofInt (cc0 : Int))), (4, .int (Int32.ofInt (t : Int))), (3, .int (Int32.ofInt hr)), (2, .int (Int32.ofInt (sh : Int))), (1, .int (Int32.ofInt (b0 : Int))), (0, .ref (η.1 a))]) hx hb zu_X12_findSoon_169 hl (k := 1) rfl (z_inc1 (by omega)) (by decide) rfl (fun ls hl => ?_)
    refine lv_goto (tgt := 124) hx hb zu_X12_findSoon_172 (by decide) ?_
    refine ih (d + 1) _ H1 locs1 ls (by omega) (by omega) ?_ ?_ g1 (lv_sub hl [0, 2, 3, 4, 5, 6, 7] rfl)
    · rw [zup_slf]
      exact zMy_up hM hx63 ⟨cc0, d, hcn, hd4, hR, ex⟩
    · rw [zup_row (z_mawe g).symm]
      exact hW
theorem zge_c {x : Int} {b : zIV} {σ : List Int} {env : List zIV} (h1 : b.1 ≤ x ∧ x ≤ b.2) (h2 : zge σ env) : zge (x :: σ) (b :: env) := by
  refine ⟨by simp [h2.1], fun i q hi => ?_⟩
  cases i with
  | zero => cases hi; exact h1
  | succ i => exact h2.2 i q hi
theorem zge_n : zge [] [] := ⟨rfl, fun i q hi => by cases hi⟩
theorem zoki {Θ : Nat → Option Nat} {x : Int} (h : -2147483648 ≤ x ∧ x ≤ 2147483647) : zok Θ 0 x := h
theorem z_boc {D : va_G} {cy : Nat → ClassId} {L : List Nat} {Θ : Nat → Option Nat} {h : Nat → Nat → Int} {H : Heap} (hH : zH η zkdm D vwCl cy L Θ h H) {b : Nat} (hb : Θ b = some 10) {j : Nat} (hj : j < 6) : 0 ≤ h b j ∧ h b j ≤ 63 := by
  have h1 := zH_in hH hb zkk_boatAt (j := j) hj
  have e1 : zty zK_boatAt j = (0, 0, 63) := by unfold zty; simp [Nat.mod_one]
  rw [e1] at h1
  exact h1.2
set_option maxHeartbeats 16000000 in
/-- couldFrom, by its contract -/
theorem hw_cf {p : Program} {l : Launch} {e : Env} {R : Room} {s : State} {m : MethodId} {args : Array Value} {below : List Frame} {meth : Method} {c : Code} {Q : State → Prop} {D : va_G} {cy : Nat → ClassId} {L : List Nat} {Θ : Nat → Option Nat} {H0 : Heap} (X : hCx D vwCl cy L p s m args c cX12_findSoon 8 (tyW cy) zTW RX12) {h : Nat → Nat → Int} {a ma we bo ro b0 sh cc0 : Nat} {w0 hh : Int} {h2 : Nat → Nat → Int} {H : Heap} {locs : List Loc} {ls : Array Slot}
    (hcf : zHrun η zkdm D vwCl cy L Θ (fun q => q ∈ L) H0 8 p l e R s m args below meth c 98 zk_X12_couldFrom_0) (g : zFB η D cy L Θ h a ma we bo ro w0 hh H0 h2 H locs) (haM : (a : Int) ≤ 2147483647) (hb5 : b0 ≤ 5) (hs5 : sh ≤ 5) (hc : cc0 < 64) (hsz : ls.size = 8)
    (k : ∀ (r : Int) (h3 : Nat → Nat → Int) (H3 : Heap) (locs3 : List Loc), zFB η D cy L Θ h a ma we bo ro w0 hh H0 h3 H3 locs3 → h3 ma = h2 ma → h3 we = h2 we → (r = 0 ∨ r = 1) → W p l e R s m args below meth c H3 locs3 0 0 Q (F0 m 101 ls [.int (Int32.ofInt r)])) :
    W p l e R s m args below meth c H locs 0 0 Q (F0 m 98 ls [.int (Int32.ofInt (sh : Int)), .int (Int32.ofInt (cc0 : Int)), .int (Int32.ofInt (b0 : Int)), .ref (η.1 a)]) := by
  have g0 := g
  obtain ⟨gR, ⟨ha, hma, hwe, hbo, hro, f52, f53, f30, f54, f24, f25, hw, hhh, hsea⟩, hH, hS⟩ := g0
  have h30 := (zH_in hH ha zkm (j := 30) (by decide)).2.2
  rw [zty_boatAt, f30] at h30
  simp only at h30
  have B0 := z_boc hH hbo (j := 0) (by decide)
  have B1 := z_boc hH hbo (j := 1) (by decide)
  have B2 := z_boc hH hbo (j := 2) (by decide)
  have B3 := z_boc hH hbo (j := 3) (by decide)
  have B4 := z_boc hH hbo (j := 4) (by decide)
  have B5 := z_boc hH hbo (j := 5) (by decide)
  let σ : List Int := [0, (a : Int), (b0 : Int), (cc0 : Int), (sh : Int), h2 a 23, w0, (bo : Int), h2 bo 0, h2 bo 1, h2 bo 2, h2 bo 3, h2 bo 4, h2 bo 5]
  have e1 : zvo η σ (37, 1, 0) = .ref (η.1 a) := by
    show zdec η (35 + 2) ((a : Int) + 0) = _
    rw [Int.add_zero]
    exact z_dr 35 a
  have e2 : zvo η σ (0, 2, 0) = .int (Int32.ofInt (b0 : Int)) := by
    show zdec η 0 ((b0 : Int) + 0) = _
    rw [Int.add_zero]
    rfl
  have e3 : zvo η σ (0, 3, 0) = .int (Int32.ofInt (cc0 : Int)) := by
    show zdec η 0 ((cc0 : Int) + 0) = _
    rw [Int.add_zero]
    rfl
  have e4 : zvo η σ (0, 4, 0) = .int (Int32.ofInt (sh : Int)) := by
    show zdec η 0 ((sh : Int) + 0) = _
    rw [Int.add_zero]
    rfl
  have est : (zk_X12_couldFrom_0.2.2.1.1.map (zvo η σ)).reverse ++ [] = [.int (Int32.ofInt (sh : Int)), .int (Int32.ofInt (cc0 : Int)), .int (Int32.ofInt (b0 : Int)), .ref (η.1 a)] := by
    show (List.map (zvo η σ) [(37, 1, 0), (0, 2, 0), (0, 3, 0), (0, 4, 0)]).reverse ++ [] = _
    simp only [List.map_cons, List.map_nil, e1, e2, e3, e4]
    rfl
  rw [← est]
  have ga : zga Θ σ (37, 1, 0) := ⟨by show (1 : Nat) < 14; decide, by
    show zok Θ 37 ((a : Int) + 0)
    rw [Int.add_zero]
    exact Or.inr ⟨by omega, by rw [Int.toNat_natCast]; exact ha⟩⟩
  have gb : zga Θ σ (12, 7, 0) := ⟨by show (7 : Nat) < 14; decide, by
    show zok Θ 12 ((bo : Int) + 0)
    rw [Int.add_zero]
    exact Or.inr ⟨by omega, by rw [Int.toNat_natCast]; exact hbo⟩⟩
  have gi : ∀ (i : Nat), i < 14 → (-2147483648 ≤ σ.getD i 0 ∧ σ.getD i 0 ≤ 2147483647) → zga Θ σ (0, i, 0) := fun i hi hb => ⟨hi, by
    show zok Θ 0 (σ.getD i 0 + 0)
    rw [Int.add_zero]
    exact hb⟩
  have gv : ∀ (ad i j : Nat) (kk : Nat) (t : Nat), i < 14 → σ.getD i 0 = (ad : Int) → Θ ad = some kk → zga Θ σ (t, j, 0) → ∀ sl, h2 ad sl = σ.getD j 0 → (fun o : zOV => o.1.2 < σ.length ∧ zga Θ σ o.2.2 ∧ 0 ≤ σ.getD o.1.2 0 ∧ Θ (σ.getD o.1.2 0).toNat = some o.1.1 ∧ h2 (σ.getD o.1.2 0).toNat o.2.1 = zev σ o.2.2) ((kk, i), sl, (t, j, 0)) := by
    intro ad i j kk t hi hA hT hG sl hs
    refine ⟨hi, hG, by simp only; omega, by simp only; rw [hA, Int.toNat_natCast]; exact hT, ?_⟩
    simp only [zev]
    rw [hA, Int.toNat_natCast, Int.add_zero]
    exact hs
  refine hw_call hcf (σ := σ) (h := h2) ?_ ?_ ?_ (fun _ q => absurd q List.not_mem_nil) hH hS hsz (Nat.le_of_ble_eq_true rfl) (fun v out ρ h3 H3 locs3 ho oE ov oV oH oX oS => ?_)
  · exact zge_c ⟨by decide, by decide⟩ (zge_c ⟨by simp only; omega, haM⟩ (zge_c ⟨by simp only; omega, by simp only; omega⟩ (zge_c ⟨by simp only; omega, by simp only; omega⟩ (zge_c ⟨by simp only; omega, by simp only; omega⟩ (zge_c hsea (zge_c hw (zge_c ⟨by simp only; omega, h30⟩ (zge_c B0 (zge_c B1 (zge_c B2 (zge_c B3 (zge_c B4 (zge_c B5 zge_n)))))))))))))
  · exact List.forall_mem_cons.mpr ⟨ga, List.forall_mem_cons.mpr ⟨gi 2 (by decide) (by show _ ≤ (b0 : Int) ∧ (b0 : Int) ≤ _; omega), List.forall_mem_cons.mpr ⟨gi 3 (by decide) (by show _ ≤ (cc0 : Int) ∧ (cc0 : Int) ≤ _; omega), List.forall_mem_cons.mpr ⟨gi 4 (by decide) (by show _ ≤ (sh : Int) ∧ (sh : Int) ≤ _; omega), List.forall_mem_nil _⟩⟩⟩⟩
  · exact List.forall_mem_cons.mpr ⟨gv a 1 5 35 0 (by decide) rfl ha (gi 5 (by decide) (by show _ ≤ h2 a 23 ∧ h2 a 23 ≤ _; omega)) 23 rfl, List.forall_mem_cons.mpr ⟨gv a 1 6 35 0 (by decide) rfl ha (gi 6 (by decide) (by show _ ≤ w0 ∧ w0 ≤ _; omega)) 24 f24, List.forall_mem_cons.mpr ⟨gv a 1 7 35 12 (by decide) rfl ha gb 30 f30, List.forall_mem_cons.mpr ⟨gv bo 7 8 10 0 (by decide) rfl hbo (gi 8 (by decide) (by show _ ≤ h2 bo 0 ∧ h2 bo 0 ≤ _; omega)) 0 rfl, List.forall_mem_cons.mpr ⟨gv bo 7 9 10 0 (by decide) rfl hbo (gi 9 (by decide) (by show _ ≤ h2 bo 1 ∧ h2 bo 1 ≤ _; omega)) 1 rfl, List.forall_mem_cons.mpr ⟨gv bo 7 10 10 0 (by decide) rfl hbo (gi 10 (by decide) (by show _ ≤ h2 bo 2 ∧ h2 bo 2 ≤ _; omega)) 2 rfl, List.forall_mem_cons.mpr ⟨gv bo 7 11 10 0 (by decide) rfl hbo (gi 11 (by decide) (by show _ ≤ h2 bo 3 ∧ h2 bo 3 ≤ _; omega)) 3 rfl, List.forall_mem_cons.mpr ⟨gv bo 7 12 10 0 (by decide) rfl hbo (gi 12 (by decide) (by show _ ≤ h2 bo 4 ∧ h2 bo 4 ≤ _; omega)) 4 rfl, List.forall_mem_cons.mpr ⟨gv bo 7 13 10 0 (by decide) rfl hbo (gi 13 (by decide) (by show _ ≤ h2 bo 5 ∧ h2 bo 5 ≤ _; omega)) 5 rfl, List.forall_mem_nil _⟩⟩⟩⟩⟩⟩⟩⟩⟩
  · have hb : ∀ j, j < 6 → h3 bo j = h2 bo j := by
      have hv : zgv Θ h3 (σ ++ ρ) [((35, 1), 30, (12, 7, 0)), ((10, 7), 0, (0, 8, 0)), ((10, 7), 1, (0, 9, 0)), ((10, 7), 2, (0, 10, 0)), ((10, 7), 3, (0, 11, 0)), ((10, 7), 4, (0, 12, 0)), ((10, 7), 5, (0, 13, 0))] := by
        rcases List.mem_cons.mp ho with rfl | ho
        · exact oV
        · rcases List.mem_cons.mp ho with rfl | ho
          · exact oV
          · cases ho
      have key : ∀ j : Nat, (((10, 7), j, (0, 8 + j, 0)) : zOV) ∈ ([((35, 1), 30, (12, 7, 0)), ((10, 7), 0, (0, 8, 0)), ((10, 7), 1, (0, 9, 0)), ((10, 7), 2, (0, 10, 0)), ((10, 7), 3, (0, 11, 0)), ((10, 7), 4, (0, 12, 0)), ((10, 7), 5, (0, 13, 0))] : List zOV) → h3 bo j = (σ ++ ρ).getD (8 + j) 0 := by
        intro j hj
        have q := (hv _ hj).2.2.2.2
        have e7 : (σ ++ ρ).getD 7 0 = (bo : Int) := rfl
        simp only [zev] at q
        rw [e7, Int.toNat_natCast, Int.add_zero] at q
        exact q
      intro j hj
      rcases (show j = 0 ∨ j = 1 ∨ j = 2 ∨ j = 3 ∨ j = 4 ∨ j = 5 by omega) with rfl | rfl | rfl | rfl | rfl | rfl
      · exact key 0 (by decide)
      · exact key 1 (by decide)
      · exact key 2 (by decide)
      · exact key 3 (by decide)
      · exact key 4 (by decide)
      · exact key 5 (by decide)
    have g3 := zFB_call g (E := [(10, 0, 5)]) (by decide) (fun j => by simp [zinE]) oX hb oH oS
    have em : h3 ma = h2 ma := by
      funext j
      exact oX ma 27 j hma (by show zinE [(10, 0, 5)] 27 j j = false; simp [zinE])
    have ew : h3 we = h2 we := by
      funext j
      exact oX we 28 j hwe (by show zinE [(10, 0, 5)] 28 j j = false; simp [zinE])
    rcases List.mem_cons.mp ho with rfl | ho
    · have ev : v.toList = [.int (Int32.ofInt 1)] := ov
      rw [ev]
      exact k 1 h3 H3 locs3 g3 em ew (Or.inr rfl)
    · rcases List.mem_cons.mp ho with rfl | ho
      · have ev : v.toList = [.int (Int32.ofInt 0)] := ov
        rw [ev]
        exact k 0 h3 H3 locs3 g3 em ew (Or.inl rfl)
      · cases ho
set_option maxHeartbeats 16000000 in
/-- the cells of an hour, going forward -/
theorem zfs_c {p : Program} {l : Launch} {e : Env} {R : Room} {s : State} {m : MethodId} {args : Array Value} {below : List Frame} {meth : Method} {c : Code} {Q : State → Prop} {D : va_G} {cy : Nat → ClassId} {L : List Nat} {Θ : Nat → Option Nat} {H0 : Heap} (X : hCx D vwCl cy L p s m args c cX12_findSoon 8 (tyW cy) zTW RX12) (hKW : KW D cy s) (hf : 6 ≤ R.frames) (hlo : 139 ≤ R.locals) {h : Nat → Nat → Int} {a ma we bo ro b0 sh : Nat} {w0 hh : Int} {c0 : Int} (t : Nat) (ht : t ≤ 30) (hcf : zHrun η zkdm D vwCl cy L Θ (fun q => q ∈ L) H0 8 p l e R s m args below meth c 98 zk_X12_couldFrom_0) (haM : (a : Int) ≤ 2147483647) (hb5 : b0 ≤ 5) (hs5 : sh ≤ 5)
    (K : ∀ (hr : Int) (h2 : Nat → Nat → Int) (H : Heap) (locs : List Loc) (ls : Array Slot), zFB η D cy L Θ h a ma we bo ro w0 hh H0 h2 H locs → zMy w0 hh c0 (h2 ma) → zWl w0 hh c0 (h2 we) hr → (hr = -1 ∨ hr = (t : Int)) → lv_has ls 8 [(4, .int (Int32.ofInt (t : Int))), (3, .int (Int32.ofInt hr)), (2, .int (Int32.ofInt (sh : Int))), (1, .int (Int32.ofInt (b0 : Int))), (0, .ref (η.1 a))] → W p l e R s m args below meth c H locs 0 0 Q (F0 m 181 ls [])) :
    ∀ (f : Nat) (cc0 : Nat) (hr : Int) (h2 : Nat → Nat → Int) (H : Heap) (locs : List Loc) (ls : Array Slot), 64 - cc0 ≤ f → cc0 ≤ 64 → zMy w0 hh c0 (h2 ma) → zWl w0 hh c0 (h2 we) hr → (hr = -1 ∨ hr = (t : Int)) → zFB η D cy L Θ h a ma we bo ro w0 hh H0 h2 H locs → lv_has ls 8 [(5, .int (Int32.ofInt (cc0 : Int))), (4, .int (Int32.ofInt (t : Int))), (3, .int (Int32.ofInt hr)), (2, .int (Int32.ofInt (sh : Int))), (1, .int (Int32.ofInt (b0 : Int))), (0, .ref (η.1 a))] → W p l e R s m args below meth c H locs 0 0 Q (F0 m 63 ls []) := by
  have hx := X.1
  have hb := X.2.1
  intro f
  induction f with
  | zero =>
    intro cc0 hr h2 H locs ls hf2 hcc hM hW ht2 g hl
    have hn64 := z_n64 g.2.1.2.2.2.2.2.2.2.2.2.2.2.1 g.2.1.2.2.2.2.2.2.2.2.2.2.2.2.1
    have g0 := g
    obtain ⟨gR, ⟨ha, hma, hwe, hbo, hro, f52, f53, f30, f54, f24, f25, hw, hhh, hsea⟩, hH, hS⟩ := g0
    refine lv_iload hx hb zu_X12_findSoon_63 (lv_at hl 0 rfl) ?_
    refine lv_aload_n hx hb zu_X12_findSoon_65 rfl (lv_at hl 5 rfl) ?_
    refine hw_fwide X g zu_X12_findSoon_66 ?_
    refine lv_aload_n hx hb zu_X12_findSoon_69 rfl (lv_at hl 5 rfl) ?_
    refine hw_fhigh X g zu_X12_findSoon_70 ?_
    refine lv_imul hx hb zu_X12_findSoon_73 ?_
    rw [z_mli (by omega) (by omega)]
    refine lv_icmp_ge (tgt := 181) hx hb zu_X12_findSoon_74 (by decide) (fun _ => ?_) (fun hc => absurd ((z_le32 (by omega) (by omega)).mpr (by omega)) hc)
    exact K hr h2 H locs ls g hM hW ht2 (lv_sub hl [1, 2, 3, 4, 5] rfl)
  | succ f ih =>
    intro cc0 hr h2 H locs ls hf2 hcc hM hW ht2 g hl
    have hn64 := z_n64 g.2.1.2.2.2.2.2.2.2.2.2.2.2.1 g.2.1.2.2.2.2.2.2.2.2.2.2.2.2.1
    have g0 := g
    obtain ⟨gR, ⟨ha, hma, hwe, hbo, hro, f52, f53, f30, f54, f24, f25, hw, hhh, hsea⟩, hH, hS⟩ := g0
    refine lv_iload hx hb zu_X12_findSoon_63 (lv_at hl 0 rfl) ?_
    refine lv_aload_n hx hb zu_X12_findSoon_65 rfl (lv_at hl 5 rfl) ?_
    refine hw_fwide X g zu_X12_findSoon_66 ?_
    refine lv_aload_n hx hb zu_X12_findSoon_69 rfl (lv_at hl 5 rfl) ?_
    refine hw_fhigh X g zu_X12_findSoon_70 ?_
    refine lv_imul hx hb zu_X12_findSoon_73 ?_
    rw [z_mli (by omega) (by omega)]
    refine lv_icmp_ge (tgt := 181) hx hb zu_X12_findSoon_74 (by decide) (fun hc => ?_) (fun hc => ?_)
    · exact K hr h2 H locs ls g hM hW ht2 (lv_sub hl [1, 2, 3, 4, 5] rfl)
    have hcn : (cc0 : Int) < w0 * hh := by
      apply Int.not_le.mp
      intro q
      exact hc ((z_le32 (by omega) (by omega)).mpr q)
    -- the next cell
    have nxt : ∀ (hr : Int) (h2 : Nat → Nat → Int) (H : Heap) (locs : List Loc) (ls : Array Slot), zFB η D cy L Θ h a ma we bo ro w0 hh H0 h2 H locs → zMy w0 hh c0 (h2 ma) → zWl w0 hh c0 (h2 we) hr → (hr = -1 ∨ hr = (t : Int)) → lv_has ls 8 [(5, .int (Int32.ofInt (cc0 : Int))), (4, .int (Int32.ofInt (t : Int))), (3, .int (Int32.ofInt hr)), (2, .int (Int32.ofInt (sh : Int))), (1, .int (Int32.ofInt (b0 : Int))), (0, .ref (η.1 a))] → W p l e R s m args below meth c H locs 0 0 Q (F0 m 175 ls []) := by
      intro hr h2 H locs ls g hM hW ht2 hl
      refine lv_iinc (lv' := [(5, .int (Int32.ofInt ((cc0 + 1 : Nat) : Int))), (4, .int (Int32.ofInt (t : Int))), (3, .int (Int32.ofInt hr)), (2, .int (Int32.ofInt (sh : Int))), (1, .int (Int32.ofInt (b0 : Int))), (0, .ref (η.1 a))]) hx hb zu_X12_findSoon_175 hl (k := 0) rfl (z_inc1 (by omega)) (by decide) rfl (fun ls hl => ?_)
      refine lv_goto (tgt := 63) hx hb zu_X12_findSoon_178 (by decide) ?_
      exact ih (cc0 + 1) hr h2 H locs ls (by omega) (by omega) hM hW ht2 g hl
    refine lv_aload_n hx hb zu_X12_findSoon_77 rfl (lv_at hl 5 rfl) ?_
    refine hw_fmay X g zu_X12_findSoon_78 ?_
    refine lv_bipush (v := Int32.ofInt 64) hx hb zu_X12_findSoon_81 (by decide) ?_
    refine lv_iload hx hb zu_X12_findSoon_83 (lv_at hl 1 rfl) ?_
    refine lv_imul hx hb zu_X12_findSoon_85 ?_
    refine lv_iload hx hb zu_X12_findSoon_86 (lv_at hl 0 rfl) ?_
    refine lv_iadd hx hb zu_X12_findSoon_88 ?_
    rw [z_ix (by omega) (by omega)]
    refine hw_ld_may X g (by omega) zu_X12_findSoon_89 ?_
    refine lv_if_eq (tgt := 175) hx hb zu_X12_findSoon_90 (by decide) (fun _ => nxt hr h2 H locs ls g hM hW ht2 hl) (fun hm => ?_)
    have hm1 : h2 ma (64 * t + cc0) = 1 := by
      rcases z_bit hH (Or.inl hma) (j := 64 * t + cc0) (by omega) with q | q
      · rw [q] at hm
        exact absurd rfl hm
      · exact q
    have hR : zRch w0 hh c0 t (cc0 : Int) := hM t cc0 (by omega) (by omega) hm1
    -- the deeds
    have dd : ∀ (hr : Int) (h2 : Nat → Nat → Int) (H : Heap) (locs : List Loc) (ls : Array Slot), zFB η D cy L Θ h a ma we bo ro w0 hh H0 h2 H locs → zMy w0 hh c0 (h2 ma) → zWl w0 hh c0 (h2 we) hr → (hr = -1 ∨ hr = (t : Int)) → lv_has ls 8 [(5, .int (Int32.ofInt (cc0 : Int))), (4, .int (Int32.ofInt (t : Int))), (3, .int (Int32.ofInt hr)), (2, .int (Int32.ofInt (sh : Int))), (1, .int (Int32.ofInt (b0 : Int))), (0, .ref (η.1 a))] → W p l e R s m args below meth c H locs 0 0 Q (F0 m 121 ls []) := by
      intro hr h2 H locs ls g hM hW ht2 hl
      refine lv_iconst (v := Int32.ofInt 0) hx hb zu_X12_findSoon_121 (by decide) ?_
      refine lv_istore (lv' := [(6, .int (Int32.ofInt ((0 : Nat) : Int))), (5, .int (Int32.ofInt (cc0 : Int))), (4, .int (Int32.ofInt (t : Int))), (3, .int (Int32.ofInt hr)), (2, .int (Int32.ofInt (sh : Int))), (1, .int (Int32.ofInt (b0 : Int))), (0, .ref (η.1 a))]) hx hb zu_X12_findSoon_122 hl (by decide) rfl (fun ls hl => ?_)
      refine zfs_d X hKW hf hlo t cc0 ht (by omega) hcn hR hr (h2 we) (fun h3 H3 locs3 ls3 g3 hM3 hW3 hl3 => ?_) 5 0 h2 H locs ls (by omega) (by omega) hM rfl g hl
      exact nxt hr h3 H3 locs3 ls3 g3 hM3 (by rw [hW3]; exact hW) ht2 hl3
    refine lv_aload_n hx hb zu_X12_findSoon_93 rfl (lv_at hl 5 rfl) ?_
    refine lv_iload_n hx hb zu_X12_findSoon_94 rfl (lv_at hl 4 rfl) ?_
    refine lv_iload hx hb zu_X12_findSoon_95 (lv_at hl 0 rfl) ?_
    refine lv_iload_n hx hb zu_X12_findSoon_97 rfl (lv_at hl 3 rfl) ?_
    refine hw_cf X hcf g haM hb5 hs5 (by omega) hl.1 (fun r h3 H3 locs3 g3 em ew hr01 => ?_)
    refine lv_if_eq (tgt := 121) hx hb zu_X12_findSoon_101 (by decide) (fun _ => dd hr h3 H3 locs3 ls g3 (by rw [em]; exact hM) (by rw [ew]; exact hW) ht2 hl) (fun _ => ?_)
    refine lv_aload_n hx hb zu_X12_findSoon_104 rfl (lv_at hl 5 rfl) ?_
    refine hw_fwell X g3 zu_X12_findSoon_105 ?_
    refine lv_bipush (v := Int32.ofInt 64) hx hb zu_X12_findSoon_108 (by decide) ?_
    refine lv_iload hx hb zu_X12_findSoon_110 (lv_at hl 1 rfl) ?_
    refine lv_imul hx hb zu_X12_findSoon_112 ?_
    refine lv_iload hx hb zu_X12_findSoon_113 (lv_at hl 0 rfl) ?_
    refine lv_iadd hx hb zu_X12_findSoon_115 ?_
    rw [z_ix (by omega) (by omega)]
    refine lv_iconst (v := Int32.ofInt 1) hx hb zu_X12_findSoon_116 (by decide) ?_
    refine hw_st_well X g3 (by omega) (Or.inr rfl) zu_X12_findSoon_117 (fun H4 locs4 g4 => ?_)
    refine lv_iload hx hb zu_X12_findSoon_118 (lv_at hl 1 rfl) ?_
    refine lv_istore_n (lv' := [(3, .int (Int32.ofInt (t : Int))), (5, .int (Int32.ofInt (cc0 : Int))), (4, .int (Int32.ofInt (t : Int))), (2, .int (Int32.ofInt (sh : Int))), (1, .int (Int32.ofInt (b0 : Int))), (0, .ref (η.1 a))]) hx hb zu_X12_findSoon_120 rfl hl (by decide) rfl (fun ls hl => ?_)
    refine dd (t : Int) _ H4 locs4 ls g4 ?_ ?_ (Or.inr rfl) (lv_sub hl [1, 2, 0, 3, 4, 5] rfl)
    · rw [zup_row (z_mawe g3), em]
      exact hM
    · rw [zup_slf, ew]
      exact zWl_hit hW ht2 ht (by omega) hR
