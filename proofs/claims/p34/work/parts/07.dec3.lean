theorem dL_cell_0 : decode cL_cell 0 = .ok (.iload_n 1, 1) := by decide +kernel
theorem dL_cell_1 : decode cL_cell 1 = .ok (.aload_n 0, 1) := by decide +kernel
theorem dL_cell_2 : decode cL_cell 2 = .ok (.arraylength, 1) := by decide +kernel
theorem dL_cell_3 : decode cL_cell 3 = .ok (.if_icmp .ge 9, 3) := by decide +kernel
theorem dL_cell_6 : decode cL_cell 6 = .ok (.aload_n 0, 1) := by decide +kernel
theorem dL_cell_7 : decode cL_cell 7 = .ok (.iload_n 1, 1) := by decide +kernel
theorem dL_cell_8 : decode cL_cell 8 = .ok (.iaload, 1) := by decide +kernel
theorem dL_cell_9 : decode cL_cell 9 = .ok (.goto 11, 3) := by decide +kernel
theorem dL_cell_12 : decode cL_cell 12 = .ok (.ldc 7, 2) := by decide +kernel
theorem dL_cell_14 : decode cL_cell 14 = .ok (.iload_n 1, 1) := by decide +kernel
theorem dL_cell_15 : decode cL_cell 15 = .ok (.sipush 521, 3) := by decide +kernel
theorem dL_cell_18 : decode cL_cell 18 = .ok (.iadd, 1) := by decide +kernel
theorem dL_cell_19 : decode cL_cell 19 = .ok (.imul, 1) := by decide +kernel
theorem dL_cell_20 : decode cL_cell 20 = .ok (.ireturn, 1) := by decide +kernel
theorem dL_up_0 : decode cL_up 0 = .ok (.iload_n 0, 1) := by decide +kernel
theorem dL_up_1 : decode cL_up 1 = .ok (.ldc 8, 2) := by decide +kernel
theorem dL_up_3 : decode cL_up 3 = .ok (.iand, 1) := by decide +kernel
theorem dL_up_4 : decode cL_up 4 = .ok (.iload_n 1, 1) := by decide +kernel
theorem dL_up_5 : decode cL_up 5 = .ok (.irem, 1) := by decide +kernel
theorem dL_up_6 : decode cL_up 6 = .ok (.ireturn, 1) := by decide +kernel
theorem dL_other_0 : decode cL_other 0 = .ok (.iload_n 0, 1) := by decide +kernel
theorem dL_other_1 : decode cL_other 1 = .ok (.ifCond .ne 7, 3) := by decide +kernel
theorem dL_other_4 : decode cL_other 4 = .ok (.iconst 0, 1) := by decide +kernel
theorem dL_other_5 : decode cL_other 5 = .ok (.goto 9, 3) := by decide +kernel
theorem dL_other_8 : decode cL_other 8 = .ok (.iconst 1, 1) := by decide +kernel
theorem dL_other_9 : decode cL_other 9 = .ok (.iload_n 0, 1) := by decide +kernel
theorem dL_other_10 : decode cL_other 10 = .ok (.bipush 9, 2) := by decide +kernel
theorem dL_other_12 : decode cL_other 12 = .ok (.irem, 1) := by decide +kernel
theorem dL_other_13 : decode cL_other 13 = .ok (.iadd, 1) := by decide +kernel
theorem dL_other_14 : decode cL_other 14 = .ok (.ireturn, 1) := by decide +kernel
theorem dL_isStill_0 : decode cL_isStill 0 = .ok (.aload_n 0, 1) := by decide +kernel
theorem dL_isStill_1 : decode cL_isStill 1 = .ok (.iconst 5, 1) := by decide +kernel
theorem dL_isStill_2 : decode cL_isStill 2 = .ok (.invokevirtual 9, 3) := by decide +kernel
theorem dL_isStill_5 : decode cL_isStill 5 = .ok (.ifCond .ne 16, 3) := by decide +kernel
theorem dL_isStill_8 : decode cL_isStill 8 = .ok (.aload_n 0, 1) := by decide +kernel
theorem dL_isStill_9 : decode cL_isStill 9 = .ok (.bipush 6, 2) := by decide +kernel
theorem dL_isStill_11 : decode cL_isStill 11 = .ok (.invokevirtual 9, 3) := by decide +kernel
theorem dL_isStill_14 : decode cL_isStill 14 = .ok (.ifCond .ge 7, 3) := by decide +kernel
theorem dL_isStill_17 : decode cL_isStill 17 = .ok (.iconst 1, 1) := by decide +kernel
theorem dL_isStill_18 : decode cL_isStill 18 = .ok (.goto 4, 3) := by decide +kernel
theorem dL_isStill_21 : decode cL_isStill 21 = .ok (.iconst 0, 1) := by decide +kernel
theorem dL_isStill_22 : decode cL_isStill 22 = .ok (.ireturn, 1) := by decide +kernel
theorem dL_isStep_0 : decode cL_isStep 0 = .ok (.iload_n 2, 1) := by decide +kernel
theorem dL_isStep_1 : decode cL_isStep 1 = .ok (.iconst 4, 1) := by decide +kernel
theorem dL_isStep_2 : decode cL_isStep 2 = .ok (.ishr, 1) := by decide +kernel
theorem dL_isStep_3 : decode cL_isStep 3 = .ok (.bipush 10, 2) := by decide +kernel
theorem dL_isStep_5 : decode cL_isStep 5 = .ok (.invokestatic 15, 3) := by decide +kernel
theorem dL_isStep_8 : decode cL_isStep 8 = .ok (.istore_n 3, 1) := by decide +kernel
theorem dL_isStep_9 : decode cL_isStep 9 = .ok (.iload_n 2, 1) := by decide +kernel
theorem dL_isStep_10 : decode cL_isStep 10 = .ok (.iconst 4, 1) := by decide +kernel
theorem dL_isStep_11 : decode cL_isStep 11 = .ok (.ishr, 1) := by decide +kernel
theorem dL_isStep_12 : decode cL_isStep 12 = .ok (.iconst 3, 1) := by decide +kernel
theorem dL_isStep_13 : decode cL_isStep 13 = .ok (.invokestatic 15, 3) := by decide +kernel
theorem dL_isStep_16 : decode cL_isStep 16 = .ok (.istore 4, 2) := by decide +kernel
theorem dL_isStep_18 : decode cL_isStep 18 = .ok (.iload_n 2, 1) := by decide +kernel
theorem dL_isStep_19 : decode cL_isStep 19 = .ok (.bipush 11, 2) := by decide +kernel
theorem dL_isStep_21 : decode cL_isStep 21 = .ok (.invokestatic 15, 3) := by decide +kernel
theorem dL_isStep_24 : decode cL_isStep 24 = .ok (.tableswitch 445 0 9 #[56, 81, 106, 149, 189, 274, 295, 323, 347, 391], 56) := by decide +kernel
theorem dL_isStep_80 : decode cL_isStep 80 = .ok (.aload_n 0, 1) := by decide +kernel
theorem dL_isStep_81 : decode cL_isStep 81 = .ok (.iload_n 3, 1) := by decide +kernel
theorem dL_isStep_82 : decode cL_isStep 82 = .ok (.invokevirtual 21, 3) := by decide +kernel
theorem dL_isStep_85 : decode cL_isStep 85 = .ok (.invokestatic 24, 3) := by decide +kernel
theorem dL_isStep_88 : decode cL_isStep 88 = .ok (.aload_n 1, 1) := by decide +kernel
theorem dL_isStep_89 : decode cL_isStep 89 = .ok (.iload_n 3, 1) := by decide +kernel
theorem dL_isStep_90 : decode cL_isStep 90 = .ok (.invokestatic 24, 3) := by decide +kernel
theorem dL_isStep_93 : decode cL_isStep 93 = .ok (.invokevirtual 21, 3) := by decide +kernel
theorem dL_isStep_96 : decode cL_isStep 96 = .ok (.if_icmp .ne 7, 3) := by decide +kernel
theorem dL_isStep_99 : decode cL_isStep 99 = .ok (.iconst 1, 1) := by decide +kernel
theorem dL_isStep_100 : decode cL_isStep 100 = .ok (.goto 4, 3) := by decide +kernel
theorem dL_isStep_103 : decode cL_isStep 103 = .ok (.iconst 0, 1) := by decide +kernel
theorem dL_isStep_104 : decode cL_isStep 104 = .ok (.ireturn, 1) := by decide +kernel
theorem dL_isStep_105 : decode cL_isStep 105 = .ok (.aload_n 0, 1) := by decide +kernel
theorem dL_isStep_106 : decode cL_isStep 106 = .ok (.iload_n 3, 1) := by decide +kernel
theorem dL_isStep_107 : decode cL_isStep 107 = .ok (.invokevirtual 27, 3) := by decide +kernel
theorem dL_isStep_110 : decode cL_isStep 110 = .ok (.invokestatic 24, 3) := by decide +kernel
theorem dL_isStep_113 : decode cL_isStep 113 = .ok (.aload_n 1, 1) := by decide +kernel
theorem dL_isStep_114 : decode cL_isStep 114 = .ok (.iload_n 3, 1) := by decide +kernel
theorem dL_isStep_115 : decode cL_isStep 115 = .ok (.invokestatic 24, 3) := by decide +kernel
theorem dL_isStep_118 : decode cL_isStep 118 = .ok (.invokevirtual 27, 3) := by decide +kernel
theorem dL_isStep_121 : decode cL_isStep 121 = .ok (.if_icmp .ne 7, 3) := by decide +kernel
theorem dL_isStep_124 : decode cL_isStep 124 = .ok (.iconst 1, 1) := by decide +kernel
theorem dL_isStep_125 : decode cL_isStep 125 = .ok (.goto 4, 3) := by decide +kernel
theorem dL_isStep_128 : decode cL_isStep 128 = .ok (.iconst 0, 1) := by decide +kernel
theorem dL_isStep_129 : decode cL_isStep 129 = .ok (.ireturn, 1) := by decide +kernel
theorem dL_isStep_130 : decode cL_isStep 130 = .ok (.aload_n 0, 1) := by decide +kernel
theorem dL_isStep_131 : decode cL_isStep 131 = .ok (.iload 4, 2) := by decide +kernel
theorem dL_isStep_133 : decode cL_isStep 133 = .ok (.iconst 1, 1) := by decide +kernel
theorem dL_isStep_134 : decode cL_isStep 134 = .ok (.iload_n 2, 1) := by decide +kernel
theorem dL_isStep_135 : decode cL_isStep 135 = .ok (.bipush 6, 2) := by decide +kernel
theorem dL_isStep_137 : decode cL_isStep 137 = .ok (.ishr, 1) := by decide +kernel
theorem dL_isStep_138 : decode cL_isStep 138 = .ok (.bipush 40, 2) := by decide +kernel
theorem dL_isStep_140 : decode cL_isStep 140 = .ok (.invokestatic 15, 3) := by decide +kernel
theorem dL_isStep_143 : decode cL_isStep 143 = .ok (.iadd, 1) := by decide +kernel
theorem dL_isStep_144 : decode cL_isStep 144 = .ok (.invokevirtual 30, 3) := by decide +kernel
theorem dL_isStep_147 : decode cL_isStep 147 = .ok (.aload_n 1, 1) := by decide +kernel
theorem dL_isStep_148 : decode cL_isStep 148 = .ok (.iload 4, 2) := by decide +kernel
theorem dL_isStep_150 : decode cL_isStep 150 = .ok (.iconst 1, 1) := by decide +kernel
theorem dL_isStep_151 : decode cL_isStep 151 = .ok (.iload_n 2, 1) := by decide +kernel
theorem dL_isStep_152 : decode cL_isStep 152 = .ok (.bipush 6, 2) := by decide +kernel
theorem dL_isStep_154 : decode cL_isStep 154 = .ok (.ishr, 1) := by decide +kernel
theorem dL_isStep_155 : decode cL_isStep 155 = .ok (.bipush 40, 2) := by decide +kernel
theorem dL_isStep_157 : decode cL_isStep 157 = .ok (.invokestatic 15, 3) := by decide +kernel
theorem dL_isStep_160 : decode cL_isStep 160 = .ok (.iadd, 1) := by decide +kernel
theorem dL_isStep_161 : decode cL_isStep 161 = .ok (.invokevirtual 30, 3) := by decide +kernel
theorem dL_isStep_164 : decode cL_isStep 164 = .ok (.if_icmp .ne 7, 3) := by decide +kernel
theorem dL_isStep_167 : decode cL_isStep 167 = .ok (.iconst 1, 1) := by decide +kernel
theorem dL_isStep_168 : decode cL_isStep 168 = .ok (.goto 4, 3) := by decide +kernel
theorem dL_isStep_171 : decode cL_isStep 171 = .ok (.iconst 0, 1) := by decide +kernel
theorem dL_isStep_172 : decode cL_isStep 172 = .ok (.ireturn, 1) := by decide +kernel
theorem dL_isStep_173 : decode cL_isStep 173 = .ok (.aload_n 0, 1) := by decide +kernel
theorem dL_isStep_174 : decode cL_isStep 174 = .ok (.invokestatic 33, 3) := by decide +kernel
theorem dL_isStep_177 : decode cL_isStep 177 = .ok (.ifCond .eq 30, 3) := by decide +kernel
theorem dL_isStep_180 : decode cL_isStep 180 = .ok (.aload_n 0, 1) := by decide +kernel
theorem dL_isStep_181 : decode cL_isStep 181 = .ok (.iload_n 2, 1) := by decide +kernel
theorem dL_isStep_182 : decode cL_isStep 182 = .ok (.iconst 4, 1) := by decide +kernel
theorem dL_isStep_183 : decode cL_isStep 183 = .ok (.ishr, 1) := by decide +kernel
theorem dL_isStep_184 : decode cL_isStep 184 = .ok (.bipush 16, 2) := by decide +kernel
theorem dL_isStep_186 : decode cL_isStep 186 = .ok (.invokestatic 15, 3) := by decide +kernel
theorem dL_isStep_189 : decode cL_isStep 189 = .ok (.invokevirtual 37, 3) := by decide +kernel
theorem dL_isStep_192 : decode cL_isStep 192 = .ok (.aload_n 1, 1) := by decide +kernel
theorem dL_isStep_193 : decode cL_isStep 193 = .ok (.iload_n 2, 1) := by decide +kernel
theorem dL_isStep_194 : decode cL_isStep 194 = .ok (.iconst 4, 1) := by decide +kernel
theorem dL_isStep_195 : decode cL_isStep 195 = .ok (.ishr, 1) := by decide +kernel
theorem dL_isStep_196 : decode cL_isStep 196 = .ok (.bipush 16, 2) := by decide +kernel
theorem dL_isStep_198 : decode cL_isStep 198 = .ok (.invokestatic 15, 3) := by decide +kernel
theorem dL_isStep_201 : decode cL_isStep 201 = .ok (.invokevirtual 37, 3) := by decide +kernel
theorem dL_isStep_204 : decode cL_isStep 204 = .ok (.if_icmp .ne 7, 3) := by decide +kernel
theorem dL_isStep_207 : decode cL_isStep 207 = .ok (.iconst 1, 1) := by decide +kernel
theorem dL_isStep_208 : decode cL_isStep 208 = .ok (.goto 4, 3) := by decide +kernel
theorem dL_isStep_211 : decode cL_isStep 211 = .ok (.iconst 0, 1) := by decide +kernel
theorem dL_isStep_212 : decode cL_isStep 212 = .ok (.ireturn, 1) := by decide +kernel
theorem dL_isStep_213 : decode cL_isStep 213 = .ok (.aload_n 0, 1) := by decide +kernel
theorem dL_isStep_214 : decode cL_isStep 214 = .ok (.iload 4, 2) := by decide +kernel
theorem dL_isStep_216 : decode cL_isStep 216 = .ok (.iload_n 2, 1) := by decide +kernel
theorem dL_isStep_217 : decode cL_isStep 217 = .ok (.bipush 6, 2) := by decide +kernel
theorem dL_isStep_219 : decode cL_isStep 219 = .ok (.ishr, 1) := by decide +kernel
theorem dL_isStep_220 : decode cL_isStep 220 = .ok (.bipush 10, 2) := by decide +kernel
theorem dL_isStep_222 : decode cL_isStep 222 = .ok (.invokestatic 15, 3) := by decide +kernel
theorem dL_isStep_225 : decode cL_isStep 225 = .ok (.iload_n 2, 1) := by decide +kernel
theorem dL_isStep_226 : decode cL_isStep 226 = .ok (.bipush 10, 2) := by decide +kernel
theorem dL_isStep_228 : decode cL_isStep 228 = .ok (.ishr, 1) := by decide +kernel
theorem dL_isStep_229 : decode cL_isStep 229 = .ok (.bipush 101, 2) := by decide +kernel
theorem dL_isStep_231 : decode cL_isStep 231 = .ok (.invokestatic 15, 3) := by decide +kernel
theorem dL_isStep_234 : decode cL_isStep 234 = .ok (.iconst 1, 1) := by decide +kernel
theorem dL_isStep_235 : decode cL_isStep 235 = .ok (.iload_n 2, 1) := by decide +kernel
theorem dL_isStep_236 : decode cL_isStep 236 = .ok (.bipush 12, 2) := by decide +kernel
theorem dL_isStep_238 : decode cL_isStep 238 = .ok (.ishr, 1) := by decide +kernel
theorem dL_isStep_239 : decode cL_isStep 239 = .ok (.bipush 100, 2) := by decide +kernel
theorem dL_isStep_241 : decode cL_isStep 241 = .ok (.invokestatic 15, 3) := by decide +kernel
theorem dL_isStep_244 : decode cL_isStep 244 = .ok (.iadd, 1) := by decide +kernel
theorem dL_isStep_245 : decode cL_isStep 245 = .ok (.invokevirtual 40, 3) := by decide +kernel
theorem dL_isStep_248 : decode cL_isStep 248 = .ok (.invokestatic 24, 3) := by decide +kernel
theorem dL_isStep_251 : decode cL_isStep 251 = .ok (.aload_n 1, 1) := by decide +kernel
theorem dL_isStep_252 : decode cL_isStep 252 = .ok (.iload 4, 2) := by decide +kernel
theorem dL_isStep_254 : decode cL_isStep 254 = .ok (.iload_n 2, 1) := by decide +kernel
theorem dL_isStep_255 : decode cL_isStep 255 = .ok (.bipush 6, 2) := by decide +kernel
theorem dL_isStep_257 : decode cL_isStep 257 = .ok (.ishr, 1) := by decide +kernel
theorem dL_isStep_258 : decode cL_isStep 258 = .ok (.bipush 10, 2) := by decide +kernel
theorem dL_isStep_260 : decode cL_isStep 260 = .ok (.invokestatic 15, 3) := by decide +kernel
theorem dL_isStep_263 : decode cL_isStep 263 = .ok (.invokestatic 24, 3) := by decide +kernel
theorem dL_isStep_266 : decode cL_isStep 266 = .ok (.iload_n 2, 1) := by decide +kernel
theorem dL_isStep_267 : decode cL_isStep 267 = .ok (.bipush 10, 2) := by decide +kernel
theorem dL_isStep_269 : decode cL_isStep 269 = .ok (.ishr, 1) := by decide +kernel
theorem dL_isStep_270 : decode cL_isStep 270 = .ok (.bipush 101, 2) := by decide +kernel
theorem dL_isStep_272 : decode cL_isStep 272 = .ok (.invokestatic 15, 3) := by decide +kernel
theorem dL_isStep_275 : decode cL_isStep 275 = .ok (.iconst 1, 1) := by decide +kernel
theorem dL_isStep_276 : decode cL_isStep 276 = .ok (.iload_n 2, 1) := by decide +kernel
theorem dL_isStep_277 : decode cL_isStep 277 = .ok (.bipush 12, 2) := by decide +kernel
theorem dL_isStep_279 : decode cL_isStep 279 = .ok (.ishr, 1) := by decide +kernel
theorem dL_isStep_280 : decode cL_isStep 280 = .ok (.bipush 100, 2) := by decide +kernel
theorem dL_isStep_282 : decode cL_isStep 282 = .ok (.invokestatic 15, 3) := by decide +kernel
theorem dL_isStep_285 : decode cL_isStep 285 = .ok (.iadd, 1) := by decide +kernel
theorem dL_isStep_286 : decode cL_isStep 286 = .ok (.invokevirtual 40, 3) := by decide +kernel
theorem dL_isStep_289 : decode cL_isStep 289 = .ok (.if_icmp .ne 7, 3) := by decide +kernel
theorem dL_isStep_292 : decode cL_isStep 292 = .ok (.iconst 1, 1) := by decide +kernel
theorem dL_isStep_293 : decode cL_isStep 293 = .ok (.goto 4, 3) := by decide +kernel
theorem dL_isStep_296 : decode cL_isStep 296 = .ok (.iconst 0, 1) := by decide +kernel
theorem dL_isStep_297 : decode cL_isStep 297 = .ok (.ireturn, 1) := by decide +kernel
theorem dL_isStep_298 : decode cL_isStep 298 = .ok (.aload_n 0, 1) := by decide +kernel
theorem dL_isStep_299 : decode cL_isStep 299 = .ok (.iload 4, 2) := by decide +kernel
theorem dL_isStep_301 : decode cL_isStep 301 = .ok (.invokevirtual 44, 3) := by decide +kernel
theorem dL_isStep_304 : decode cL_isStep 304 = .ok (.aload_n 1, 1) := by decide +kernel
theorem dL_isStep_305 : decode cL_isStep 305 = .ok (.iload 4, 2) := by decide +kernel
theorem dL_isStep_307 : decode cL_isStep 307 = .ok (.invokevirtual 44, 3) := by decide +kernel
theorem dL_isStep_310 : decode cL_isStep 310 = .ok (.if_icmp .ne 7, 3) := by decide +kernel
theorem dL_isStep_313 : decode cL_isStep 313 = .ok (.iconst 1, 1) := by decide +kernel
theorem dL_isStep_314 : decode cL_isStep 314 = .ok (.goto 4, 3) := by decide +kernel
theorem dL_isStep_317 : decode cL_isStep 317 = .ok (.iconst 0, 1) := by decide +kernel
theorem dL_isStep_318 : decode cL_isStep 318 = .ok (.ireturn, 1) := by decide +kernel
theorem dL_isStep_319 : decode cL_isStep 319 = .ok (.iload_n 2, 1) := by decide +kernel
theorem dL_isStep_320 : decode cL_isStep 320 = .ok (.iconst 4, 1) := by decide +kernel
theorem dL_isStep_321 : decode cL_isStep 321 = .ok (.ishr, 1) := by decide +kernel
theorem dL_isStep_322 : decode cL_isStep 322 = .ok (.iconst 3, 1) := by decide +kernel
theorem dL_isStep_323 : decode cL_isStep 323 = .ok (.iand, 1) := by decide +kernel
theorem dL_isStep_324 : decode cL_isStep 324 = .ok (.ifCond .gt 17, 3) := by decide +kernel
theorem dL_isStep_327 : decode cL_isStep 327 = .ok (.aload_n 0, 1) := by decide +kernel
theorem dL_isStep_328 : decode cL_isStep 328 = .ok (.invokevirtual 47, 3) := by decide +kernel
theorem dL_isStep_331 : decode cL_isStep 331 = .ok (.invokestatic 24, 3) := by decide +kernel
theorem dL_isStep_334 : decode cL_isStep 334 = .ok (.aload_n 1, 1) := by decide +kernel
theorem dL_isStep_335 : decode cL_isStep 335 = .ok (.invokevirtual 47, 3) := by decide +kernel
theorem dL_isStep_338 : decode cL_isStep 338 = .ok (.if_icmp .ne 7, 3) := by decide +kernel
theorem dL_isStep_341 : decode cL_isStep 341 = .ok (.iconst 1, 1) := by decide +kernel
theorem dL_isStep_342 : decode cL_isStep 342 = .ok (.goto 4, 3) := by decide +kernel
theorem dL_isStep_345 : decode cL_isStep 345 = .ok (.iconst 0, 1) := by decide +kernel
theorem dL_isStep_346 : decode cL_isStep 346 = .ok (.ireturn, 1) := by decide +kernel
theorem dL_isStep_347 : decode cL_isStep 347 = .ok (.aload_n 0, 1) := by decide +kernel
theorem dL_isStep_348 : decode cL_isStep 348 = .ok (.invokestatic 33, 3) := by decide +kernel
theorem dL_isStep_351 : decode cL_isStep 351 = .ok (.ifCond .eq 14, 3) := by decide +kernel
theorem dL_isStep_354 : decode cL_isStep 354 = .ok (.aload_n 0, 1) := by decide +kernel
theorem dL_isStep_355 : decode cL_isStep 355 = .ok (.invokevirtual 51, 3) := by decide +kernel
theorem dL_isStep_358 : decode cL_isStep 358 = .ok (.aload_n 1, 1) := by decide +kernel
theorem dL_isStep_359 : decode cL_isStep 359 = .ok (.invokevirtual 51, 3) := by decide +kernel
theorem dL_isStep_362 : decode cL_isStep 362 = .ok (.if_icmp .ne 7, 3) := by decide +kernel
theorem dL_isStep_365 : decode cL_isStep 365 = .ok (.iconst 1, 1) := by decide +kernel
theorem dL_isStep_366 : decode cL_isStep 366 = .ok (.goto 4, 3) := by decide +kernel
theorem dL_isStep_369 : decode cL_isStep 369 = .ok (.iconst 0, 1) := by decide +kernel
theorem dL_isStep_370 : decode cL_isStep 370 = .ok (.ireturn, 1) := by decide +kernel
theorem dL_isStep_371 : decode cL_isStep 371 = .ok (.aload_n 0, 1) := by decide +kernel
theorem dL_isStep_372 : decode cL_isStep 372 = .ok (.bipush 6, 2) := by decide +kernel
theorem dL_isStep_374 : decode cL_isStep 374 = .ok (.invokevirtual 9, 3) := by decide +kernel
theorem dL_isStep_377 : decode cL_isStep 377 = .ok (.ifCond .ge 32, 3) := by decide +kernel
theorem dL_isStep_380 : decode cL_isStep 380 = .ok (.aload_n 0, 1) := by decide +kernel
theorem dL_isStep_381 : decode cL_isStep 381 = .ok (.iload_n 2, 1) := by decide +kernel
theorem dL_isStep_382 : decode cL_isStep 382 = .ok (.iconst 4, 1) := by decide +kernel
theorem dL_isStep_383 : decode cL_isStep 383 = .ok (.ishr, 1) := by decide +kernel
theorem dL_isStep_384 : decode cL_isStep 384 = .ok (.sipush 1001, 3) := by decide +kernel
theorem dL_isStep_387 : decode cL_isStep 387 = .ok (.invokestatic 15, 3) := by decide +kernel
theorem dL_isStep_390 : decode cL_isStep 390 = .ok (.invokevirtual 54, 3) := by decide +kernel
theorem dL_isStep_393 : decode cL_isStep 393 = .ok (.aload_n 1, 1) := by decide +kernel
theorem dL_isStep_394 : decode cL_isStep 394 = .ok (.iload_n 2, 1) := by decide +kernel
theorem dL_isStep_395 : decode cL_isStep 395 = .ok (.iconst 4, 1) := by decide +kernel
theorem dL_isStep_396 : decode cL_isStep 396 = .ok (.ishr, 1) := by decide +kernel
theorem dL_isStep_397 : decode cL_isStep 397 = .ok (.sipush 1001, 3) := by decide +kernel
theorem dL_isStep_400 : decode cL_isStep 400 = .ok (.invokestatic 15, 3) := by decide +kernel
theorem dL_isStep_403 : decode cL_isStep 403 = .ok (.invokevirtual 54, 3) := by decide +kernel
theorem dL_isStep_406 : decode cL_isStep 406 = .ok (.if_icmp .ne 7, 3) := by decide +kernel
theorem dL_isStep_409 : decode cL_isStep 409 = .ok (.iconst 1, 1) := by decide +kernel
theorem dL_isStep_410 : decode cL_isStep 410 = .ok (.goto 4, 3) := by decide +kernel
theorem dL_isStep_413 : decode cL_isStep 413 = .ok (.iconst 0, 1) := by decide +kernel
theorem dL_isStep_414 : decode cL_isStep 414 = .ok (.ireturn, 1) := by decide +kernel
theorem dL_isStep_415 : decode cL_isStep 415 = .ok (.iload_n 3, 1) := by decide +kernel
theorem dL_isStep_416 : decode cL_isStep 416 = .ok (.ifCond .eq 47, 3) := by decide +kernel
theorem dL_isStep_419 : decode cL_isStep 419 = .ok (.aload_n 0, 1) := by decide +kernel
theorem dL_isStep_420 : decode cL_isStep 420 = .ok (.iload_n 3, 1) := by decide +kernel
theorem dL_isStep_421 : decode cL_isStep 421 = .ok (.iload_n 2, 1) := by decide +kernel
theorem dL_isStep_422 : decode cL_isStep 422 = .ok (.bipush 9, 2) := by decide +kernel
theorem dL_isStep_424 : decode cL_isStep 424 = .ok (.ishr, 1) := by decide +kernel
theorem dL_isStep_425 : decode cL_isStep 425 = .ok (.iconst 1, 1) := by decide +kernel
theorem dL_isStep_426 : decode cL_isStep 426 = .ok (.iand, 1) := by decide +kernel
theorem dL_isStep_427 : decode cL_isStep 427 = .ok (.ifCond .ne 7, 3) := by decide +kernel
theorem dL_isStep_430 : decode cL_isStep 430 = .ok (.iconst 1, 1) := by decide +kernel
theorem dL_isStep_431 : decode cL_isStep 431 = .ok (.goto 4, 3) := by decide +kernel
theorem dL_isStep_434 : decode cL_isStep 434 = .ok (.iconst 0, 1) := by decide +kernel
theorem dL_isStep_435 : decode cL_isStep 435 = .ok (.invokevirtual 57, 3) := by decide +kernel
theorem dL_isStep_438 : decode cL_isStep 438 = .ok (.aload_n 1, 1) := by decide +kernel
theorem dL_isStep_439 : decode cL_isStep 439 = .ok (.iload_n 3, 1) := by decide +kernel
theorem dL_isStep_440 : decode cL_isStep 440 = .ok (.invokestatic 24, 3) := by decide +kernel
theorem dL_isStep_443 : decode cL_isStep 443 = .ok (.iload_n 2, 1) := by decide +kernel
theorem dL_isStep_444 : decode cL_isStep 444 = .ok (.bipush 9, 2) := by decide +kernel
theorem dL_isStep_446 : decode cL_isStep 446 = .ok (.ishr, 1) := by decide +kernel
theorem dL_isStep_447 : decode cL_isStep 447 = .ok (.iconst 1, 1) := by decide +kernel
theorem dL_isStep_448 : decode cL_isStep 448 = .ok (.iand, 1) := by decide +kernel
theorem dL_isStep_449 : decode cL_isStep 449 = .ok (.ifCond .ne 7, 3) := by decide +kernel
theorem dL_isStep_452 : decode cL_isStep 452 = .ok (.iconst 1, 1) := by decide +kernel
theorem dL_isStep_453 : decode cL_isStep 453 = .ok (.goto 4, 3) := by decide +kernel
theorem dL_isStep_456 : decode cL_isStep 456 = .ok (.iconst 0, 1) := by decide +kernel
theorem dL_isStep_457 : decode cL_isStep 457 = .ok (.invokevirtual 57, 3) := by decide +kernel
theorem dL_isStep_460 : decode cL_isStep 460 = .ok (.if_icmp .ne 7, 3) := by decide +kernel
theorem dL_isStep_463 : decode cL_isStep 463 = .ok (.iconst 1, 1) := by decide +kernel
theorem dL_isStep_464 : decode cL_isStep 464 = .ok (.goto 4, 3) := by decide +kernel
theorem dL_isStep_467 : decode cL_isStep 467 = .ok (.iconst 0, 1) := by decide +kernel
theorem dL_isStep_468 : decode cL_isStep 468 = .ok (.ireturn, 1) := by decide +kernel
theorem dL_isStep_469 : decode cL_isStep 469 = .ok (.aload_n 0, 1) := by decide +kernel
theorem dL_isStep_470 : decode cL_isStep 470 = .ok (.iload_n 2, 1) := by decide +kernel
theorem dL_isStep_471 : decode cL_isStep 471 = .ok (.iconst 4, 1) := by decide +kernel
theorem dL_isStep_472 : decode cL_isStep 472 = .ok (.ishr, 1) := by decide +kernel
theorem dL_isStep_473 : decode cL_isStep 473 = .ok (.bipush 30, 2) := by decide +kernel
theorem dL_isStep_475 : decode cL_isStep 475 = .ok (.invokestatic 15, 3) := by decide +kernel
theorem dL_isStep_478 : decode cL_isStep 478 = .ok (.invokevirtual 61, 3) := by decide +kernel
theorem dL_isStep_481 : decode cL_isStep 481 = .ok (.aload_n 1, 1) := by decide +kernel
theorem dL_isStep_482 : decode cL_isStep 482 = .ok (.iload_n 2, 1) := by decide +kernel
theorem dL_isStep_483 : decode cL_isStep 483 = .ok (.iconst 4, 1) := by decide +kernel
theorem dL_isStep_484 : decode cL_isStep 484 = .ok (.ishr, 1) := by decide +kernel
theorem dL_isStep_485 : decode cL_isStep 485 = .ok (.bipush 30, 2) := by decide +kernel
theorem dL_isStep_487 : decode cL_isStep 487 = .ok (.invokestatic 15, 3) := by decide +kernel
theorem dL_isStep_490 : decode cL_isStep 490 = .ok (.invokevirtual 61, 3) := by decide +kernel
theorem dL_isStep_493 : decode cL_isStep 493 = .ok (.if_icmp .ne 7, 3) := by decide +kernel
theorem dL_isStep_496 : decode cL_isStep 496 = .ok (.iconst 1, 1) := by decide +kernel
theorem dL_isStep_497 : decode cL_isStep 497 = .ok (.goto 4, 3) := by decide +kernel
theorem dL_isStep_500 : decode cL_isStep 500 = .ok (.iconst 0, 1) := by decide +kernel
theorem dL_isStep_501 : decode cL_isStep 501 = .ok (.ireturn, 1) := by decide +kernel
theorem dL_areAlike_0 : decode cL_areAlike 0 = .ok (.aload_n 0, 1) := by decide +kernel
theorem dL_areAlike_1 : decode cL_areAlike 1 = .ok (.iconst 5, 1) := by decide +kernel
theorem dL_areAlike_2 : decode cL_areAlike 2 = .ok (.invokevirtual 9, 3) := by decide +kernel
theorem dL_areAlike_5 : decode cL_areAlike 5 = .ok (.aload_n 1, 1) := by decide +kernel
theorem dL_areAlike_6 : decode cL_areAlike 6 = .ok (.iconst 5, 1) := by decide +kernel
theorem dL_areAlike_7 : decode cL_areAlike 7 = .ok (.invokevirtual 9, 3) := by decide +kernel
theorem dL_areAlike_10 : decode cL_areAlike 10 = .ok (.if_icmp .ne 71, 3) := by decide +kernel
theorem dL_areAlike_13 : decode cL_areAlike 13 = .ok (.aload_n 0, 1) := by decide +kernel
theorem dL_areAlike_14 : decode cL_areAlike 14 = .ok (.bipush 6, 2) := by decide +kernel
theorem dL_areAlike_16 : decode cL_areAlike 16 = .ok (.invokevirtual 9, 3) := by decide +kernel
theorem dL_areAlike_19 : decode cL_areAlike 19 = .ok (.aload_n 1, 1) := by decide +kernel
theorem dL_areAlike_20 : decode cL_areAlike 20 = .ok (.bipush 6, 2) := by decide +kernel
theorem dL_areAlike_22 : decode cL_areAlike 22 = .ok (.invokevirtual 9, 3) := by decide +kernel
theorem dL_areAlike_25 : decode cL_areAlike 25 = .ok (.if_icmp .ne 56, 3) := by decide +kernel
theorem dL_areAlike_28 : decode cL_areAlike 28 = .ok (.aload_n 0, 1) := by decide +kernel
theorem dL_areAlike_29 : decode cL_areAlike 29 = .ok (.bipush 8, 2) := by decide +kernel
theorem dL_areAlike_31 : decode cL_areAlike 31 = .ok (.invokevirtual 9, 3) := by decide +kernel
theorem dL_areAlike_34 : decode cL_areAlike 34 = .ok (.aload_n 1, 1) := by decide +kernel
theorem dL_areAlike_35 : decode cL_areAlike 35 = .ok (.bipush 8, 2) := by decide +kernel
theorem dL_areAlike_37 : decode cL_areAlike 37 = .ok (.invokevirtual 9, 3) := by decide +kernel
theorem dL_areAlike_40 : decode cL_areAlike 40 = .ok (.if_icmp .ne 41, 3) := by decide +kernel
theorem dL_areAlike_43 : decode cL_areAlike 43 = .ok (.aload_n 0, 1) := by decide +kernel
theorem dL_areAlike_44 : decode cL_areAlike 44 = .ok (.invokevirtual 64, 3) := by decide +kernel
theorem dL_areAlike_47 : decode cL_areAlike 47 = .ok (.aload_n 1, 1) := by decide +kernel
theorem dL_areAlike_48 : decode cL_areAlike 48 = .ok (.invokevirtual 64, 3) := by decide +kernel
theorem dL_areAlike_51 : decode cL_areAlike 51 = .ok (.dcmp .l, 1) := by decide +kernel
theorem dL_areAlike_52 : decode cL_areAlike 52 = .ok (.ifCond .ne 29, 3) := by decide +kernel
theorem dL_areAlike_55 : decode cL_areAlike 55 = .ok (.aload_n 0, 1) := by decide +kernel
theorem dL_areAlike_56 : decode cL_areAlike 56 = .ok (.invokevirtual 68, 3) := by decide +kernel
theorem dL_areAlike_59 : decode cL_areAlike 59 = .ok (.aload_n 1, 1) := by decide +kernel
theorem dL_areAlike_60 : decode cL_areAlike 60 = .ok (.invokevirtual 68, 3) := by decide +kernel
theorem dL_areAlike_63 : decode cL_areAlike 63 = .ok (.if_icmp .ne 18, 3) := by decide +kernel
theorem dL_areAlike_66 : decode cL_areAlike 66 = .ok (.aload_n 0, 1) := by decide +kernel
theorem dL_areAlike_67 : decode cL_areAlike 67 = .ok (.invokevirtual 71, 3) := by decide +kernel
theorem dL_areAlike_70 : decode cL_areAlike 70 = .ok (.aload_n 1, 1) := by decide +kernel
theorem dL_areAlike_71 : decode cL_areAlike 71 = .ok (.invokevirtual 71, 3) := by decide +kernel
theorem dL_areAlike_74 : decode cL_areAlike 74 = .ok (.if_icmp .ne 7, 3) := by decide +kernel
theorem dL_areAlike_77 : decode cL_areAlike 77 = .ok (.iconst 1, 1) := by decide +kernel
theorem dL_areAlike_78 : decode cL_areAlike 78 = .ok (.goto 4, 3) := by decide +kernel
theorem dL_areAlike_81 : decode cL_areAlike 81 = .ok (.iconst 0, 1) := by decide +kernel
theorem dL_areAlike_82 : decode cL_areAlike 82 = .ok (.istore_n 2, 1) := by decide +kernel
theorem dL_areAlike_83 : decode cL_areAlike 83 = .ok (.iconst 0, 1) := by decide +kernel
theorem dL_areAlike_84 : decode cL_areAlike 84 = .ok (.istore_n 3, 1) := by decide +kernel
theorem dL_areAlike_85 : decode cL_areAlike 85 = .ok (.iload_n 3, 1) := by decide +kernel
theorem dL_areAlike_86 : decode cL_areAlike 86 = .ok (.bipush 10, 2) := by decide +kernel
theorem dL_areAlike_88 : decode cL_areAlike 88 = .ok (.if_icmp .ge 87, 3) := by decide +kernel
theorem dL_areAlike_91 : decode cL_areAlike 91 = .ok (.iload_n 2, 1) := by decide +kernel
theorem dL_areAlike_92 : decode cL_areAlike 92 = .ok (.ifCond .eq 75, 3) := by decide +kernel
theorem dL_areAlike_95 : decode cL_areAlike 95 = .ok (.aload_n 0, 1) := by decide +kernel
theorem dL_areAlike_96 : decode cL_areAlike 96 = .ok (.iload_n 3, 1) := by decide +kernel
theorem dL_areAlike_97 : decode cL_areAlike 97 = .ok (.iconst 0, 1) := by decide +kernel
theorem dL_areAlike_98 : decode cL_areAlike 98 = .ok (.invokevirtual 74, 3) := by decide +kernel
theorem dL_areAlike_101 : decode cL_areAlike 101 = .ok (.aload_n 1, 1) := by decide +kernel
theorem dL_areAlike_102 : decode cL_areAlike 102 = .ok (.iload_n 3, 1) := by decide +kernel
theorem dL_areAlike_103 : decode cL_areAlike 103 = .ok (.invokestatic 24, 3) := by decide +kernel
theorem dL_areAlike_106 : decode cL_areAlike 106 = .ok (.iconst 0, 1) := by decide +kernel
theorem dL_areAlike_107 : decode cL_areAlike 107 = .ok (.invokevirtual 74, 3) := by decide +kernel
theorem dL_areAlike_110 : decode cL_areAlike 110 = .ok (.if_icmp .ne 57, 3) := by decide +kernel
theorem dL_areAlike_113 : decode cL_areAlike 113 = .ok (.aload_n 0, 1) := by decide +kernel
theorem dL_areAlike_114 : decode cL_areAlike 114 = .ok (.iload_n 3, 1) := by decide +kernel
theorem dL_areAlike_115 : decode cL_areAlike 115 = .ok (.iconst 1, 1) := by decide +kernel
theorem dL_areAlike_116 : decode cL_areAlike 116 = .ok (.invokevirtual 74, 3) := by decide +kernel
theorem dL_areAlike_119 : decode cL_areAlike 119 = .ok (.aload_n 1, 1) := by decide +kernel
theorem dL_areAlike_120 : decode cL_areAlike 120 = .ok (.iload_n 3, 1) := by decide +kernel
theorem dL_areAlike_121 : decode cL_areAlike 121 = .ok (.invokestatic 24, 3) := by decide +kernel
theorem dL_areAlike_124 : decode cL_areAlike 124 = .ok (.iconst 1, 1) := by decide +kernel
theorem dL_areAlike_125 : decode cL_areAlike 125 = .ok (.invokevirtual 74, 3) := by decide +kernel
theorem dL_areAlike_128 : decode cL_areAlike 128 = .ok (.if_icmp .ne 39, 3) := by decide +kernel
theorem dL_areAlike_131 : decode cL_areAlike 131 = .ok (.aload_n 0, 1) := by decide +kernel
theorem dL_areAlike_132 : decode cL_areAlike 132 = .ok (.iload_n 3, 1) := by decide +kernel
theorem dL_areAlike_133 : decode cL_areAlike 133 = .ok (.invokevirtual 77, 3) := by decide +kernel
theorem dL_areAlike_136 : decode cL_areAlike 136 = .ok (.aload_n 1, 1) := by decide +kernel
theorem dL_areAlike_137 : decode cL_areAlike 137 = .ok (.iload_n 3, 1) := by decide +kernel
theorem dL_areAlike_138 : decode cL_areAlike 138 = .ok (.invokestatic 24, 3) := by decide +kernel
theorem dL_areAlike_141 : decode cL_areAlike 141 = .ok (.invokevirtual 77, 3) := by decide +kernel
theorem dL_areAlike_144 : decode cL_areAlike 144 = .ok (.if_icmp .ne 23, 3) := by decide +kernel
theorem dL_areAlike_147 : decode cL_areAlike 147 = .ok (.aload_n 0, 1) := by decide +kernel
theorem dL_areAlike_148 : decode cL_areAlike 148 = .ok (.iload_n 3, 1) := by decide +kernel
theorem dL_areAlike_149 : decode cL_areAlike 149 = .ok (.invokevirtual 80, 3) := by decide +kernel
theorem dL_areAlike_152 : decode cL_areAlike 152 = .ok (.aload_n 1, 1) := by decide +kernel
theorem dL_areAlike_153 : decode cL_areAlike 153 = .ok (.iload_n 3, 1) := by decide +kernel
theorem dL_areAlike_154 : decode cL_areAlike 154 = .ok (.invokestatic 24, 3) := by decide +kernel
theorem dL_areAlike_157 : decode cL_areAlike 157 = .ok (.invokevirtual 80, 3) := by decide +kernel
theorem dL_areAlike_160 : decode cL_areAlike 160 = .ok (.if_icmp .ne 7, 3) := by decide +kernel
theorem dL_areAlike_163 : decode cL_areAlike 163 = .ok (.iconst 1, 1) := by decide +kernel
theorem dL_areAlike_164 : decode cL_areAlike 164 = .ok (.goto 4, 3) := by decide +kernel
theorem dL_areAlike_167 : decode cL_areAlike 167 = .ok (.iconst 0, 1) := by decide +kernel
theorem dL_areAlike_168 : decode cL_areAlike 168 = .ok (.istore_n 2, 1) := by decide +kernel
theorem dL_areAlike_169 : decode cL_areAlike 169 = .ok (.iinc 3 1, 3) := by decide +kernel
theorem dL_areAlike_172 : decode cL_areAlike 172 = .ok (.goto (-87), 3) := by decide +kernel
theorem dL_areAlike_175 : decode cL_areAlike 175 = .ok (.iload_n 2, 1) := by decide +kernel
theorem dL_areAlike_176 : decode cL_areAlike 176 = .ok (.ireturn, 1) := by decide +kernel
theorem dL_isSound_0 : decode cL_isSound 0 = .ok (.iconst 0, 1) := by decide +kernel
theorem dL_isSound_1 : decode cL_isSound 1 = .ok (.istore_n 1, 1) := by decide +kernel
theorem dL_isSound_2 : decode cL_isSound 2 = .ok (.iconst 0, 1) := by decide +kernel
theorem dL_isSound_3 : decode cL_isSound 3 = .ok (.istore_n 2, 1) := by decide +kernel
theorem dL_isSound_4 : decode cL_isSound 4 = .ok (.iconst 1, 1) := by decide +kernel
theorem dL_isSound_5 : decode cL_isSound 5 = .ok (.istore_n 3, 1) := by decide +kernel
theorem dL_isSound_6 : decode cL_isSound 6 = .ok (.iconst 0, 1) := by decide +kernel
theorem dL_isSound_7 : decode cL_isSound 7 = .ok (.istore 4, 2) := by decide +kernel
theorem dL_isSound_9 : decode cL_isSound 9 = .ok (.iload 4, 2) := by decide +kernel
theorem dL_isSound_11 : decode cL_isSound 11 = .ok (.bipush 10, 2) := by decide +kernel
theorem dL_isSound_13 : decode cL_isSound 13 = .ok (.if_icmp .ge 117, 3) := by decide +kernel
theorem dL_isSound_16 : decode cL_isSound 16 = .ok (.iload_n 1, 1) := by decide +kernel
theorem dL_isSound_17 : decode cL_isSound 17 = .ok (.aload_n 0, 1) := by decide +kernel
theorem dL_isSound_18 : decode cL_isSound 18 = .ok (.iload 4, 2) := by decide +kernel
theorem dL_isSound_20 : decode cL_isSound 20 = .ok (.iconst 0, 1) := by decide +kernel
theorem dL_isSound_21 : decode cL_isSound 21 = .ok (.invokevirtual 74, 3) := by decide +kernel
theorem dL_isSound_24 : decode cL_isSound 24 = .ok (.iadd, 1) := by decide +kernel
theorem dL_isSound_25 : decode cL_isSound 25 = .ok (.istore_n 1, 1) := by decide +kernel
theorem dL_isSound_26 : decode cL_isSound 26 = .ok (.iload_n 2, 1) := by decide +kernel
theorem dL_isSound_27 : decode cL_isSound 27 = .ok (.aload_n 0, 1) := by decide +kernel
theorem dL_isSound_28 : decode cL_isSound 28 = .ok (.iload 4, 2) := by decide +kernel
theorem dL_isSound_30 : decode cL_isSound 30 = .ok (.iconst 1, 1) := by decide +kernel
theorem dL_isSound_31 : decode cL_isSound 31 = .ok (.invokevirtual 74, 3) := by decide +kernel
theorem dL_isSound_34 : decode cL_isSound 34 = .ok (.iadd, 1) := by decide +kernel
theorem dL_isSound_35 : decode cL_isSound 35 = .ok (.istore_n 2, 1) := by decide +kernel
theorem dL_isSound_36 : decode cL_isSound 36 = .ok (.iload_n 3, 1) := by decide +kernel
theorem dL_isSound_37 : decode cL_isSound 37 = .ok (.ifCond .eq 85, 3) := by decide +kernel
theorem dL_isSound_40 : decode cL_isSound 40 = .ok (.aload_n 0, 1) := by decide +kernel
theorem dL_isSound_41 : decode cL_isSound 41 = .ok (.iload 4, 2) := by decide +kernel
theorem dL_isSound_43 : decode cL_isSound 43 = .ok (.invokevirtual 77, 3) := by decide +kernel
theorem dL_isSound_46 : decode cL_isSound 46 = .ok (.iconst 2, 1) := by decide +kernel
theorem dL_isSound_47 : decode cL_isSound 47 = .ok (.if_icmp .ne 7, 3) := by decide +kernel
theorem dL_isSound_50 : decode cL_isSound 50 = .ok (.iconst 1, 1) := by decide +kernel
theorem dL_isSound_51 : decode cL_isSound 51 = .ok (.goto 4, 3) := by decide +kernel
theorem dL_isSound_54 : decode cL_isSound 54 = .ok (.iconst 0, 1) := by decide +kernel
theorem dL_isSound_55 : decode cL_isSound 55 = .ok (.aload_n 0, 1) := by decide +kernel
theorem dL_isSound_56 : decode cL_isSound 56 = .ok (.iload 4, 2) := by decide +kernel
theorem dL_isSound_58 : decode cL_isSound 58 = .ok (.iconst 0, 1) := by decide +kernel
theorem dL_isSound_59 : decode cL_isSound 59 = .ok (.invokevirtual 74, 3) := by decide +kernel
theorem dL_isSound_62 : decode cL_isSound 62 = .ok (.ifCond .le 7, 3) := by decide +kernel
theorem dL_isSound_65 : decode cL_isSound 65 = .ok (.iconst 1, 1) := by decide +kernel
theorem dL_isSound_66 : decode cL_isSound 66 = .ok (.goto 4, 3) := by decide +kernel
theorem dL_isSound_69 : decode cL_isSound 69 = .ok (.iconst 0, 1) := by decide +kernel
theorem dL_isSound_70 : decode cL_isSound 70 = .ok (.if_icmp .ne 52, 3) := by decide +kernel
theorem dL_isSound_73 : decode cL_isSound 73 = .ok (.aload_n 0, 1) := by decide +kernel
theorem dL_isSound_74 : decode cL_isSound 74 = .ok (.iload 4, 2) := by decide +kernel
theorem dL_isSound_76 : decode cL_isSound 76 = .ok (.invokevirtual 77, 3) := by decide +kernel
theorem dL_isSound_79 : decode cL_isSound 79 = .ok (.iconst 2, 1) := by decide +kernel
theorem dL_isSound_80 : decode cL_isSound 80 = .ok (.if_icmp .lt 21, 3) := by decide +kernel
theorem dL_isSound_83 : decode cL_isSound 83 = .ok (.aload_n 0, 1) := by decide +kernel
theorem dL_isSound_84 : decode cL_isSound 84 = .ok (.iload 4, 2) := by decide +kernel
theorem dL_isSound_86 : decode cL_isSound 86 = .ok (.invokevirtual 83, 3) := by decide +kernel
theorem dL_isSound_89 : decode cL_isSound 89 = .ok (.ifCond .lt 33, 3) := by decide +kernel
theorem dL_isSound_92 : decode cL_isSound 92 = .ok (.aload_n 0, 1) := by decide +kernel
theorem dL_isSound_93 : decode cL_isSound 93 = .ok (.iload 4, 2) := by decide +kernel
theorem dL_isSound_95 : decode cL_isSound 95 = .ok (.invokevirtual 80, 3) := by decide +kernel
theorem dL_isSound_98 : decode cL_isSound 98 = .ok (.ifCond .le 24, 3) := by decide +kernel
theorem dL_isSound_101 : decode cL_isSound 101 = .ok (.aload_n 0, 1) := by decide +kernel
theorem dL_isSound_102 : decode cL_isSound 102 = .ok (.iload 4, 2) := by decide +kernel
theorem dL_isSound_104 : decode cL_isSound 104 = .ok (.invokevirtual 80, 3) := by decide +kernel
theorem dL_isSound_107 : decode cL_isSound 107 = .ok (.aload_n 0, 1) := by decide +kernel
theorem dL_isSound_108 : decode cL_isSound 108 = .ok (.bipush 7, 2) := by decide +kernel
theorem dL_isSound_110 : decode cL_isSound 110 = .ok (.invokevirtual 9, 3) := by decide +kernel
theorem dL_isSound_113 : decode cL_isSound 113 = .ok (.iconst 1, 1) := by decide +kernel
theorem dL_isSound_114 : decode cL_isSound 114 = .ok (.iadd, 1) := by decide +kernel
theorem dL_isSound_115 : decode cL_isSound 115 = .ok (.if_icmp .gt 7, 3) := by decide +kernel
theorem dL_isSound_118 : decode cL_isSound 118 = .ok (.iconst 1, 1) := by decide +kernel
theorem dL_isSound_119 : decode cL_isSound 119 = .ok (.goto 4, 3) := by decide +kernel
theorem dL_isSound_122 : decode cL_isSound 122 = .ok (.iconst 0, 1) := by decide +kernel
theorem dL_isSound_123 : decode cL_isSound 123 = .ok (.istore_n 3, 1) := by decide +kernel
theorem dL_isSound_124 : decode cL_isSound 124 = .ok (.iinc 4 1, 3) := by decide +kernel
theorem dL_isSound_127 : decode cL_isSound 127 = .ok (.goto (-118), 3) := by decide +kernel
theorem dL_isSound_130 : decode cL_isSound 130 = .ok (.iconst 1, 1) := by decide +kernel
theorem dL_isSound_131 : decode cL_isSound 131 = .ok (.istore 4, 2) := by decide +kernel
theorem dL_isSound_133 : decode cL_isSound 133 = .ok (.iload 4, 2) := by decide +kernel
theorem dL_isSound_135 : decode cL_isSound 135 = .ok (.aload_n 0, 1) := by decide +kernel
theorem dL_isSound_136 : decode cL_isSound 136 = .ok (.bipush 8, 2) := by decide +kernel
theorem dL_isSound_138 : decode cL_isSound 138 = .ok (.invokevirtual 9, 3) := by decide +kernel
theorem dL_isSound_141 : decode cL_isSound 141 = .ok (.if_icmp .ge 54, 3) := by decide +kernel
theorem dL_isSound_144 : decode cL_isSound 144 = .ok (.iload_n 3, 1) := by decide +kernel
theorem dL_isSound_145 : decode cL_isSound 145 = .ok (.ifCond .eq 42, 3) := by decide +kernel
theorem dL_isSound_148 : decode cL_isSound 148 = .ok (.aload_n 0, 1) := by decide +kernel
theorem dL_isSound_149 : decode cL_isSound 149 = .ok (.iload 4, 2) := by decide +kernel
theorem dL_isSound_151 : decode cL_isSound 151 = .ok (.iconst 0, 1) := by decide +kernel
theorem dL_isSound_152 : decode cL_isSound 152 = .ok (.invokevirtual 86, 3) := by decide +kernel
theorem dL_isSound_155 : decode cL_isSound 155 = .ok (.aload_n 0, 1) := by decide +kernel
theorem dL_isSound_156 : decode cL_isSound 156 = .ok (.iload 4, 2) := by decide +kernel
theorem dL_isSound_158 : decode cL_isSound 158 = .ok (.iconst 1, 1) := by decide +kernel
theorem dL_isSound_159 : decode cL_isSound 159 = .ok (.isub, 1) := by decide +kernel
theorem dL_isSound_160 : decode cL_isSound 160 = .ok (.iconst 0, 1) := by decide +kernel
theorem dL_isSound_161 : decode cL_isSound 161 = .ok (.invokevirtual 86, 3) := by decide +kernel
theorem dL_isSound_164 : decode cL_isSound 164 = .ok (.if_icmp .lt 23, 3) := by decide +kernel
theorem dL_isSound_167 : decode cL_isSound 167 = .ok (.aload_n 0, 1) := by decide +kernel
theorem dL_isSound_168 : decode cL_isSound 168 = .ok (.iload 4, 2) := by decide +kernel
theorem dL_isSound_170 : decode cL_isSound 170 = .ok (.iconst 0, 1) := by decide +kernel
theorem dL_isSound_171 : decode cL_isSound 171 = .ok (.invokevirtual 86, 3) := by decide +kernel
theorem dL_isSound_174 : decode cL_isSound 174 = .ok (.aload_n 0, 1) := by decide +kernel
theorem dL_isSound_175 : decode cL_isSound 175 = .ok (.bipush 7, 2) := by decide +kernel
theorem dL_isSound_177 : decode cL_isSound 177 = .ok (.invokevirtual 9, 3) := by decide +kernel
theorem dL_isSound_180 : decode cL_isSound 180 = .ok (.if_icmp .gt 7, 3) := by decide +kernel
theorem dL_isSound_183 : decode cL_isSound 183 = .ok (.iconst 1, 1) := by decide +kernel
theorem dL_isSound_184 : decode cL_isSound 184 = .ok (.goto 4, 3) := by decide +kernel
theorem dL_isSound_187 : decode cL_isSound 187 = .ok (.iconst 0, 1) := by decide +kernel
theorem dL_isSound_188 : decode cL_isSound 188 = .ok (.istore_n 3, 1) := by decide +kernel
theorem dL_isSound_189 : decode cL_isSound 189 = .ok (.iinc 4 1, 3) := by decide +kernel
theorem dL_isSound_192 : decode cL_isSound 192 = .ok (.goto (-59), 3) := by decide +kernel
theorem dL_isSound_195 : decode cL_isSound 195 = .ok (.iload_n 3, 1) := by decide +kernel
theorem dL_isSound_196 : decode cL_isSound 196 = .ok (.ifCond .eq 49, 3) := by decide +kernel
theorem dL_isSound_199 : decode cL_isSound 199 = .ok (.iload_n 1, 1) := by decide +kernel
theorem dL_isSound_200 : decode cL_isSound 200 = .ok (.ldc 89, 2) := by decide +kernel
theorem dL_isSound_202 : decode cL_isSound 202 = .ok (.if_icmp .ne 43, 3) := by decide +kernel
theorem dL_isSound_205 : decode cL_isSound 205 = .ok (.iload_n 2, 1) := by decide +kernel
theorem dL_isSound_206 : decode cL_isSound 206 = .ok (.ldc 89, 2) := by decide +kernel
theorem dL_isSound_208 : decode cL_isSound 208 = .ok (.if_icmp .ne 37, 3) := by decide +kernel
theorem dL_isSound_211 : decode cL_isSound 211 = .ok (.aload_n 0, 1) := by decide +kernel
theorem dL_isSound_212 : decode cL_isSound 212 = .ok (.invokevirtual 90, 3) := by decide +kernel
theorem dL_isSound_215 : decode cL_isSound 215 = .ok (.aload_n 0, 1) := by decide +kernel
theorem dL_isSound_216 : decode cL_isSound 216 = .ok (.bipush 8, 2) := by decide +kernel
theorem dL_isSound_218 : decode cL_isSound 218 = .ok (.invokevirtual 9, 3) := by decide +kernel
theorem dL_isSound_221 : decode cL_isSound 221 = .ok (.if_icmp .gt 24, 3) := by decide +kernel
theorem dL_isSound_224 : decode cL_isSound 224 = .ok (.aload_n 0, 1) := by decide +kernel
theorem dL_isSound_225 : decode cL_isSound 225 = .ok (.invokevirtual 68, 3) := by decide +kernel
theorem dL_isSound_228 : decode cL_isSound 228 = .ok (.iconst 1, 1) := by decide +kernel
theorem dL_isSound_229 : decode cL_isSound 229 = .ok (.if_icmp .lt 16, 3) := by decide +kernel
theorem dL_isSound_232 : decode cL_isSound 232 = .ok (.aload_n 0, 1) := by decide +kernel
theorem dL_isSound_233 : decode cL_isSound 233 = .ok (.invokevirtual 64, 3) := by decide +kernel
theorem dL_isSound_236 : decode cL_isSound 236 = .ok (.dconst 1, 1) := by decide +kernel
theorem dL_isSound_237 : decode cL_isSound 237 = .ok (.dcmp .g, 1) := by decide +kernel
theorem dL_isSound_238 : decode cL_isSound 238 = .ok (.ifCond .gt 7, 3) := by decide +kernel
theorem dL_isSound_241 : decode cL_isSound 241 = .ok (.iconst 1, 1) := by decide +kernel
theorem dL_isSound_242 : decode cL_isSound 242 = .ok (.goto 4, 3) := by decide +kernel
theorem dL_isSound_245 : decode cL_isSound 245 = .ok (.iconst 0, 1) := by decide +kernel
theorem dL_isSound_246 : decode cL_isSound 246 = .ok (.ireturn, 1) := by decide +kernel
theorem dL_law_0 : decode cL_law 0 = .ok (.new 10, 3) := by decide +kernel
theorem dL_law_3 : decode cL_law 3 = .ok (.dup, 1) := by decide +kernel
theorem dL_law_4 : decode cL_law 4 = .ok (.invokespecial 93, 3) := by decide +kernel
theorem dL_law_7 : decode cL_law 7 = .ok (.astore_n 1, 1) := by decide +kernel
theorem dL_law_8 : decode cL_law 8 = .ok (.new 10, 3) := by decide +kernel
theorem dL_law_11 : decode cL_law 11 = .ok (.dup, 1) := by decide +kernel
theorem dL_law_12 : decode cL_law 12 = .ok (.invokespecial 93, 3) := by decide +kernel
theorem dL_law_15 : decode cL_law 15 = .ok (.astore_n 2, 1) := by decide +kernel
theorem dL_law_16 : decode cL_law 16 = .ok (.aload_n 2, 1) := by decide +kernel
theorem dL_law_17 : decode cL_law 17 = .ok (.iconst 2, 1) := by decide +kernel
theorem dL_law_18 : decode cL_law 18 = .ok (.invokevirtual 21, 3) := by decide +kernel
theorem dL_law_21 : decode cL_law 21 = .ok (.iconst 1, 1) := by decide +kernel
theorem dL_law_22 : decode cL_law 22 = .ok (.if_icmp .ne 34, 3) := by decide +kernel
theorem dL_law_25 : decode cL_law 25 = .ok (.aload_n 2, 1) := by decide +kernel
theorem dL_law_26 : decode cL_law 26 = .ok (.iconst 3, 1) := by decide +kernel
theorem dL_law_27 : decode cL_law 27 = .ok (.invokevirtual 27, 3) := by decide +kernel
theorem dL_law_30 : decode cL_law 30 = .ok (.iconst 2, 1) := by decide +kernel
theorem dL_law_31 : decode cL_law 31 = .ok (.if_icmp .ne 25, 3) := by decide +kernel
theorem dL_law_34 : decode cL_law 34 = .ok (.aload_n 1, 1) := by decide +kernel
theorem dL_law_35 : decode cL_law 35 = .ok (.iconst 1, 1) := by decide +kernel
theorem dL_law_36 : decode cL_law 36 = .ok (.invokevirtual 21, 3) := by decide +kernel
theorem dL_law_39 : decode cL_law 39 = .ok (.iconst 1, 1) := by decide +kernel
theorem dL_law_40 : decode cL_law 40 = .ok (.if_icmp .ne 16, 3) := by decide +kernel
theorem dL_law_43 : decode cL_law 43 = .ok (.aload_n 1, 1) := by decide +kernel
theorem dL_law_44 : decode cL_law 44 = .ok (.iconst 2, 1) := by decide +kernel
theorem dL_law_45 : decode cL_law 45 = .ok (.invokevirtual 27, 3) := by decide +kernel
theorem dL_law_48 : decode cL_law 48 = .ok (.iconst 2, 1) := by decide +kernel
theorem dL_law_49 : decode cL_law 49 = .ok (.if_icmp .ne 7, 3) := by decide +kernel
theorem dL_law_52 : decode cL_law 52 = .ok (.iconst 1, 1) := by decide +kernel
theorem dL_law_53 : decode cL_law 53 = .ok (.goto 4, 3) := by decide +kernel
theorem dL_law_56 : decode cL_law 56 = .ok (.iconst 0, 1) := by decide +kernel
theorem dL_law_57 : decode cL_law 57 = .ok (.istore_n 3, 1) := by decide +kernel
theorem dL_law_58 : decode cL_law 58 = .ok (.iconst 0, 1) := by decide +kernel
theorem dL_law_59 : decode cL_law 59 = .ok (.istore 4, 2) := by decide +kernel
theorem dL_law_61 : decode cL_law 61 = .ok (.iload 4, 2) := by decide +kernel
theorem dL_law_63 : decode cL_law 63 = .ok (.iconst 3, 1) := by decide +kernel
theorem dL_law_64 : decode cL_law 64 = .ok (.if_icmp .ge 61, 3) := by decide +kernel
theorem dL_law_67 : decode cL_law 67 = .ok (.iload_n 3, 1) := by decide +kernel
theorem dL_law_68 : decode cL_law 68 = .ok (.ifCond .eq 49, 3) := by decide +kernel
theorem dL_law_71 : decode cL_law 71 = .ok (.aload_n 2, 1) := by decide +kernel
theorem dL_law_72 : decode cL_law 72 = .ok (.iload 4, 2) := by decide +kernel
theorem dL_law_74 : decode cL_law 74 = .ok (.iconst 4, 1) := by decide +kernel
theorem dL_law_75 : decode cL_law 75 = .ok (.iload 4, 2) := by decide +kernel
theorem dL_law_77 : decode cL_law 77 = .ok (.iadd, 1) := by decide +kernel
theorem dL_law_78 : decode cL_law 78 = .ok (.bipush 100, 2) := by decide +kernel
theorem dL_law_80 : decode cL_law 80 = .ok (.bipush 25, 2) := by decide +kernel
theorem dL_law_82 : decode cL_law 82 = .ok (.invokevirtual 40, 3) := by decide +kernel
theorem dL_law_85 : decode cL_law 85 = .ok (.iconst 3, 1) := by decide +kernel
theorem dL_law_86 : decode cL_law 86 = .ok (.iload 4, 2) := by decide +kernel
theorem dL_law_88 : decode cL_law 88 = .ok (.iadd, 1) := by decide +kernel
theorem dL_law_89 : decode cL_law 89 = .ok (.if_icmp .ne 28, 3) := by decide +kernel
theorem dL_law_92 : decode cL_law 92 = .ok (.aload_n 1, 1) := by decide +kernel
theorem dL_law_93 : decode cL_law 93 = .ok (.iload 4, 2) := by decide +kernel
theorem dL_law_95 : decode cL_law 95 = .ok (.iconst 3, 1) := by decide +kernel
theorem dL_law_96 : decode cL_law 96 = .ok (.iload 4, 2) := by decide +kernel
theorem dL_law_98 : decode cL_law 98 = .ok (.iadd, 1) := by decide +kernel
theorem dL_law_99 : decode cL_law 99 = .ok (.bipush 100, 2) := by decide +kernel
theorem dL_law_101 : decode cL_law 101 = .ok (.bipush 25, 2) := by decide +kernel
theorem dL_law_103 : decode cL_law 103 = .ok (.invokevirtual 40, 3) := by decide +kernel
theorem dL_law_106 : decode cL_law 106 = .ok (.iconst 3, 1) := by decide +kernel
theorem dL_law_107 : decode cL_law 107 = .ok (.iload 4, 2) := by decide +kernel
theorem dL_law_109 : decode cL_law 109 = .ok (.iadd, 1) := by decide +kernel
theorem dL_law_110 : decode cL_law 110 = .ok (.if_icmp .ne 7, 3) := by decide +kernel
theorem dL_law_113 : decode cL_law 113 = .ok (.iconst 1, 1) := by decide +kernel
theorem dL_law_114 : decode cL_law 114 = .ok (.goto 4, 3) := by decide +kernel
theorem dL_law_117 : decode cL_law 117 = .ok (.iconst 0, 1) := by decide +kernel
theorem dL_law_118 : decode cL_law 118 = .ok (.istore_n 3, 1) := by decide +kernel
theorem dL_law_119 : decode cL_law 119 = .ok (.iinc 4 1, 3) := by decide +kernel
theorem dL_law_122 : decode cL_law 122 = .ok (.goto (-61), 3) := by decide +kernel
theorem dL_law_125 : decode cL_law 125 = .ok (.iconst 0, 1) := by decide +kernel
theorem dL_law_126 : decode cL_law 126 = .ok (.istore 4, 2) := by decide +kernel
theorem dL_law_128 : decode cL_law 128 = .ok (.iload 4, 2) := by decide +kernel
theorem dL_law_130 : decode cL_law 130 = .ok (.bipush 40, 2) := by decide +kernel
theorem dL_law_132 : decode cL_law 132 = .ok (.if_icmp .ge 41, 3) := by decide +kernel
theorem dL_law_135 : decode cL_law 135 = .ok (.iload_n 3, 1) := by decide +kernel
theorem dL_law_136 : decode cL_law 136 = .ok (.ifCond .eq 37, 3) := by decide +kernel
theorem dL_law_139 : decode cL_law 139 = .ok (.aload_n 1, 1) := by decide +kernel
theorem dL_law_140 : decode cL_law 140 = .ok (.aload_n 2, 1) := by decide +kernel
theorem dL_law_141 : decode cL_law 141 = .ok (.aload_n 0, 1) := by decide +kernel
theorem dL_law_142 : decode cL_law 142 = .ok (.iload 4, 2) := by decide +kernel
theorem dL_law_144 : decode cL_law 144 = .ok (.invokestatic 94, 3) := by decide +kernel
theorem dL_law_147 : decode cL_law 147 = .ok (.invokestatic 98, 3) := by decide +kernel
theorem dL_law_150 : decode cL_law 150 = .ok (.ifCond .eq 15, 3) := by decide +kernel
theorem dL_law_153 : decode cL_law 153 = .ok (.aload_n 1, 1) := by decide +kernel
theorem dL_law_154 : decode cL_law 154 = .ok (.aload_n 2, 1) := by decide +kernel
theorem dL_law_155 : decode cL_law 155 = .ok (.invokestatic 102, 3) := by decide +kernel
theorem dL_law_158 : decode cL_law 158 = .ok (.ifCond .eq 7, 3) := by decide +kernel
theorem dL_law_161 : decode cL_law 161 = .ok (.iconst 1, 1) := by decide +kernel
theorem dL_law_162 : decode cL_law 162 = .ok (.goto 4, 3) := by decide +kernel
theorem dL_law_165 : decode cL_law 165 = .ok (.iconst 0, 1) := by decide +kernel
theorem dL_law_166 : decode cL_law 166 = .ok (.istore_n 3, 1) := by decide +kernel
theorem dL_law_167 : decode cL_law 167 = .ok (.iinc 4 1, 3) := by decide +kernel
theorem dL_law_170 : decode cL_law 170 = .ok (.goto (-42), 3) := by decide +kernel
theorem dL_law_173 : decode cL_law 173 = .ok (.iload_n 3, 1) := by decide +kernel
theorem dL_law_174 : decode cL_law 174 = .ok (.ifCond .eq 27, 3) := by decide +kernel
theorem dL_law_177 : decode cL_law 177 = .ok (.aload_n 1, 1) := by decide +kernel
theorem dL_law_178 : decode cL_law 178 = .ok (.invokestatic 106, 3) := by decide +kernel
theorem dL_law_181 : decode cL_law 181 = .ok (.ifCond .eq 20, 3) := by decide +kernel
theorem dL_law_184 : decode cL_law 184 = .ok (.aload_n 2, 1) := by decide +kernel
theorem dL_law_185 : decode cL_law 185 = .ok (.invokevirtual 90, 3) := by decide +kernel
theorem dL_law_188 : decode cL_law 188 = .ok (.aload_n 2, 1) := by decide +kernel
theorem dL_law_189 : decode cL_law 189 = .ok (.bipush 8, 2) := by decide +kernel
theorem dL_law_191 : decode cL_law 191 = .ok (.invokevirtual 9, 3) := by decide +kernel
theorem dL_law_194 : decode cL_law 194 = .ok (.if_icmp .gt 7, 3) := by decide +kernel
theorem dL_law_197 : decode cL_law 197 = .ok (.iconst 1, 1) := by decide +kernel
theorem dL_law_198 : decode cL_law 198 = .ok (.goto 4, 3) := by decide +kernel
theorem dL_law_201 : decode cL_law 201 = .ok (.iconst 0, 1) := by decide +kernel
theorem dL_law_202 : decode cL_law 202 = .ok (.istore_n 3, 1) := by decide +kernel
theorem dL_law_203 : decode cL_law 203 = .ok (.aload_n 1, 1) := by decide +kernel
theorem dL_law_204 : decode cL_law 204 = .ok (.invokevirtual 109, 3) := by decide +kernel
theorem dL_law_207 : decode cL_law 207 = .ok (.lstore 4, 2) := by decide +kernel
theorem dL_law_209 : decode cL_law 209 = .ok (.aload_n 1, 1) := by decide +kernel
theorem dL_law_210 : decode cL_law 210 = .ok (.bipush 8, 2) := by decide +kernel
theorem dL_law_212 : decode cL_law 212 = .ok (.invokevirtual 9, 3) := by decide +kernel
theorem dL_law_215 : decode cL_law 215 = .ok (.istore 6, 2) := by decide +kernel
theorem dL_law_217 : decode cL_law 217 = .ok (.iload_n 3, 1) := by decide +kernel
theorem dL_law_218 : decode cL_law 218 = .ok (.ifCond .eq 71, 3) := by decide +kernel
theorem dL_law_221 : decode cL_law 221 = .ok (.aload_n 1, 1) := by decide +kernel
theorem dL_law_222 : decode cL_law 222 = .ok (.aload_n 0, 1) := by decide +kernel
theorem dL_law_223 : decode cL_law 223 = .ok (.bipush 41, 2) := by decide +kernel
theorem dL_law_225 : decode cL_law 225 = .ok (.invokestatic 94, 3) := by decide +kernel
theorem dL_law_228 : decode cL_law 228 = .ok (.iconst 3, 1) := by decide +kernel
theorem dL_law_229 : decode cL_law 229 = .ok (.invokestatic 15, 3) := by decide +kernel
theorem dL_law_232 : decode cL_law 232 = .ok (.invokevirtual 44, 3) := by decide +kernel
theorem dL_law_235 : decode cL_law 235 = .ok (.ifCond .lt 54, 3) := by decide +kernel
theorem dL_law_238 : decode cL_law 238 = .ok (.aload_n 1, 1) := by decide +kernel
theorem dL_law_239 : decode cL_law 239 = .ok (.invokevirtual 113, 3) := by decide +kernel
theorem dL_law_242 : decode cL_law 242 = .ok (.iload 6, 2) := by decide +kernel
theorem dL_law_244 : decode cL_law 244 = .ok (.if_icmp .ne 45, 3) := by decide +kernel
theorem dL_law_247 : decode cL_law 247 = .ok (.aload_n 1, 1) := by decide +kernel
theorem dL_law_248 : decode cL_law 248 = .ok (.invokevirtual 109, 3) := by decide +kernel
theorem dL_law_251 : decode cL_law 251 = .ok (.lload 4, 2) := by decide +kernel
theorem dL_law_253 : decode cL_law 253 = .ok (.lcmp, 1) := by decide +kernel
theorem dL_law_254 : decode cL_law 254 = .ok (.ifCond .ne 35, 3) := by decide +kernel
theorem dL_law_257 : decode cL_law 257 = .ok (.aload_n 1, 1) := by decide +kernel
theorem dL_law_258 : decode cL_law 258 = .ok (.invokevirtual 47, 3) := by decide +kernel
theorem dL_law_261 : decode cL_law 261 = .ok (.ifCond .lt 28, 3) := by decide +kernel
theorem dL_law_264 : decode cL_law 264 = .ok (.aload_n 1, 1) := by decide +kernel
theorem dL_law_265 : decode cL_law 265 = .ok (.iload 6, 2) := by decide +kernel
theorem dL_law_267 : decode cL_law 267 = .ok (.invokevirtual 116, 3) := by decide +kernel
theorem dL_law_270 : decode cL_law 270 = .ok (.iload 6, 2) := by decide +kernel
theorem dL_law_272 : decode cL_law 272 = .ok (.if_icmp .ne 17, 3) := by decide +kernel
theorem dL_law_275 : decode cL_law 275 = .ok (.aload_n 1, 1) := by decide +kernel
theorem dL_law_276 : decode cL_law 276 = .ok (.invokevirtual 109, 3) := by decide +kernel
theorem dL_law_279 : decode cL_law 279 = .ok (.lload 4, 2) := by decide +kernel
theorem dL_law_281 : decode cL_law 281 = .ok (.lcmp, 1) := by decide +kernel
theorem dL_law_282 : decode cL_law 282 = .ok (.ifCond .ne 7, 3) := by decide +kernel
theorem dL_law_285 : decode cL_law 285 = .ok (.iconst 1, 1) := by decide +kernel
theorem dL_law_286 : decode cL_law 286 = .ok (.goto 4, 3) := by decide +kernel
theorem dL_law_289 : decode cL_law 289 = .ok (.iconst 0, 1) := by decide +kernel
theorem dL_law_290 : decode cL_law 290 = .ok (.istore_n 3, 1) := by decide +kernel
theorem dL_law_291 : decode cL_law 291 = .ok (.iload_n 3, 1) := by decide +kernel
theorem dL_law_292 : decode cL_law 292 = .ok (.ifCond .eq 14, 3) := by decide +kernel
theorem dL_law_295 : decode cL_law 295 = .ok (.aload_n 1, 1) := by decide +kernel
theorem dL_law_296 : decode cL_law 296 = .ok (.invokestatic 106, 3) := by decide +kernel
theorem dL_law_299 : decode cL_law 299 = .ok (.ifCond .eq 7, 3) := by decide +kernel
theorem dL_law_302 : decode cL_law 302 = .ok (.iconst 1, 1) := by decide +kernel
theorem dL_law_303 : decode cL_law 303 = .ok (.goto 4, 3) := by decide +kernel
theorem dL_law_306 : decode cL_law 306 = .ok (.iconst 0, 1) := by decide +kernel
theorem dL_law_307 : decode cL_law 307 = .ok (.ireturn, 1) := by decide +kernel
