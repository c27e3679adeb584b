theorem dL_isStep_15 : decode cL_isStep 15 = .ok (.iconst 3, 1) := by decide +kernel
theorem dL_isStep_16 : decode cL_isStep 16 = .ok (.iand, 1) := by decide +kernel
theorem dL_isStep_17 : decode cL_isStep 17 = .ok (.istore 5, 2) := by decide +kernel
theorem dL_isStep_19 : decode cL_isStep 19 = .ok (.iload_n 2, 1) := by decide +kernel
theorem dL_isStep_20 : decode cL_isStep 20 = .ok (.bipush 14, 2) := by decide +kernel
theorem dL_isStep_22 : decode cL_isStep 22 = .ok (.invokestatic 15, 3) := by decide +kernel
theorem dL_isStep_25 : decode cL_isStep 25 = .ok (.tableswitch 225 0 4 #[35, 35, 136, 187, 208], 35) := by decide +kernel
theorem dL_isStep_60 : decode cL_isStep 60 = .ok (.iload_n 3, 1) := by decide +kernel
theorem dL_isStep_61 : decode cL_isStep 61 = .ok (.iconst 5, 1) := by decide +kernel
theorem dL_isStep_62 : decode cL_isStep 62 = .ok (.ishr, 1) := by decide +kernel
theorem dL_isStep_63 : decode cL_isStep 63 = .ok (.iconst 2, 1) := by decide +kernel
theorem dL_isStep_64 : decode cL_isStep 64 = .ok (.invokestatic 15, 3) := by decide +kernel
theorem dL_isStep_67 : decode cL_isStep 67 = .ok (.ifCond .ne 25, 3) := by decide +kernel
theorem dL_isStep_70 : decode cL_isStep 70 = .ok (.aload_n 0, 1) := by decide +kernel
theorem dL_isStep_71 : decode cL_isStep 71 = .ok (.iload 5, 2) := by decide +kernel
theorem dL_isStep_73 : decode cL_isStep 73 = .ok (.iconst 0, 1) := by decide +kernel
theorem dL_isStep_74 : decode cL_isStep 74 = .ok (.invokevirtual 25, 3) := by decide +kernel
theorem dL_isStep_77 : decode cL_isStep 77 = .ok (.iload_n 3, 1) := by decide +kernel
theorem dL_isStep_78 : decode cL_isStep 78 = .ok (.bipush 7, 2) := by decide +kernel
theorem dL_isStep_80 : decode cL_isStep 80 = .ok (.ishr, 1) := by decide +kernel
theorem dL_isStep_81 : decode cL_isStep 81 = .ok (.bipush 12, 2) := by decide +kernel
theorem dL_isStep_83 : decode cL_isStep 83 = .ok (.invokestatic 15, 3) := by decide +kernel
theorem dL_isStep_86 : decode cL_isStep 86 = .ok (.iadd, 1) := by decide +kernel
theorem dL_isStep_87 : decode cL_isStep 87 = .ok (.iconst 2, 1) := by decide +kernel
theorem dL_isStep_88 : decode cL_isStep 88 = .ok (.isub, 1) := by decide +kernel
theorem dL_isStep_89 : decode cL_isStep 89 = .ok (.goto 17, 3) := by decide +kernel
theorem dL_isStep_92 : decode cL_isStep 92 = .ok (.sipush 900, 3) := by decide +kernel
theorem dL_isStep_95 : decode cL_isStep 95 = .ok (.iload_n 3, 1) := by decide +kernel
theorem dL_isStep_96 : decode cL_isStep 96 = .ok (.bipush 7, 2) := by decide +kernel
theorem dL_isStep_98 : decode cL_isStep 98 = .ok (.ishr, 1) := by decide +kernel
theorem dL_isStep_99 : decode cL_isStep 99 = .ok (.sipush 3201, 3) := by decide +kernel
theorem dL_isStep_102 : decode cL_isStep 102 = .ok (.invokestatic 15, 3) := by decide +kernel
theorem dL_isStep_105 : decode cL_isStep 105 = .ok (.iadd, 1) := by decide +kernel
theorem dL_isStep_106 : decode cL_isStep 106 = .ok (.istore 6, 2) := by decide +kernel
theorem dL_isStep_108 : decode cL_isStep 108 = .ok (.iload 6, 2) := by decide +kernel
theorem dL_isStep_110 : decode cL_isStep 110 = .ok (.sipush 4100, 3) := by decide +kernel
theorem dL_isStep_113 : decode cL_isStep 113 = .ok (.if_icmp .le 9, 3) := by decide +kernel
theorem dL_isStep_116 : decode cL_isStep 116 = .ok (.sipush 4100, 3) := by decide +kernel
theorem dL_isStep_119 : decode cL_isStep 119 = .ok (.goto 5, 3) := by decide +kernel
theorem dL_isStep_122 : decode cL_isStep 122 = .ok (.iload 6, 2) := by decide +kernel
theorem dL_isStep_124 : decode cL_isStep 124 = .ok (.istore 6, 2) := by decide +kernel
theorem dL_isStep_126 : decode cL_isStep 126 = .ok (.aload_n 0, 1) := by decide +kernel
theorem dL_isStep_127 : decode cL_isStep 127 = .ok (.iload 4, 2) := by decide +kernel
theorem dL_isStep_129 : decode cL_isStep 129 = .ok (.iconst 3, 1) := by decide +kernel
theorem dL_isStep_130 : decode cL_isStep 130 = .ok (.invokevirtual 28, 3) := by decide +kernel
theorem dL_isStep_133 : decode cL_isStep 133 = .ok (.ifCond .ge 22, 3) := by decide +kernel
theorem dL_isStep_136 : decode cL_isStep 136 = .ok (.aload_n 0, 1) := by decide +kernel
theorem dL_isStep_137 : decode cL_isStep 137 = .ok (.iload 4, 2) := by decide +kernel
theorem dL_isStep_139 : decode cL_isStep 139 = .ok (.iload 6, 2) := by decide +kernel
theorem dL_isStep_141 : decode cL_isStep 141 = .ok (.invokevirtual 31, 3) := by decide +kernel
theorem dL_isStep_144 : decode cL_isStep 144 = .ok (.aload_n 1, 1) := by decide +kernel
theorem dL_isStep_145 : decode cL_isStep 145 = .ok (.iload 4, 2) := by decide +kernel
theorem dL_isStep_147 : decode cL_isStep 147 = .ok (.iload 6, 2) := by decide +kernel
theorem dL_isStep_149 : decode cL_isStep 149 = .ok (.invokevirtual 31, 3) := by decide +kernel
theorem dL_isStep_152 : decode cL_isStep 152 = .ok (.if_icmp .ne 7, 3) := by decide +kernel
theorem dL_isStep_155 : decode cL_isStep 155 = .ok (.iconst 1, 1) := by decide +kernel
theorem dL_isStep_156 : decode cL_isStep 156 = .ok (.goto 4, 3) := by decide +kernel
theorem dL_isStep_159 : decode cL_isStep 159 = .ok (.iconst 0, 1) := by decide +kernel
theorem dL_isStep_160 : decode cL_isStep 160 = .ok (.ireturn, 1) := by decide +kernel
theorem dL_isStep_161 : decode cL_isStep 161 = .ok (.aload_n 0, 1) := by decide +kernel
theorem dL_isStep_162 : decode cL_isStep 162 = .ok (.iload 4, 2) := by decide +kernel
theorem dL_isStep_164 : decode cL_isStep 164 = .ok (.iconst 3, 1) := by decide +kernel
theorem dL_isStep_165 : decode cL_isStep 165 = .ok (.invokevirtual 28, 3) := by decide +kernel
theorem dL_isStep_168 : decode cL_isStep 168 = .ok (.ifCond .ge 21, 3) := by decide +kernel
theorem dL_isStep_171 : decode cL_isStep 171 = .ok (.aload_n 1, 1) := by decide +kernel
theorem dL_isStep_172 : decode cL_isStep 172 = .ok (.iload 4, 2) := by decide +kernel
theorem dL_isStep_174 : decode cL_isStep 174 = .ok (.iconst 3, 1) := by decide +kernel
theorem dL_isStep_175 : decode cL_isStep 175 = .ok (.invokevirtual 28, 3) := by decide +kernel
theorem dL_isStep_178 : decode cL_isStep 178 = .ok (.ifCond .ge 7, 3) := by decide +kernel
theorem dL_isStep_181 : decode cL_isStep 181 = .ok (.iconst 1, 1) := by decide +kernel
theorem dL_isStep_182 : decode cL_isStep 182 = .ok (.goto 29, 3) := by decide +kernel
theorem dL_isStep_185 : decode cL_isStep 185 = .ok (.iconst 0, 1) := by decide +kernel
theorem dL_isStep_186 : decode cL_isStep 186 = .ok (.goto 25, 3) := by decide +kernel
theorem dL_isStep_189 : decode cL_isStep 189 = .ok (.aload_n 0, 1) := by decide +kernel
theorem dL_isStep_190 : decode cL_isStep 190 = .ok (.iload 4, 2) := by decide +kernel
theorem dL_isStep_192 : decode cL_isStep 192 = .ok (.invokevirtual 34, 3) := by decide +kernel
theorem dL_isStep_195 : decode cL_isStep 195 = .ok (.iconst 3, 1) := by decide +kernel
theorem dL_isStep_196 : decode cL_isStep 196 = .ok (.aload_n 1, 1) := by decide +kernel
theorem dL_isStep_197 : decode cL_isStep 197 = .ok (.iload 4, 2) := by decide +kernel
theorem dL_isStep_199 : decode cL_isStep 199 = .ok (.invokevirtual 34, 3) := by decide +kernel
theorem dL_isStep_202 : decode cL_isStep 202 = .ok (.isub, 1) := by decide +kernel
theorem dL_isStep_203 : decode cL_isStep 203 = .ok (.if_icmp .ne 7, 3) := by decide +kernel
theorem dL_isStep_206 : decode cL_isStep 206 = .ok (.iconst 1, 1) := by decide +kernel
theorem dL_isStep_207 : decode cL_isStep 207 = .ok (.goto 4, 3) := by decide +kernel
theorem dL_isStep_210 : decode cL_isStep 210 = .ok (.iconst 0, 1) := by decide +kernel
theorem dL_isStep_211 : decode cL_isStep 211 = .ok (.ireturn, 1) := by decide +kernel
theorem dL_isStep_212 : decode cL_isStep 212 = .ok (.aload_n 0, 1) := by decide +kernel
theorem dL_isStep_213 : decode cL_isStep 213 = .ok (.iload 4, 2) := by decide +kernel
theorem dL_isStep_215 : decode cL_isStep 215 = .ok (.invokevirtual 38, 3) := by decide +kernel
theorem dL_isStep_218 : decode cL_isStep 218 = .ok (.aload_n 1, 1) := by decide +kernel
theorem dL_isStep_219 : decode cL_isStep 219 = .ok (.iload 4, 2) := by decide +kernel
theorem dL_isStep_221 : decode cL_isStep 221 = .ok (.invokevirtual 38, 3) := by decide +kernel
theorem dL_isStep_224 : decode cL_isStep 224 = .ok (.if_icmp .ne 7, 3) := by decide +kernel
theorem dL_isStep_227 : decode cL_isStep 227 = .ok (.iconst 1, 1) := by decide +kernel
theorem dL_isStep_228 : decode cL_isStep 228 = .ok (.goto 4, 3) := by decide +kernel
theorem dL_isStep_231 : decode cL_isStep 231 = .ok (.iconst 0, 1) := by decide +kernel
theorem dL_isStep_232 : decode cL_isStep 232 = .ok (.ireturn, 1) := by decide +kernel
theorem dL_isStep_233 : decode cL_isStep 233 = .ok (.aload_n 0, 1) := by decide +kernel
theorem dL_isStep_234 : decode cL_isStep 234 = .ok (.invokevirtual 41, 3) := by decide +kernel
theorem dL_isStep_237 : decode cL_isStep 237 = .ok (.aload_n 1, 1) := by decide +kernel
theorem dL_isStep_238 : decode cL_isStep 238 = .ok (.invokevirtual 41, 3) := by decide +kernel
theorem dL_isStep_241 : decode cL_isStep 241 = .ok (.if_icmp .ne 7, 3) := by decide +kernel
theorem dL_isStep_244 : decode cL_isStep 244 = .ok (.iconst 1, 1) := by decide +kernel
theorem dL_isStep_245 : decode cL_isStep 245 = .ok (.goto 4, 3) := by decide +kernel
theorem dL_isStep_248 : decode cL_isStep 248 = .ok (.iconst 0, 1) := by decide +kernel
theorem dL_isStep_249 : decode cL_isStep 249 = .ok (.ireturn, 1) := by decide +kernel
theorem dL_isStep_250 : decode cL_isStep 250 = .ok (.iload_n 3, 1) := by decide +kernel
theorem dL_isStep_251 : decode cL_isStep 251 = .ok (.bipush 6, 2) := by decide +kernel
theorem dL_isStep_253 : decode cL_isStep 253 = .ok (.ishr, 1) := by decide +kernel
theorem dL_isStep_254 : decode cL_isStep 254 = .ok (.iload_n 3, 1) := by decide +kernel
theorem dL_isStep_255 : decode cL_isStep 255 = .ok (.iconst 3, 1) := by decide +kernel
theorem dL_isStep_256 : decode cL_isStep 256 = .ok (.invokestatic 15, 3) := by decide +kernel
theorem dL_isStep_259 : decode cL_isStep 259 = .ok (.ifCond .ne 9, 3) := by decide +kernel
theorem dL_isStep_262 : decode cL_isStep 262 = .ok (.sipush 1000, 3) := by decide +kernel
theorem dL_isStep_265 : decode cL_isStep 265 = .ok (.goto 5, 3) := by decide +kernel
theorem dL_isStep_268 : decode cL_isStep 268 = .ok (.bipush 40, 2) := by decide +kernel
theorem dL_isStep_270 : decode cL_isStep 270 = .ok (.invokestatic 15, 3) := by decide +kernel
theorem dL_isStep_273 : decode cL_isStep 273 = .ok (.istore 6, 2) := by decide +kernel
theorem dL_isStep_275 : decode cL_isStep 275 = .ok (.iconst 1, 1) := by decide +kernel
theorem dL_isStep_276 : decode cL_isStep 276 = .ok (.iload_n 3, 1) := by decide +kernel
theorem dL_isStep_277 : decode cL_isStep 277 = .ok (.bipush 16, 2) := by decide +kernel
theorem dL_isStep_279 : decode cL_isStep 279 = .ok (.ishr, 1) := by decide +kernel
theorem dL_isStep_280 : decode cL_isStep 280 = .ok (.bipush 6, 2) := by decide +kernel
theorem dL_isStep_282 : decode cL_isStep 282 = .ok (.invokestatic 15, 3) := by decide +kernel
theorem dL_isStep_285 : decode cL_isStep 285 = .ok (.iadd, 1) := by decide +kernel
theorem dL_isStep_286 : decode cL_isStep 286 = .ok (.istore 7, 2) := by decide +kernel
theorem dL_isStep_288 : decode cL_isStep 288 = .ok (.aload_n 0, 1) := by decide +kernel
theorem dL_isStep_289 : decode cL_isStep 289 = .ok (.iload 5, 2) := by decide +kernel
theorem dL_isStep_291 : decode cL_isStep 291 = .ok (.iload 6, 2) := by decide +kernel
theorem dL_isStep_293 : decode cL_isStep 293 = .ok (.invokevirtual 45, 3) := by decide +kernel
theorem dL_isStep_296 : decode cL_isStep 296 = .ok (.aload_n 1, 1) := by decide +kernel
theorem dL_isStep_297 : decode cL_isStep 297 = .ok (.iconst 3, 1) := by decide +kernel
theorem dL_isStep_298 : decode cL_isStep 298 = .ok (.iload 5, 2) := by decide +kernel
theorem dL_isStep_300 : decode cL_isStep 300 = .ok (.isub, 1) := by decide +kernel
theorem dL_isStep_301 : decode cL_isStep 301 = .ok (.iload 6, 2) := by decide +kernel
theorem dL_isStep_303 : decode cL_isStep 303 = .ok (.invokevirtual 45, 3) := by decide +kernel
theorem dL_isStep_306 : decode cL_isStep 306 = .ok (.if_icmp .ne 7, 3) := by decide +kernel
theorem dL_isStep_309 : decode cL_isStep 309 = .ok (.iconst 1, 1) := by decide +kernel
theorem dL_isStep_310 : decode cL_isStep 310 = .ok (.goto 4, 3) := by decide +kernel
theorem dL_isStep_313 : decode cL_isStep 313 = .ok (.iconst 0, 1) := by decide +kernel
theorem dL_isStep_314 : decode cL_isStep 314 = .ok (.istore 8, 2) := by decide +kernel
theorem dL_isStep_316 : decode cL_isStep 316 = .ok (.iconst 0, 1) := by decide +kernel
theorem dL_isStep_317 : decode cL_isStep 317 = .ok (.istore 9, 2) := by decide +kernel
theorem dL_isStep_319 : decode cL_isStep 319 = .ok (.iload 9, 2) := by decide +kernel
theorem dL_isStep_321 : decode cL_isStep 321 = .ok (.iload 7, 2) := by decide +kernel
theorem dL_isStep_323 : decode cL_isStep 323 = .ok (.if_icmp .ge 42, 3) := by decide +kernel
theorem dL_isStep_326 : decode cL_isStep 326 = .ok (.iload 8, 2) := by decide +kernel
theorem dL_isStep_328 : decode cL_isStep 328 = .ok (.ifCond .eq 28, 3) := by decide +kernel
theorem dL_isStep_331 : decode cL_isStep 331 = .ok (.aload_n 0, 1) := by decide +kernel
theorem dL_isStep_332 : decode cL_isStep 332 = .ok (.iload 5, 2) := by decide +kernel
theorem dL_isStep_334 : decode cL_isStep 334 = .ok (.iload 6, 2) := by decide +kernel
theorem dL_isStep_336 : decode cL_isStep 336 = .ok (.invokevirtual 48, 3) := by decide +kernel
theorem dL_isStep_339 : decode cL_isStep 339 = .ok (.aload_n 1, 1) := by decide +kernel
theorem dL_isStep_340 : decode cL_isStep 340 = .ok (.iconst 3, 1) := by decide +kernel
theorem dL_isStep_341 : decode cL_isStep 341 = .ok (.iload 5, 2) := by decide +kernel
theorem dL_isStep_343 : decode cL_isStep 343 = .ok (.isub, 1) := by decide +kernel
theorem dL_isStep_344 : decode cL_isStep 344 = .ok (.iload 6, 2) := by decide +kernel
theorem dL_isStep_346 : decode cL_isStep 346 = .ok (.invokevirtual 48, 3) := by decide +kernel
theorem dL_isStep_349 : decode cL_isStep 349 = .ok (.if_icmp .ne 7, 3) := by decide +kernel
theorem dL_isStep_352 : decode cL_isStep 352 = .ok (.iconst 1, 1) := by decide +kernel
theorem dL_isStep_353 : decode cL_isStep 353 = .ok (.goto 4, 3) := by decide +kernel
theorem dL_isStep_356 : decode cL_isStep 356 = .ok (.iconst 0, 1) := by decide +kernel
theorem dL_isStep_357 : decode cL_isStep 357 = .ok (.istore 8, 2) := by decide +kernel
theorem dL_isStep_359 : decode cL_isStep 359 = .ok (.iinc 9 1, 3) := by decide +kernel
theorem dL_isStep_362 : decode cL_isStep 362 = .ok (.goto (-43), 3) := by decide +kernel
theorem dL_isStep_365 : decode cL_isStep 365 = .ok (.iload 8, 2) := by decide +kernel
theorem dL_isStep_367 : decode cL_isStep 367 = .ok (.ireturn, 1) := by decide +kernel
set_option maxRecDepth 20000 in
theorem ggL_areAlike_X3_right : GoodIn wsL_areAlike wsX3_right := goodIn_r _ [5, 6, 7, 8, 9, 10, 11, 12, 13, 14, 15, 16, 17, 18, 19, 20, 21, 22, 23, 24, 25, 26, 27, 28, 29, 184, 185, 186, 187, 188, 189, 190, 191, 192, 193, 194, 195, 196, 197, 198, 199] (by decide +kernel) (by decide +kernel)
set_option maxRecDepth 20000 in
theorem gL_areAlike_X3_right : GoodIn wsL_areAlike (wsV RL 51 RX3 yX3_right wsX3_right) := goodIn_app (goodIn_of _ (by decide +kernel)) ggL_areAlike_X3_right
set_option maxRecDepth 20000 in
theorem ggL_areAlike_X3_value : GoodIn wsL_areAlike wsX3_value := goodIn_ca (goodIn_r _ [33, 6, 34, 35, 4, 36, 37, 38, 39, 40, 41, 10, 42, 24, 43, 44, 45, 13, 14, 15, 46, 8, 9, 11, 12, 47, 48, 49, 50, 51, 52, 53, 54, 55, 56, 17, 18, 19, 20, 21, 22, 23, 25, 26, 27, 28, 29, 57, 58, 59, 60, 61, 62, 63, 64, 65, 66, 67, 68, 69, 70, 71, 72, 73, 74, 75, 76, 77, 78, 79, 80, 81, 82, 83, 84, 85, 86, 87, 88, 89, 184, 185, 186, 187, 188, 189, 190, 191, 192, 193, 194, 195, 196, 197, 198, 199] (by decide +kernel) (by decide +kernel)) (goodIn_sub (fun _ h => List.mem_cons_of_mem _ (List.mem_append_left _ (List.mem_append_right _ h))) (by decide +kernel))
set_option maxRecDepth 20000 in
theorem gL_areAlike_X3_value : GoodIn wsL_areAlike (wsV RL 55 RX3 yX3_value wsX3_value) := goodIn_app (goodIn_of _ (by decide +kernel)) ggL_areAlike_X3_value
set_option maxRecDepth 20000 in
theorem ggL_areAlike_X3_rail : GoodIn wsL_areAlike wsX3_rail := goodIn_ca (goodIn_ca (goodIn_r _ [93, 6, 94, 95, 4, 96, 97, 98, 99, 100, 101, 34, 35, 36, 37, 38, 102, 103, 104, 10, 105, 106, 107, 55, 108, 109, 70, 71, 72, 73, 12, 61, 62, 63, 64, 65, 66, 67, 68, 69, 24, 25, 78, 79, 80, 81, 26, 27, 28, 29, 20, 21, 22, 23, 184, 185, 186, 187, 188, 189, 190, 191, 192, 193, 194, 195, 196, 197, 198, 199] (by decide +kernel) (by decide +kernel)) (goodIn_sub (fun _ h => List.mem_cons_of_mem _ (List.mem_append_right _ h)) (by decide +kernel))) (goodIn_sub (fun _ h => List.mem_cons_of_mem _ (List.mem_append_left _ (List.mem_append_right _ h))) (by decide +kernel))
set_option maxRecDepth 20000 in
theorem gL_areAlike_X3_rail : GoodIn wsL_areAlike (wsV RL 28 RX3 yX3_rail wsX3_rail) := goodIn_app (goodIn_of _ (by decide +kernel)) ggL_areAlike_X3_rail
set_option maxRecDepth 20000 in
theorem ggL_areAlike_X3_bestGap : GoodIn wsL_areAlike wsX3_bestGap := goodIn_ca (goodIn_r _ [113, 6, 94, 95, 4, 96, 97, 98, 99, 100, 101, 114, 115, 116, 10, 117, 24, 25, 118, 119, 120, 121, 122, 123, 124, 125, 184, 185, 186, 187, 188, 189, 190, 191, 192, 193, 194, 195, 196, 197, 198, 199] (by decide +kernel) (by decide +kernel)) (goodIn_sub (fun _ h => List.mem_cons_of_mem _ (List.mem_append_right _ h)) (by decide +kernel))
set_option maxRecDepth 20000 in
theorem gL_areAlike_X3_bestGap : GoodIn wsL_areAlike (wsV RL 58 RX3 yX3_bestGap wsX3_bestGap) := goodIn_app (goodIn_of _ (by decide +kernel)) ggL_areAlike_X3_bestGap
set_option maxRecDepth 20000 in
theorem ggL_areAlike_X3_kind : GoodIn wsL_areAlike wsX3_kind := goodIn_ca (goodIn_ca (goodIn_r _ [129, 6, 130, 131, 132, 4, 133, 97, 98, 134, 34, 35, 36, 37, 38, 135, 136, 137, 10, 138, 118, 65, 25, 44, 43, 139, 140, 141, 142, 26, 27, 28, 29, 12, 143, 144, 145, 146, 55, 184, 185, 186, 187, 188, 189, 190, 191, 192, 193, 194, 195, 196, 197, 198, 199] (by decide +kernel) (by decide +kernel)) (goodIn_sub (fun _ h => List.mem_cons_of_mem _ (List.mem_append_right _ h)) (by decide +kernel))) (goodIn_sub (fun _ h => List.mem_cons_of_mem _ (List.mem_append_left _ (List.mem_append_right _ h))) (by decide +kernel))
set_option maxRecDepth 20000 in
theorem gL_areAlike_X3_kind : GoodIn wsL_areAlike (wsV RL 25 RX3 yX3_kind wsX3_kind) := goodIn_app (goodIn_of _ (by decide +kernel)) ggL_areAlike_X3_kind
set_option maxRecDepth 20000 in
theorem ggL_areAlike_X3_supply : GoodIn wsL_areAlike wsX3_supply := goodIn_ca (goodIn_r _ [150, 6, 130, 131, 132, 4, 133, 97, 98, 134, 151, 152, 153, 10, 154, 25, 155, 156, 157, 158, 159, 160, 161, 162, 106, 163, 164, 165, 166, 123, 124, 121, 125, 167, 168, 169, 170, 118, 119, 120, 122, 51, 52, 53, 54, 55, 86, 87, 88, 89, 70, 71, 72, 73, 12, 184, 185, 186, 187, 188, 189, 190, 191, 192, 193, 194, 195, 196, 197, 198, 199] (by decide +kernel) (by decide +kernel)) (goodIn_sub (fun _ h => List.mem_cons_of_mem _ (List.mem_append_right _ h)) (by decide +kernel))
set_option maxRecDepth 20000 in
theorem gL_areAlike_X3_supply : GoodIn wsL_areAlike (wsV RL 61 RX3 yX3_supply wsX3_supply) := goodIn_app (goodIn_of _ (by decide +kernel)) ggL_areAlike_X3_supply
set_option maxRecDepth 20000 in
theorem ggL_areAlike_X3_mostWear : GoodIn wsL_areAlike wsX3_mostWear := goodIn_ca (goodIn_r _ [174, 6, 130, 131, 132, 4, 133, 97, 98, 134, 175, 176, 177, 10, 178, 155, 156, 157, 158, 25, 159, 160, 161, 162, 106, 163, 164, 165, 166, 123, 124, 121, 125, 167, 168, 169, 170, 118, 119, 120, 122, 51, 52, 53, 54, 55, 86, 87, 88, 89, 70, 71, 72, 73, 12, 184, 185, 186, 187, 188, 189, 190, 191, 192, 193, 194, 195, 196, 197, 198, 199] (by decide +kernel) (by decide +kernel)) (goodIn_sub (fun _ h => List.mem_cons_of_mem _ (List.mem_append_right _ h)) (by decide +kernel))
set_option maxRecDepth 20000 in
theorem gL_areAlike_X3_mostWear : GoodIn wsL_areAlike (wsV RL 64 RX3 yX3_mostWear wsX3_mostWear) := goodIn_app (goodIn_of _ (by decide +kernel)) ggL_areAlike_X3_mostWear
set_option maxRecDepth 20000 in
theorem ggL_areAlike_X3_count : GoodIn wsL_areAlike wsX3_count := goodIn_ca (goodIn_r _ [182, 6, 94, 95, 4, 96, 97, 98, 99, 100, 101, 130, 131, 132, 133, 134, 183, 27, 28, 10, 29, 12, 184, 185, 186, 187, 188, 189, 190, 191, 192, 193, 194, 195, 196, 197, 198, 199] (by decide +kernel) (by decide +kernel)) (goodIn_sub (fun _ h => List.mem_cons_of_mem _ (List.mem_append_right _ h)) (by decide +kernel))
set_option maxRecDepth 20000 in
theorem gL_areAlike_X3_count : GoodIn wsL_areAlike (wsV RL 67 RX3 yX3_count wsX3_count) := goodIn_app (goodIn_of _ (by decide +kernel)) ggL_areAlike_X3_count
theorem dL_areAlike_0 : decode cL_areAlike 0 = .ok (.aload_n 0, 1) := by decide +kernel
theorem dL_areAlike_1 : decode cL_areAlike 1 = .ok (.invokevirtual 51, 3) := by decide +kernel
theorem dL_areAlike_4 : decode cL_areAlike 4 = .ok (.aload_n 1, 1) := by decide +kernel
theorem dL_areAlike_5 : decode cL_areAlike 5 = .ok (.invokevirtual 51, 3) := by decide +kernel
theorem dL_areAlike_8 : decode cL_areAlike 8 = .ok (.dcmp .l, 1) := by decide +kernel
theorem dL_areAlike_9 : decode cL_areAlike 9 = .ok (.ifCond .ne 7, 3) := by decide +kernel
theorem dL_areAlike_12 : decode cL_areAlike 12 = .ok (.iconst 1, 1) := by decide +kernel
theorem dL_areAlike_13 : decode cL_areAlike 13 = .ok (.goto 4, 3) := by decide +kernel
theorem dL_areAlike_16 : decode cL_areAlike 16 = .ok (.iconst 0, 1) := by decide +kernel
theorem dL_areAlike_17 : decode cL_areAlike 17 = .ok (.istore_n 2, 1) := by decide +kernel
theorem dL_areAlike_18 : decode cL_areAlike 18 = .ok (.iconst 0, 1) := by decide +kernel
theorem dL_areAlike_19 : decode cL_areAlike 19 = .ok (.istore_n 3, 1) := by decide +kernel
theorem dL_areAlike_20 : decode cL_areAlike 20 = .ok (.iload_n 3, 1) := by decide +kernel
theorem dL_areAlike_21 : decode cL_areAlike 21 = .ok (.bipush 10, 2) := by decide +kernel
theorem dL_areAlike_23 : decode cL_areAlike 23 = .ok (.if_icmp .ge 32, 3) := by decide +kernel
theorem dL_areAlike_26 : decode cL_areAlike 26 = .ok (.iload_n 2, 1) := by decide +kernel
theorem dL_areAlike_27 : decode cL_areAlike 27 = .ok (.ifCond .eq 20, 3) := by decide +kernel
theorem dL_areAlike_30 : decode cL_areAlike 30 = .ok (.aload_n 0, 1) := by decide +kernel
theorem dL_areAlike_31 : decode cL_areAlike 31 = .ok (.iload_n 3, 1) := by decide +kernel
theorem dL_areAlike_32 : decode cL_areAlike 32 = .ok (.invokevirtual 55, 3) := by decide +kernel
theorem dL_areAlike_35 : decode cL_areAlike 35 = .ok (.aload_n 1, 1) := by decide +kernel
theorem dL_areAlike_36 : decode cL_areAlike 36 = .ok (.iload_n 3, 1) := by decide +kernel
theorem dL_areAlike_37 : decode cL_areAlike 37 = .ok (.invokevirtual 55, 3) := by decide +kernel
theorem dL_areAlike_40 : decode cL_areAlike 40 = .ok (.if_icmp .ne 7, 3) := by decide +kernel
theorem dL_areAlike_43 : decode cL_areAlike 43 = .ok (.iconst 1, 1) := by decide +kernel
theorem dL_areAlike_44 : decode cL_areAlike 44 = .ok (.goto 4, 3) := by decide +kernel
theorem dL_areAlike_47 : decode cL_areAlike 47 = .ok (.iconst 0, 1) := by decide +kernel
theorem dL_areAlike_48 : decode cL_areAlike 48 = .ok (.istore_n 2, 1) := by decide +kernel
theorem dL_areAlike_49 : decode cL_areAlike 49 = .ok (.iinc 3 1, 3) := by decide +kernel
theorem dL_areAlike_52 : decode cL_areAlike 52 = .ok (.goto (-32), 3) := by decide +kernel
theorem dL_areAlike_55 : decode cL_areAlike 55 = .ok (.iconst 0, 1) := by decide +kernel
theorem dL_areAlike_56 : decode cL_areAlike 56 = .ok (.istore_n 3, 1) := by decide +kernel
theorem dL_areAlike_57 : decode cL_areAlike 57 = .ok (.iload_n 3, 1) := by decide +kernel
theorem dL_areAlike_58 : decode cL_areAlike 58 = .ok (.bipush 6, 2) := by decide +kernel
theorem dL_areAlike_60 : decode cL_areAlike 60 = .ok (.if_icmp .ge 117, 3) := by decide +kernel
theorem dL_areAlike_63 : decode cL_areAlike 63 = .ok (.iload_n 2, 1) := by decide +kernel
theorem dL_areAlike_64 : decode cL_areAlike 64 = .ok (.ifCond .eq 113, 3) := by decide +kernel
theorem dL_areAlike_67 : decode cL_areAlike 67 = .ok (.iconst 0, 1) := by decide +kernel
theorem dL_areAlike_68 : decode cL_areAlike 68 = .ok (.istore 4, 2) := by decide +kernel
theorem dL_areAlike_70 : decode cL_areAlike 70 = .ok (.iload 4, 2) := by decide +kernel
theorem dL_areAlike_72 : decode cL_areAlike 72 = .ok (.bipush 10, 2) := by decide +kernel
theorem dL_areAlike_74 : decode cL_areAlike 74 = .ok (.if_icmp .ge 74, 3) := by decide +kernel
theorem dL_areAlike_77 : decode cL_areAlike 77 = .ok (.aload_n 0, 1) := by decide +kernel
theorem dL_areAlike_78 : decode cL_areAlike 78 = .ok (.iload_n 3, 1) := by decide +kernel
theorem dL_areAlike_79 : decode cL_areAlike 79 = .ok (.iload 4, 2) := by decide +kernel
theorem dL_areAlike_81 : decode cL_areAlike 81 = .ok (.invokevirtual 28, 3) := by decide +kernel
theorem dL_areAlike_84 : decode cL_areAlike 84 = .ok (.istore 5, 2) := by decide +kernel
theorem dL_areAlike_86 : decode cL_areAlike 86 = .ok (.iload 4, 2) := by decide +kernel
theorem dL_areAlike_88 : decode cL_areAlike 88 = .ok (.iconst 3, 1) := by decide +kernel
theorem dL_areAlike_89 : decode cL_areAlike 89 = .ok (.if_icmp .eq 10, 3) := by decide +kernel
theorem dL_areAlike_92 : decode cL_areAlike 92 = .ok (.iload 4, 2) := by decide +kernel
theorem dL_areAlike_94 : decode cL_areAlike 94 = .ok (.bipush 8, 2) := by decide +kernel
theorem dL_areAlike_96 : decode cL_areAlike 96 = .ok (.if_icmp .ne 20, 3) := by decide +kernel
theorem dL_areAlike_99 : decode cL_areAlike 99 = .ok (.iload 5, 2) := by decide +kernel
theorem dL_areAlike_101 : decode cL_areAlike 101 = .ok (.ifCond .ge 8, 3) := by decide +kernel
theorem dL_areAlike_104 : decode cL_areAlike 104 = .ok (.iload 5, 2) := by decide +kernel
theorem dL_areAlike_106 : decode cL_areAlike 106 = .ok (.goto 12, 3) := by decide +kernel
theorem dL_areAlike_109 : decode cL_areAlike 109 = .ok (.iconst 3, 1) := by decide +kernel
theorem dL_areAlike_110 : decode cL_areAlike 110 = .ok (.iload 5, 2) := by decide +kernel
theorem dL_areAlike_112 : decode cL_areAlike 112 = .ok (.isub, 1) := by decide +kernel
theorem dL_areAlike_113 : decode cL_areAlike 113 = .ok (.goto 5, 3) := by decide +kernel
theorem dL_areAlike_116 : decode cL_areAlike 116 = .ok (.iload 5, 2) := by decide +kernel
theorem dL_areAlike_118 : decode cL_areAlike 118 = .ok (.istore 5, 2) := by decide +kernel
theorem dL_areAlike_120 : decode cL_areAlike 120 = .ok (.iload_n 2, 1) := by decide +kernel
theorem dL_areAlike_121 : decode cL_areAlike 121 = .ok (.ifCond .eq 19, 3) := by decide +kernel
theorem dL_areAlike_124 : decode cL_areAlike 124 = .ok (.iload 5, 2) := by decide +kernel
theorem dL_areAlike_126 : decode cL_areAlike 126 = .ok (.aload_n 1, 1) := by decide +kernel
theorem dL_areAlike_127 : decode cL_areAlike 127 = .ok (.iload_n 3, 1) := by decide +kernel
theorem dL_areAlike_128 : decode cL_areAlike 128 = .ok (.iload 4, 2) := by decide +kernel
theorem dL_areAlike_130 : decode cL_areAlike 130 = .ok (.invokevirtual 28, 3) := by decide +kernel
theorem dL_areAlike_133 : decode cL_areAlike 133 = .ok (.if_icmp .ne 7, 3) := by decide +kernel
theorem dL_areAlike_136 : decode cL_areAlike 136 = .ok (.iconst 1, 1) := by decide +kernel
theorem dL_areAlike_137 : decode cL_areAlike 137 = .ok (.goto 4, 3) := by decide +kernel
theorem dL_areAlike_140 : decode cL_areAlike 140 = .ok (.iconst 0, 1) := by decide +kernel
theorem dL_areAlike_141 : decode cL_areAlike 141 = .ok (.istore_n 2, 1) := by decide +kernel
theorem dL_areAlike_142 : decode cL_areAlike 142 = .ok (.iinc 4 1, 3) := by decide +kernel
theorem dL_areAlike_145 : decode cL_areAlike 145 = .ok (.goto (-75), 3) := by decide +kernel
theorem dL_areAlike_148 : decode cL_areAlike 148 = .ok (.iload_n 2, 1) := by decide +kernel
theorem dL_areAlike_149 : decode cL_areAlike 149 = .ok (.ifCond .eq 20, 3) := by decide +kernel
theorem dL_areAlike_152 : decode cL_areAlike 152 = .ok (.aload_n 0, 1) := by decide +kernel
theorem dL_areAlike_153 : decode cL_areAlike 153 = .ok (.iload_n 3, 1) := by decide +kernel
theorem dL_areAlike_154 : decode cL_areAlike 154 = .ok (.invokevirtual 58, 3) := by decide +kernel
theorem dL_areAlike_157 : decode cL_areAlike 157 = .ok (.aload_n 1, 1) := by decide +kernel
theorem dL_areAlike_158 : decode cL_areAlike 158 = .ok (.iload_n 3, 1) := by decide +kernel
theorem dL_areAlike_159 : decode cL_areAlike 159 = .ok (.invokevirtual 58, 3) := by decide +kernel
theorem dL_areAlike_162 : decode cL_areAlike 162 = .ok (.if_icmp .ne 7, 3) := by decide +kernel
theorem dL_areAlike_165 : decode cL_areAlike 165 = .ok (.iconst 1, 1) := by decide +kernel
theorem dL_areAlike_166 : decode cL_areAlike 166 = .ok (.goto 4, 3) := by decide +kernel
theorem dL_areAlike_169 : decode cL_areAlike 169 = .ok (.iconst 0, 1) := by decide +kernel
theorem dL_areAlike_170 : decode cL_areAlike 170 = .ok (.istore_n 2, 1) := by decide +kernel
theorem dL_areAlike_171 : decode cL_areAlike 171 = .ok (.iinc 3 1, 3) := by decide +kernel
theorem dL_areAlike_174 : decode cL_areAlike 174 = .ok (.goto (-117), 3) := by decide +kernel
theorem dL_areAlike_177 : decode cL_areAlike 177 = .ok (.iconst 0, 1) := by decide +kernel
theorem dL_areAlike_178 : decode cL_areAlike 178 = .ok (.istore_n 3, 1) := by decide +kernel
theorem dL_areAlike_179 : decode cL_areAlike 179 = .ok (.iload_n 3, 1) := by decide +kernel
theorem dL_areAlike_180 : decode cL_areAlike 180 = .ok (.iconst 4, 1) := by decide +kernel
theorem dL_areAlike_181 : decode cL_areAlike 181 = .ok (.if_icmp .ge 115, 3) := by decide +kernel
theorem dL_areAlike_184 : decode cL_areAlike 184 = .ok (.iload_n 2, 1) := by decide +kernel
theorem dL_areAlike_185 : decode cL_areAlike 185 = .ok (.ifCond .eq 111, 3) := by decide +kernel
theorem dL_areAlike_188 : decode cL_areAlike 188 = .ok (.iconst 0, 1) := by decide +kernel
theorem dL_areAlike_189 : decode cL_areAlike 189 = .ok (.istore 4, 2) := by decide +kernel
theorem dL_areAlike_191 : decode cL_areAlike 191 = .ok (.iload 4, 2) := by decide +kernel
theorem dL_areAlike_193 : decode cL_areAlike 193 = .ok (.bipush 7, 2) := by decide +kernel
theorem dL_areAlike_195 : decode cL_areAlike 195 = .ok (.if_icmp .ge 38, 3) := by decide +kernel
theorem dL_areAlike_198 : decode cL_areAlike 198 = .ok (.iload_n 2, 1) := by decide +kernel
theorem dL_areAlike_199 : decode cL_areAlike 199 = .ok (.ifCond .eq 26, 3) := by decide +kernel
theorem dL_areAlike_202 : decode cL_areAlike 202 = .ok (.aload_n 0, 1) := by decide +kernel
theorem dL_areAlike_203 : decode cL_areAlike 203 = .ok (.iload_n 3, 1) := by decide +kernel
theorem dL_areAlike_204 : decode cL_areAlike 204 = .ok (.iload 4, 2) := by decide +kernel
theorem dL_areAlike_206 : decode cL_areAlike 206 = .ok (.invokevirtual 25, 3) := by decide +kernel
theorem dL_areAlike_209 : decode cL_areAlike 209 = .ok (.aload_n 1, 1) := by decide +kernel
theorem dL_areAlike_210 : decode cL_areAlike 210 = .ok (.iconst 3, 1) := by decide +kernel
theorem dL_areAlike_211 : decode cL_areAlike 211 = .ok (.iload_n 3, 1) := by decide +kernel
theorem dL_areAlike_212 : decode cL_areAlike 212 = .ok (.isub, 1) := by decide +kernel
theorem dL_areAlike_213 : decode cL_areAlike 213 = .ok (.iload 4, 2) := by decide +kernel
theorem dL_areAlike_215 : decode cL_areAlike 215 = .ok (.invokevirtual 25, 3) := by decide +kernel
theorem dL_areAlike_218 : decode cL_areAlike 218 = .ok (.if_icmp .ne 7, 3) := by decide +kernel
theorem dL_areAlike_221 : decode cL_areAlike 221 = .ok (.iconst 1, 1) := by decide +kernel
theorem dL_areAlike_222 : decode cL_areAlike 222 = .ok (.goto 4, 3) := by decide +kernel
theorem dL_areAlike_225 : decode cL_areAlike 225 = .ok (.iconst 0, 1) := by decide +kernel
theorem dL_areAlike_226 : decode cL_areAlike 226 = .ok (.istore_n 2, 1) := by decide +kernel
theorem dL_areAlike_227 : decode cL_areAlike 227 = .ok (.iinc 4 1, 3) := by decide +kernel
theorem dL_areAlike_230 : decode cL_areAlike 230 = .ok (.goto (-39), 3) := by decide +kernel
theorem dL_areAlike_233 : decode cL_areAlike 233 = .ok (.iload_n 2, 1) := by decide +kernel
theorem dL_areAlike_234 : decode cL_areAlike 234 = .ok (.ifCond .eq 54, 3) := by decide +kernel
theorem dL_areAlike_237 : decode cL_areAlike 237 = .ok (.aload_n 0, 1) := by decide +kernel
theorem dL_areAlike_238 : decode cL_areAlike 238 = .ok (.iload_n 3, 1) := by decide +kernel
theorem dL_areAlike_239 : decode cL_areAlike 239 = .ok (.invokevirtual 61, 3) := by decide +kernel
theorem dL_areAlike_242 : decode cL_areAlike 242 = .ok (.aload_n 1, 1) := by decide +kernel
theorem dL_areAlike_243 : decode cL_areAlike 243 = .ok (.iconst 3, 1) := by decide +kernel
theorem dL_areAlike_244 : decode cL_areAlike 244 = .ok (.iload_n 3, 1) := by decide +kernel
theorem dL_areAlike_245 : decode cL_areAlike 245 = .ok (.isub, 1) := by decide +kernel
theorem dL_areAlike_246 : decode cL_areAlike 246 = .ok (.invokevirtual 61, 3) := by decide +kernel
theorem dL_areAlike_249 : decode cL_areAlike 249 = .ok (.if_icmp .ne 39, 3) := by decide +kernel
theorem dL_areAlike_252 : decode cL_areAlike 252 = .ok (.aload_n 0, 1) := by decide +kernel
theorem dL_areAlike_253 : decode cL_areAlike 253 = .ok (.iload_n 3, 1) := by decide +kernel
theorem dL_areAlike_254 : decode cL_areAlike 254 = .ok (.invokevirtual 64, 3) := by decide +kernel
theorem dL_areAlike_257 : decode cL_areAlike 257 = .ok (.aload_n 1, 1) := by decide +kernel
theorem dL_areAlike_258 : decode cL_areAlike 258 = .ok (.iconst 3, 1) := by decide +kernel
theorem dL_areAlike_259 : decode cL_areAlike 259 = .ok (.iload_n 3, 1) := by decide +kernel
theorem dL_areAlike_260 : decode cL_areAlike 260 = .ok (.isub, 1) := by decide +kernel
theorem dL_areAlike_261 : decode cL_areAlike 261 = .ok (.invokevirtual 64, 3) := by decide +kernel
theorem dL_areAlike_264 : decode cL_areAlike 264 = .ok (.if_icmp .ne 24, 3) := by decide +kernel
theorem dL_areAlike_267 : decode cL_areAlike 267 = .ok (.aload_n 0, 1) := by decide +kernel
theorem dL_areAlike_268 : decode cL_areAlike 268 = .ok (.iload_n 3, 1) := by decide +kernel
theorem dL_areAlike_269 : decode cL_areAlike 269 = .ok (.iload_n 3, 1) := by decide +kernel
theorem dL_areAlike_270 : decode cL_areAlike 270 = .ok (.invokevirtual 67, 3) := by decide +kernel
theorem dL_areAlike_273 : decode cL_areAlike 273 = .ok (.aload_n 1, 1) := by decide +kernel
theorem dL_areAlike_274 : decode cL_areAlike 274 = .ok (.iload_n 3, 1) := by decide +kernel
theorem dL_areAlike_275 : decode cL_areAlike 275 = .ok (.iconst 3, 1) := by decide +kernel
theorem dL_areAlike_276 : decode cL_areAlike 276 = .ok (.iload_n 3, 1) := by decide +kernel
theorem dL_areAlike_277 : decode cL_areAlike 277 = .ok (.isub, 1) := by decide +kernel
theorem dL_areAlike_278 : decode cL_areAlike 278 = .ok (.invokevirtual 67, 3) := by decide +kernel
theorem dL_areAlike_281 : decode cL_areAlike 281 = .ok (.if_icmp .ne 7, 3) := by decide +kernel
theorem dL_areAlike_284 : decode cL_areAlike 284 = .ok (.iconst 1, 1) := by decide +kernel
theorem dL_areAlike_285 : decode cL_areAlike 285 = .ok (.goto 4, 3) := by decide +kernel
theorem dL_areAlike_288 : decode cL_areAlike 288 = .ok (.iconst 0, 1) := by decide +kernel
theorem dL_areAlike_289 : decode cL_areAlike 289 = .ok (.istore_n 2, 1) := by decide +kernel
theorem dL_areAlike_290 : decode cL_areAlike 290 = .ok (.iinc 3 1, 3) := by decide +kernel
theorem dL_areAlike_293 : decode cL_areAlike 293 = .ok (.goto (-114), 3) := by decide +kernel
theorem dL_areAlike_296 : decode cL_areAlike 296 = .ok (.iload_n 2, 1) := by decide +kernel
theorem dL_areAlike_297 : decode cL_areAlike 297 = .ok (.ireturn, 1) := by decide +kernel
set_option maxRecDepth 20000 in
theorem ggL_isSound_X3_value : GoodIn wsL_isSound wsX3_value := goodIn_ca (goodIn_r _ [5, 6, 7, 8, 4, 9, 10, 11, 12, 13, 14, 15, 16, 17, 18, 19, 20, 21, 22, 23, 24, 25, 26, 27, 28, 29, 30, 31, 32, 33, 34, 35, 36, 37, 38, 39, 40, 41, 42, 43, 44, 45, 46, 47, 48, 49, 50, 51, 52, 53, 54, 55, 56, 57, 58, 59, 60, 61, 62, 63, 64, 65, 66, 67, 68, 69, 70, 71, 72, 73, 74, 75, 76, 77, 78, 79, 80, 81, 82, 83, 171, 172, 173, 174, 175, 176, 177, 178, 179, 180, 181, 182, 183, 184, 185, 186] (by decide +kernel) (by decide +kernel)) (goodIn_sub (fun _ h => List.mem_cons_of_mem _ (List.mem_append_left _ (List.mem_append_right _ h))) (by decide +kernel))
set_option maxRecDepth 20000 in
theorem gL_isSound_X3_value : GoodIn wsL_isSound (wsV RL 55 RX3 yX3_value wsX3_value) := goodIn_app (goodIn_of _ (by decide +kernel)) ggL_isSound_X3_value
set_option maxRecDepth 20000 in
theorem ggL_isSound_X3_right : GoodIn wsL_isSound wsX3_right := goodIn_r _ [87, 6, 88, 25, 26, 15, 27, 28, 21, 22, 23, 89, 39, 40, 41, 42, 43, 44, 45, 17, 46, 47, 48, 49, 50, 171, 172, 173, 174, 175, 176, 177, 178, 179, 180, 181, 182, 183, 184, 185, 186] (by decide +kernel) (by decide +kernel)
set_option maxRecDepth 20000 in
theorem gL_isSound_X3_right : GoodIn wsL_isSound (wsV RL 51 RX3 yX3_right wsX3_right) := goodIn_app (goodIn_of _ (by decide +kernel)) ggL_isSound_X3_right
set_option maxRecDepth 20000 in
theorem ggL_isSound_X3_kind : GoodIn wsL_isSound wsX3_kind := goodIn_ca (goodIn_ca (goodIn_r _ [93, 6, 94, 95, 96, 4, 97, 98, 99, 100, 7, 8, 9, 10, 11, 101, 102, 103, 15, 104, 105, 59, 46, 19, 18, 106, 107, 108, 109, 47, 48, 49, 50, 28, 110, 111, 112, 113, 37, 171, 172, 173, 174, 175, 176, 177, 178, 179, 180, 181, 182, 183, 184, 185, 186] (by decide +kernel) (by decide +kernel)) (goodIn_sub (fun _ h => List.mem_cons_of_mem _ (List.mem_append_right _ h)) (by decide +kernel))) (goodIn_sub (fun _ h => List.mem_cons_of_mem _ (List.mem_append_left _ (List.mem_append_right _ h))) (by decide +kernel))
set_option maxRecDepth 20000 in
theorem gL_isSound_X3_kind : GoodIn wsL_isSound (wsV RL 25 RX3 yX3_kind wsX3_kind) := goodIn_app (goodIn_of _ (by decide +kernel)) ggL_isSound_X3_kind
set_option maxRecDepth 20000 in
theorem ggL_isSound_X3_supply : GoodIn wsL_isSound wsX3_supply := goodIn_ca (goodIn_r _ [117, 6, 94, 95, 96, 4, 97, 98, 99, 100, 118, 119, 120, 15, 121, 46, 122, 123, 124, 125, 126, 127, 128, 129, 130, 131, 132, 133, 134, 135, 136, 137, 138, 139, 140, 141, 142, 105, 143, 144, 145, 33, 34, 35, 36, 37, 80, 81, 82, 83, 64, 65, 66, 67, 28, 171, 172, 173, 174, 175, 176, 177, 178, 179, 180, 181, 182, 183, 184, 185, 186] (by decide +kernel) (by decide +kernel)) (goodIn_sub (fun _ h => List.mem_cons_of_mem _ (List.mem_append_right _ h)) (by decide +kernel))
set_option maxRecDepth 20000 in
theorem gL_isSound_X3_supply : GoodIn wsL_isSound (wsV RL 61 RX3 yX3_supply wsX3_supply) := goodIn_app (goodIn_of _ (by decide +kernel)) ggL_isSound_X3_supply
set_option maxRecDepth 20000 in
theorem ggL_isSound_X3_mostWear : GoodIn wsL_isSound wsX3_mostWear := goodIn_ca (goodIn_r _ [149, 6, 94, 95, 96, 4, 97, 98, 99, 100, 150, 151, 152, 15, 153, 122, 123, 124, 125, 46, 126, 127, 128, 129, 130, 131, 132, 133, 134, 135, 136, 137, 138, 139, 140, 141, 142, 105, 143, 144, 145, 33, 34, 35, 36, 37, 80, 81, 82, 83, 64, 65, 66, 67, 28, 171, 172, 173, 174, 175, 176, 177, 178, 179, 180, 181, 182, 183, 184, 185, 186] (by decide +kernel) (by decide +kernel)) (goodIn_sub (fun _ h => List.mem_cons_of_mem _ (List.mem_append_right _ h)) (by decide +kernel))
set_option maxRecDepth 20000 in
theorem gL_isSound_X3_mostWear : GoodIn wsL_isSound (wsV RL 64 RX3 yX3_mostWear wsX3_mostWear) := goodIn_app (goodIn_of _ (by decide +kernel)) ggL_isSound_X3_mostWear
set_option maxRecDepth 20000 in
theorem ggL_isSound_X3_rail : GoodIn wsL_isSound wsX3_rail := goodIn_ca (goodIn_ca (goodIn_r _ [157, 6, 158, 159, 4, 160, 98, 99, 161, 162, 163, 7, 8, 9, 10, 11, 164, 165, 166, 15, 167, 130, 168, 37, 169, 170, 64, 65, 66, 67, 28, 55, 56, 57, 58, 59, 60, 61, 62, 63, 17, 46, 72, 73, 74, 75, 47, 48, 49, 50, 42, 43, 44, 45, 171, 172, 173, 174, 175, 176, 177, 178, 179, 180, 181, 182, 183, 184, 185, 186] (by decide +kernel) (by decide +kernel)) (goodIn_sub (fun _ h => List.mem_cons_of_mem _ (List.mem_append_right _ h)) (by decide +kernel))) (goodIn_sub (fun _ h => List.mem_cons_of_mem _ (List.mem_append_left _ (List.mem_append_right _ h))) (by decide +kernel))
set_option maxRecDepth 20000 in
theorem gL_isSound_X3_rail : GoodIn wsL_isSound (wsV RL 28 RX3 yX3_rail wsX3_rail) := goodIn_app (goodIn_of _ (by decide +kernel)) ggL_isSound_X3_rail
theorem dL_isSound_0 : decode cL_isSound 0 = .ok (.aload_n 0, 1) := by decide +kernel
theorem dL_isSound_1 : decode cL_isSound 1 = .ok (.iconst 1, 1) := by decide +kernel
theorem dL_isSound_2 : decode cL_isSound 2 = .ok (.invokevirtual 55, 3) := by decide +kernel
theorem dL_isSound_5 : decode cL_isSound 5 = .ok (.aload_n 0, 1) := by decide +kernel
theorem dL_isSound_6 : decode cL_isSound 6 = .ok (.iconst 2, 1) := by decide +kernel
theorem dL_isSound_7 : decode cL_isSound 7 = .ok (.invokevirtual 55, 3) := by decide +kernel
theorem dL_isSound_10 : decode cL_isSound 10 = .ok (.aload_n 0, 1) := by decide +kernel
theorem dL_isSound_11 : decode cL_isSound 11 = .ok (.iconst 3, 1) := by decide +kernel
theorem dL_isSound_12 : decode cL_isSound 12 = .ok (.invokevirtual 55, 3) := by decide +kernel
theorem dL_isSound_15 : decode cL_isSound 15 = .ok (.iadd, 1) := by decide +kernel
theorem dL_isSound_16 : decode cL_isSound 16 = .ok (.aload_n 0, 1) := by decide +kernel
theorem dL_isSound_17 : decode cL_isSound 17 = .ok (.iconst 4, 1) := by decide +kernel
theorem dL_isSound_18 : decode cL_isSound 18 = .ok (.invokevirtual 55, 3) := by decide +kernel
theorem dL_isSound_21 : decode cL_isSound 21 = .ok (.iadd, 1) := by decide +kernel
theorem dL_isSound_22 : decode cL_isSound 22 = .ok (.aload_n 0, 1) := by decide +kernel
theorem dL_isSound_23 : decode cL_isSound 23 = .ok (.iconst 5, 1) := by decide +kernel
theorem dL_isSound_24 : decode cL_isSound 24 = .ok (.invokevirtual 55, 3) := by decide +kernel
theorem dL_isSound_27 : decode cL_isSound 27 = .ok (.iadd, 1) := by decide +kernel
theorem dL_isSound_28 : decode cL_isSound 28 = .ok (.if_icmp .ne 39, 3) := by decide +kernel
theorem dL_isSound_31 : decode cL_isSound 31 = .ok (.aload_n 0, 1) := by decide +kernel
theorem dL_isSound_32 : decode cL_isSound 32 = .ok (.bipush 6, 2) := by decide +kernel
theorem dL_isSound_34 : decode cL_isSound 34 = .ok (.invokevirtual 55, 3) := by decide +kernel
theorem dL_isSound_37 : decode cL_isSound 37 = .ok (.aload_n 0, 1) := by decide +kernel
theorem dL_isSound_38 : decode cL_isSound 38 = .ok (.iconst 2, 1) := by decide +kernel
theorem dL_isSound_39 : decode cL_isSound 39 = .ok (.invokevirtual 55, 3) := by decide +kernel
theorem dL_isSound_42 : decode cL_isSound 42 = .ok (.if_icmp .gt 25, 3) := by decide +kernel
theorem dL_isSound_45 : decode cL_isSound 45 = .ok (.aload_n 0, 1) := by decide +kernel
theorem dL_isSound_46 : decode cL_isSound 46 = .ok (.invokevirtual 51, 3) := by decide +kernel
theorem dL_isSound_49 : decode cL_isSound 49 = .ok (.dconst 0, 1) := by decide +kernel
theorem dL_isSound_50 : decode cL_isSound 50 = .ok (.dcmp .l, 1) := by decide +kernel
theorem dL_isSound_51 : decode cL_isSound 51 = .ok (.ifCond .lt 16, 3) := by decide +kernel
theorem dL_isSound_54 : decode cL_isSound 54 = .ok (.aload_n 0, 1) := by decide +kernel
theorem dL_isSound_55 : decode cL_isSound 55 = .ok (.invokevirtual 51, 3) := by decide +kernel
theorem dL_isSound_58 : decode cL_isSound 58 = .ok (.dconst 1, 1) := by decide +kernel
theorem dL_isSound_59 : decode cL_isSound 59 = .ok (.dcmp .g, 1) := by decide +kernel
theorem dL_isSound_60 : decode cL_isSound 60 = .ok (.ifCond .gt 7, 3) := by decide +kernel
theorem dL_isSound_63 : decode cL_isSound 63 = .ok (.iconst 1, 1) := by decide +kernel
theorem dL_isSound_64 : decode cL_isSound 64 = .ok (.goto 4, 3) := by decide +kernel
theorem dL_isSound_67 : decode cL_isSound 67 = .ok (.iconst 0, 1) := by decide +kernel
theorem dL_isSound_68 : decode cL_isSound 68 = .ok (.istore_n 1, 1) := by decide +kernel
theorem dL_isSound_69 : decode cL_isSound 69 = .ok (.iconst 0, 1) := by decide +kernel
theorem dL_isSound_70 : decode cL_isSound 70 = .ok (.istore_n 2, 1) := by decide +kernel
theorem dL_isSound_71 : decode cL_isSound 71 = .ok (.iconst 0, 1) := by decide +kernel
theorem dL_isSound_72 : decode cL_isSound 72 = .ok (.istore_n 3, 1) := by decide +kernel
theorem dL_isSound_73 : decode cL_isSound 73 = .ok (.iconst 0, 1) := by decide +kernel
theorem dL_isSound_74 : decode cL_isSound 74 = .ok (.istore 4, 2) := by decide +kernel
theorem dL_isSound_76 : decode cL_isSound 76 = .ok (.iload 4, 2) := by decide +kernel
theorem dL_isSound_78 : decode cL_isSound 78 = .ok (.iconst 4, 1) := by decide +kernel
theorem dL_isSound_79 : decode cL_isSound 79 = .ok (.if_icmp .ge 71, 3) := by decide +kernel
theorem dL_isSound_82 : decode cL_isSound 82 = .ok (.iload_n 2, 1) := by decide +kernel
theorem dL_isSound_83 : decode cL_isSound 83 = .ok (.aload_n 0, 1) := by decide +kernel
theorem dL_isSound_84 : decode cL_isSound 84 = .ok (.iload 4, 2) := by decide +kernel
theorem dL_isSound_86 : decode cL_isSound 86 = .ok (.bipush 6, 2) := by decide +kernel
theorem dL_isSound_88 : decode cL_isSound 88 = .ok (.invokevirtual 25, 3) := by decide +kernel
theorem dL_isSound_91 : decode cL_isSound 91 = .ok (.iadd, 1) := by decide +kernel
theorem dL_isSound_92 : decode cL_isSound 92 = .ok (.istore_n 2, 1) := by decide +kernel
theorem dL_isSound_93 : decode cL_isSound 93 = .ok (.iload_n 3, 1) := by decide +kernel
theorem dL_isSound_94 : decode cL_isSound 94 = .ok (.aload_n 0, 1) := by decide +kernel
theorem dL_isSound_95 : decode cL_isSound 95 = .ok (.iload 4, 2) := by decide +kernel
theorem dL_isSound_97 : decode cL_isSound 97 = .ok (.iconst 1, 1) := by decide +kernel
theorem dL_isSound_98 : decode cL_isSound 98 = .ok (.invokevirtual 25, 3) := by decide +kernel
theorem dL_isSound_101 : decode cL_isSound 101 = .ok (.aload_n 0, 1) := by decide +kernel
theorem dL_isSound_102 : decode cL_isSound 102 = .ok (.iload 4, 2) := by decide +kernel
theorem dL_isSound_104 : decode cL_isSound 104 = .ok (.iconst 3, 1) := by decide +kernel
theorem dL_isSound_105 : decode cL_isSound 105 = .ok (.invokevirtual 25, 3) := by decide +kernel
theorem dL_isSound_108 : decode cL_isSound 108 = .ok (.imul, 1) := by decide +kernel
theorem dL_isSound_109 : decode cL_isSound 109 = .ok (.iadd, 1) := by decide +kernel
theorem dL_isSound_110 : decode cL_isSound 110 = .ok (.istore_n 3, 1) := by decide +kernel
theorem dL_isSound_111 : decode cL_isSound 111 = .ok (.iload_n 1, 1) := by decide +kernel
theorem dL_isSound_112 : decode cL_isSound 112 = .ok (.ifCond .eq 30, 3) := by decide +kernel
theorem dL_isSound_115 : decode cL_isSound 115 = .ok (.aload_n 0, 1) := by decide +kernel
theorem dL_isSound_116 : decode cL_isSound 116 = .ok (.iload 4, 2) := by decide +kernel
theorem dL_isSound_118 : decode cL_isSound 118 = .ok (.invokevirtual 61, 3) := by decide +kernel
theorem dL_isSound_121 : decode cL_isSound 121 = .ok (.bipush 40, 2) := by decide +kernel
theorem dL_isSound_123 : decode cL_isSound 123 = .ok (.if_icmp .gt 19, 3) := by decide +kernel
theorem dL_isSound_126 : decode cL_isSound 126 = .ok (.aload_n 0, 1) := by decide +kernel
theorem dL_isSound_127 : decode cL_isSound 127 = .ok (.iload 4, 2) := by decide +kernel
theorem dL_isSound_129 : decode cL_isSound 129 = .ok (.invokevirtual 64, 3) := by decide +kernel
theorem dL_isSound_132 : decode cL_isSound 132 = .ok (.sipush 999, 3) := by decide +kernel
theorem dL_isSound_135 : decode cL_isSound 135 = .ok (.if_icmp .gt 7, 3) := by decide +kernel
theorem dL_isSound_138 : decode cL_isSound 138 = .ok (.iconst 1, 1) := by decide +kernel
theorem dL_isSound_139 : decode cL_isSound 139 = .ok (.goto 4, 3) := by decide +kernel
theorem dL_isSound_142 : decode cL_isSound 142 = .ok (.iconst 0, 1) := by decide +kernel
theorem dL_isSound_143 : decode cL_isSound 143 = .ok (.istore_n 1, 1) := by decide +kernel
theorem dL_isSound_144 : decode cL_isSound 144 = .ok (.iinc 4 1, 3) := by decide +kernel
theorem dL_isSound_147 : decode cL_isSound 147 = .ok (.goto (-71), 3) := by decide +kernel
theorem dL_isSound_150 : decode cL_isSound 150 = .ok (.iconst 0, 1) := by decide +kernel
theorem dL_isSound_151 : decode cL_isSound 151 = .ok (.istore 4, 2) := by decide +kernel
theorem dL_isSound_153 : decode cL_isSound 153 = .ok (.iload 4, 2) := by decide +kernel
theorem dL_isSound_155 : decode cL_isSound 155 = .ok (.bipush 6, 2) := by decide +kernel
theorem dL_isSound_157 : decode cL_isSound 157 = .ok (.if_icmp .ge 102, 3) := by decide +kernel
theorem dL_isSound_160 : decode cL_isSound 160 = .ok (.iload_n 1, 1) := by decide +kernel
theorem dL_isSound_161 : decode cL_isSound 161 = .ok (.ifCond .eq 90, 3) := by decide +kernel
theorem dL_isSound_164 : decode cL_isSound 164 = .ok (.aload_n 0, 1) := by decide +kernel
theorem dL_isSound_165 : decode cL_isSound 165 = .ok (.iload 4, 2) := by decide +kernel
theorem dL_isSound_167 : decode cL_isSound 167 = .ok (.iconst 2, 1) := by decide +kernel
theorem dL_isSound_168 : decode cL_isSound 168 = .ok (.invokevirtual 28, 3) := by decide +kernel
theorem dL_isSound_171 : decode cL_isSound 171 = .ok (.bipush 40, 2) := by decide +kernel
theorem dL_isSound_173 : decode cL_isSound 173 = .ok (.if_icmp .gt 78, 3) := by decide +kernel
theorem dL_isSound_176 : decode cL_isSound 176 = .ok (.aload_n 0, 1) := by decide +kernel
theorem dL_isSound_177 : decode cL_isSound 177 = .ok (.iload 4, 2) := by decide +kernel
theorem dL_isSound_179 : decode cL_isSound 179 = .ok (.iconst 1, 1) := by decide +kernel
theorem dL_isSound_180 : decode cL_isSound 180 = .ok (.invokevirtual 28, 3) := by decide +kernel
theorem dL_isSound_183 : decode cL_isSound 183 = .ok (.bipush 20, 2) := by decide +kernel
theorem dL_isSound_185 : decode cL_isSound 185 = .ok (.if_icmp .ge 66, 3) := by decide +kernel
theorem dL_isSound_188 : decode cL_isSound 188 = .ok (.aload_n 0, 1) := by decide +kernel
theorem dL_isSound_189 : decode cL_isSound 189 = .ok (.iload 4, 2) := by decide +kernel
theorem dL_isSound_191 : decode cL_isSound 191 = .ok (.iconst 0, 1) := by decide +kernel
theorem dL_isSound_192 : decode cL_isSound 192 = .ok (.invokevirtual 28, 3) := by decide +kernel
theorem dL_isSound_195 : decode cL_isSound 195 = .ok (.sipush 900, 3) := by decide +kernel
theorem dL_isSound_198 : decode cL_isSound 198 = .ok (.if_icmp .lt 53, 3) := by decide +kernel
theorem dL_isSound_201 : decode cL_isSound 201 = .ok (.aload_n 0, 1) := by decide +kernel
theorem dL_isSound_202 : decode cL_isSound 202 = .ok (.iload 4, 2) := by decide +kernel
theorem dL_isSound_204 : decode cL_isSound 204 = .ok (.iconst 0, 1) := by decide +kernel
theorem dL_isSound_205 : decode cL_isSound 205 = .ok (.invokevirtual 28, 3) := by decide +kernel
theorem dL_isSound_208 : decode cL_isSound 208 = .ok (.sipush 4100, 3) := by decide +kernel
theorem dL_isSound_211 : decode cL_isSound 211 = .ok (.if_icmp .gt 40, 3) := by decide +kernel
theorem dL_isSound_214 : decode cL_isSound 214 = .ok (.aload_n 0, 1) := by decide +kernel
theorem dL_isSound_215 : decode cL_isSound 215 = .ok (.iload 4, 2) := by decide +kernel
theorem dL_isSound_217 : decode cL_isSound 217 = .ok (.iconst 3, 1) := by decide +kernel
theorem dL_isSound_218 : decode cL_isSound 218 = .ok (.invokevirtual 28, 3) := by decide +kernel
theorem dL_isSound_221 : decode cL_isSound 221 = .ok (.ifCond .lt 7, 3) := by decide +kernel
theorem dL_isSound_224 : decode cL_isSound 224 = .ok (.iconst 1, 1) := by decide +kernel
theorem dL_isSound_225 : decode cL_isSound 225 = .ok (.goto 4, 3) := by decide +kernel
theorem dL_isSound_228 : decode cL_isSound 228 = .ok (.iconst 0, 1) := by decide +kernel
theorem dL_isSound_229 : decode cL_isSound 229 = .ok (.aload_n 0, 1) := by decide +kernel
theorem dL_isSound_230 : decode cL_isSound 230 = .ok (.iload 4, 2) := by decide +kernel
theorem dL_isSound_232 : decode cL_isSound 232 = .ok (.iconst 4, 1) := by decide +kernel
theorem dL_isSound_233 : decode cL_isSound 233 = .ok (.invokevirtual 28, 3) := by decide +kernel
theorem dL_isSound_236 : decode cL_isSound 236 = .ok (.ifCond .lt 7, 3) := by decide +kernel
theorem dL_isSound_239 : decode cL_isSound 239 = .ok (.iconst 1, 1) := by decide +kernel
theorem dL_isSound_240 : decode cL_isSound 240 = .ok (.goto 4, 3) := by decide +kernel
theorem dL_isSound_243 : decode cL_isSound 243 = .ok (.iconst 0, 1) := by decide +kernel
theorem dL_isSound_244 : decode cL_isSound 244 = .ok (.if_icmp .ne 7, 3) := by decide +kernel
theorem dL_isSound_247 : decode cL_isSound 247 = .ok (.iconst 1, 1) := by decide +kernel
theorem dL_isSound_248 : decode cL_isSound 248 = .ok (.goto 4, 3) := by decide +kernel
theorem dL_isSound_251 : decode cL_isSound 251 = .ok (.iconst 0, 1) := by decide +kernel
theorem dL_isSound_252 : decode cL_isSound 252 = .ok (.istore_n 1, 1) := by decide +kernel
theorem dL_isSound_253 : decode cL_isSound 253 = .ok (.iinc 4 1, 3) := by decide +kernel
theorem dL_isSound_256 : decode cL_isSound 256 = .ok (.goto (-103), 3) := by decide +kernel
theorem dL_isSound_259 : decode cL_isSound 259 = .ok (.iload_n 1, 1) := by decide +kernel
theorem dL_isSound_260 : decode cL_isSound 260 = .ok (.ifCond .eq 26, 3) := by decide +kernel
theorem dL_isSound_263 : decode cL_isSound 263 = .ok (.iload_n 2, 1) := by decide +kernel
theorem dL_isSound_264 : decode cL_isSound 264 = .ok (.aload_n 0, 1) := by decide +kernel
theorem dL_isSound_265 : decode cL_isSound 265 = .ok (.iconst 1, 1) := by decide +kernel
theorem dL_isSound_266 : decode cL_isSound 266 = .ok (.invokevirtual 55, 3) := by decide +kernel
theorem dL_isSound_269 : decode cL_isSound 269 = .ok (.if_icmp .ne 17, 3) := by decide +kernel
theorem dL_isSound_272 : decode cL_isSound 272 = .ok (.iload_n 3, 1) := by decide +kernel
theorem dL_isSound_273 : decode cL_isSound 273 = .ok (.aload_n 0, 1) := by decide +kernel
theorem dL_isSound_274 : decode cL_isSound 274 = .ok (.bipush 8, 2) := by decide +kernel
theorem dL_isSound_276 : decode cL_isSound 276 = .ok (.invokevirtual 55, 3) := by decide +kernel
theorem dL_isSound_279 : decode cL_isSound 279 = .ok (.if_icmp .ne 7, 3) := by decide +kernel
theorem dL_isSound_282 : decode cL_isSound 282 = .ok (.iconst 1, 1) := by decide +kernel
theorem dL_isSound_283 : decode cL_isSound 283 = .ok (.goto 4, 3) := by decide +kernel
theorem dL_isSound_286 : decode cL_isSound 286 = .ok (.iconst 0, 1) := by decide +kernel
theorem dL_isSound_287 : decode cL_isSound 287 = .ok (.ireturn, 1) := by decide +kernel
set_option maxRecDepth 20000 in
theorem ggL_law_X3_init : GoodIn wsL_law wsX3_init := goodIn_r _ [5, 6, 7, 8, 9, 10, 11, 12, 13, 14, 15, 16, 17, 18, 19, 20, 21, 22, 23, 24, 25, 26, 27, 28, 29, 30, 31, 32, 33, 34, 35, 36, 37, 38, 39, 40, 41, 42, 43, 44, 45, 46, 47, 48, 49, 345, 346, 347, 348, 349, 350, 351, 352, 353, 354, 355, 356, 357, 342, 343, 344, 358, 359, 360, 361, 362, 363, 364, 365] (by decide +kernel) (by decide +kernel)
set_option maxRecDepth 20000 in
theorem gL_law_X3_init : GoodIn wsL_law (wsX3_init) := ggL_law_X3_init
set_option maxRecDepth 20000 in
theorem ggL_law_L_kinds : GoodIn wsL_law wsL_kinds := goodIn_ca (goodIn_ca (goodIn_r _ [53, 54, 55, 52, 56, 57, 58, 59, 60, 61, 62, 63, 64, 2, 65, 66, 67, 12, 68, 16, 69, 70, 71, 72, 73, 74, 75, 76, 15, 77, 42, 78, 79, 80, 81, 82, 83, 84, 85, 86, 11, 87, 88, 26, 89, 90, 91, 92, 27, 28, 29, 30, 31, 32, 33, 34, 35, 36, 93, 94, 95, 96, 97, 342, 343, 344, 345, 346, 347, 348, 349, 350, 351, 352, 353, 354, 355, 356, 357, 358, 359, 360] (by decide +kernel) (by decide +kernel)) (goodIn_sub (fun _ h => List.mem_append_left _ (List.mem_append_left _ (List.mem_append_right _ h))) (by decide +kernel))) (goodIn_sub (fun _ h => List.mem_append_left _ (List.mem_append_right _ h)) (by decide +kernel))
set_option maxRecDepth 20000 in
theorem gL_law_L_kinds : GoodIn wsL_law (va_wsS RL 71 yL_kinds wsL_kinds) := goodIn_app (goodIn_of _ (by decide +kernel)) ggL_law_L_kinds
set_option maxRecDepth 20000 in
theorem ggL_law_L_cell : GoodIn wsL_law wsL_cell := goodIn_r _ [56, 57] (by decide +kernel) (by decide +kernel)
set_option maxRecDepth 20000 in
theorem gL_law_L_cell : GoodIn wsL_law (va_wsS RL 9 yL_cell wsL_cell) := goodIn_app (goodIn_of _ (by decide +kernel)) ggL_law_L_cell
set_option maxRecDepth 20000 in
theorem ggL_law_L_isStep : GoodIn wsL_law wsL_isStep := goodIn_ca (goodIn_ca (goodIn_ca (goodIn_r _ [100, 58, 59, 52, 60, 61, 101, 102, 103, 2, 104, 12, 105, 106, 107, 108, 109, 110, 68, 69, 70, 71, 72, 73, 111, 112, 113, 11, 114, 26, 27, 28, 30, 29, 115, 116, 117, 118, 119, 120, 121, 122, 36, 123, 124, 125, 126, 33, 127, 128, 129, 130, 131, 132, 133, 134, 135, 136, 137, 138, 139, 140, 31, 32, 34, 35, 141, 142, 143, 144, 145, 146, 147, 148, 149, 150, 151, 152, 88, 153, 154, 155, 156, 157, 158, 159, 160, 161, 162, 163, 164, 66, 67, 16, 165, 166, 167, 168, 169, 170, 74, 75, 76, 15, 77, 42, 78, 79, 80, 81, 82, 83, 84, 85, 86, 87, 89, 90, 91, 92, 93, 171, 172, 173, 174, 175, 176, 177, 178, 179, 180, 181, 182, 183, 184, 185, 186, 187, 188, 189, 190, 191, 192, 193, 194, 195, 196, 197, 198, 199, 200, 201, 202, 203, 204, 205, 206, 207, 208, 209, 210, 211, 212, 213, 214, 215, 216, 217, 218, 219, 220, 221, 222, 223, 224, 225, 226, 227, 228, 229, 230, 231, 232, 233, 234, 235, 236, 237, 238, 239, 342, 343, 344, 345, 346, 347, 348, 349, 350, 351, 352, 353, 354, 355, 356, 357, 358, 359, 360] (by decide +kernel) (by decide +kernel)) (goodIn_sub (fun _ h => List.mem_append_right _ h) (by decide +kernel))) (goodIn_sub (fun _ h => List.mem_append_left _ (List.mem_append_right _ h)) (by decide +kernel))) (goodIn_sub (fun _ h => List.mem_append_left _ (List.mem_append_left _ (List.mem_append_right _ h))) (by decide +kernel))
set_option maxRecDepth 20000 in
theorem gL_law_L_isStep : GoodIn wsL_law (va_wsS RL 75 yL_isStep wsL_isStep) := goodIn_app (goodIn_of _ (by decide +kernel)) ggL_law_L_isStep
set_option maxRecDepth 20000 in
theorem ggL_law_L_areAlike : GoodIn wsL_law wsL_areAlike := goodIn_ca (goodIn_ca (goodIn_r _ [242, 243, 244, 245, 2, 246, 12, 247, 248, 249, 11, 250, 36, 199, 200, 201, 251, 252, 253, 254, 157, 158, 159, 160, 88, 28, 119, 120, 121, 122, 255, 256, 257, 258, 69, 70, 71, 72, 73, 259, 260, 261, 262, 29, 30, 93, 263, 264, 265, 266, 267, 222, 168, 169, 170, 33, 268, 269, 270, 271, 272, 145, 146, 147, 148, 27, 149, 150, 151, 152, 141, 142, 143, 144, 273, 274, 275, 276, 153, 154, 155, 156, 277, 278, 279, 280, 179, 180, 181, 182, 127, 128, 129, 130, 131, 132, 133, 109, 110, 134, 135, 136, 137, 138, 139, 140, 31, 32, 34, 35, 281, 282, 283, 284, 285, 286, 287, 288, 26, 219, 220, 82, 221, 214, 81, 83, 101, 102, 103, 104, 105, 106, 107, 108, 68, 111, 112, 113, 114, 115, 116, 117, 118, 123, 124, 125, 126, 289, 290, 291, 292, 293, 294, 295, 296, 297, 298, 299, 300, 231, 207, 208, 209, 210, 211, 212, 213, 215, 216, 217, 218, 301, 302, 303, 304, 305, 306, 307, 308, 309, 310, 311, 312, 313, 342, 343, 344, 345, 346, 347, 348, 349, 350, 351, 352, 353, 354, 355, 356, 357] (by decide +kernel) (by decide +kernel)) (goodIn_sub (fun _ h => List.mem_append_left _ (List.mem_append_right _ h)) (by decide +kernel))) (goodIn_sub (fun _ h => List.mem_append_right _ h) (by decide +kernel))
set_option maxRecDepth 20000 in
theorem gL_law_L_areAlike : GoodIn wsL_law (va_wsS RL 79 yL_areAlike wsL_areAlike) := goodIn_app (goodIn_of _ (by decide +kernel)) ggL_law_L_areAlike
set_option maxRecDepth 20000 in
theorem ggL_law_L_isSound : GoodIn wsL_law wsL_isSound := goodIn_ca (goodIn_ca (goodIn_r _ [316, 255, 256, 257, 2, 258, 12, 69, 70, 71, 72, 73, 259, 260, 261, 11, 262, 88, 29, 30, 93, 199, 200, 201, 263, 248, 249, 250, 36, 264, 265, 266, 267, 222, 168, 169, 170, 33, 268, 252, 253, 254, 157, 158, 159, 160, 28, 119, 120, 121, 122, 269, 270, 271, 272, 145, 146, 147, 148, 27, 149, 150, 151, 152, 141, 142, 143, 144, 273, 274, 275, 276, 153, 154, 155, 156, 277, 278, 279, 280, 179, 180, 181, 182, 243, 244, 245, 246, 247, 251, 101, 102, 103, 104, 105, 106, 107, 108, 109, 110, 68, 111, 112, 113, 114, 26, 115, 116, 117, 118, 123, 124, 125, 126, 289, 290, 291, 292, 293, 294, 295, 296, 297, 298, 299, 300, 231, 207, 208, 209, 31, 210, 211, 212, 213, 214, 81, 82, 83, 215, 216, 217, 218, 219, 220, 221, 301, 302, 303, 304, 305, 306, 307, 308, 127, 128, 129, 130, 131, 132, 133, 134, 135, 136, 137, 138, 139, 140, 32, 34, 35, 342, 343, 344, 345, 346, 347, 348, 349, 350, 351, 352, 353, 354, 355, 356, 357] (by decide +kernel) (by decide +kernel)) (goodIn_sub (fun _ h => List.mem_append_left _ (List.mem_append_right _ h)) (by decide +kernel))) (goodIn_sub (fun _ h => List.mem_append_right _ h) (by decide +kernel))
set_option maxRecDepth 20000 in
theorem gL_law_L_isSound : GoodIn wsL_law (va_wsS RL 83 yL_isSound wsL_isSound) := goodIn_app (goodIn_of _ (by decide +kernel)) ggL_law_L_isSound
set_option maxRecDepth 20000 in
theorem ggL_law_X3_value : GoodIn wsL_law wsX3_value := goodIn_ca (goodIn_r _ [258, 12, 69, 70, 2, 71, 72, 73, 259, 260, 261, 11, 262, 88, 29, 30, 93, 199, 200, 201, 263, 248, 249, 250, 36, 264, 265, 266, 267, 222, 168, 169, 170, 33, 268, 252, 253, 254, 157, 158, 159, 160, 28, 119, 120, 121, 122, 269, 270, 271, 272, 145, 146, 147, 148, 27, 149, 150, 151, 152, 141, 142, 143, 144, 273, 274, 275, 276, 153, 154, 155, 156, 277, 278, 279, 280, 179, 180, 181, 182, 342, 343, 344, 345, 346, 347, 348, 349, 350, 351, 352, 353, 354, 355, 356, 357] (by decide +kernel) (by decide +kernel)) (goodIn_sub (fun _ h => List.mem_append_left _ (List.mem_append_right _ h)) (by decide +kernel))
set_option maxRecDepth 20000 in
theorem gL_law_X3_value : GoodIn wsL_law (wsV RL 55 RX3 yX3_value wsX3_value) := goodIn_app (goodIn_of _ (by decide +kernel)) ggL_law_X3_value
set_option maxRecDepth 20000 in
theorem ggL_law_X3_feedSome : GoodIn wsL_law wsX3_feedSome := goodIn_ca (goodIn_ca (goodIn_r _ [320, 66, 67, 321, 12, 68, 16, 69, 70, 2, 71, 72, 73, 74, 75, 76, 15, 77, 42, 78, 79, 80, 81, 82, 83, 84, 85, 86, 11, 87, 88, 26, 89, 90, 91, 92, 27, 28, 29, 30, 31, 32, 33, 34, 35, 36, 93, 322, 323, 324, 325, 326, 327, 328, 329, 330, 331, 332, 228, 229, 230, 231, 207, 208, 209, 210, 211, 212, 213, 214, 215, 216, 217, 218, 219, 220, 221, 222, 168, 169, 170, 179, 180, 181, 182, 141, 142, 143, 144, 232, 233, 234, 235, 236, 237, 238, 239, 342, 343, 344, 345, 346, 347, 348, 349, 350, 351, 352, 353, 354, 355, 356, 357, 358, 359, 360] (by decide +kernel) (by decide +kernel)) (goodIn_sub (fun _ h => List.mem_append_left _ (List.mem_append_left _ (List.mem_append_right _ h))) (by decide +kernel))) (goodIn_sub (fun _ h => List.mem_append_left _ (List.mem_append_right _ h)) (by decide +kernel))
set_option maxRecDepth 20000 in
theorem gL_law_X3_feedSome : GoodIn wsL_law (wsV RL 87 RX3 yX3_feedSome wsX3_feedSome) := goodIn_app (goodIn_of _ (by decide +kernel)) ggL_law_X3_feedSome
set_option maxRecDepth 20000 in
theorem ggL_law_X3_undo : GoodIn wsL_law wsX3_undo := goodIn_ca (goodIn_r _ [336, 66, 67, 16, 337, 12, 338, 339, 340, 15, 341, 78, 79, 42, 84, 85, 86, 11, 87, 88, 26, 89, 90, 91, 92, 27, 28, 29, 30, 31, 32, 33, 34, 35, 36, 93, 342, 343, 344, 358, 359, 360, 345, 346, 347, 348, 349, 350, 351, 352, 353, 354, 355, 356, 357] (by decide +kernel) (by decide +kernel)) (goodIn_sub (fun _ h => List.mem_append_left _ (List.mem_append_left _ (List.mem_append_right _ h))) (by decide +kernel))
set_option maxRecDepth 20000 in
theorem gL_law_X3_undo : GoodIn wsL_law (wsV RL 90 RX3 yX3_undo wsX3_undo) := goodIn_app (goodIn_of _ (by decide +kernel)) ggL_law_X3_undo
theorem dL_law_0 : decode cL_law 0 = .ok (.new 20, 3) := by decide +kernel
theorem dL_law_3 : decode cL_law 3 = .ok (.dup, 1) := by decide +kernel
theorem dL_law_4 : decode cL_law 4 = .ok (.invokespecial 70, 3) := by decide +kernel
theorem dL_law_7 : decode cL_law 7 = .ok (.astore_n 1, 1) := by decide +kernel
theorem dL_law_8 : decode cL_law 8 = .ok (.new 20, 3) := by decide +kernel
theorem dL_law_11 : decode cL_law 11 = .ok (.dup, 1) := by decide +kernel
theorem dL_law_12 : decode cL_law 12 = .ok (.invokespecial 70, 3) := by decide +kernel
theorem dL_law_15 : decode cL_law 15 = .ok (.astore_n 2, 1) := by decide +kernel
theorem dL_law_16 : decode cL_law 16 = .ok (.aload_n 1, 1) := by decide +kernel
theorem dL_law_17 : decode cL_law 17 = .ok (.aload_n 2, 1) := by decide +kernel
theorem dL_law_18 : decode cL_law 18 = .ok (.aload_n 0, 1) := by decide +kernel
theorem dL_law_19 : decode cL_law 19 = .ok (.invokestatic 71, 3) := by decide +kernel
theorem dL_law_22 : decode cL_law 22 = .ok (.istore_n 3, 1) := by decide +kernel
theorem dL_law_23 : decode cL_law 23 = .ok (.iconst 4, 1) := by decide +kernel
theorem dL_law_24 : decode cL_law 24 = .ok (.istore 4, 2) := by decide +kernel
theorem dL_law_26 : decode cL_law 26 = .ok (.iload 4, 2) := by decide +kernel
theorem dL_law_28 : decode cL_law 28 = .ok (.bipush 44, 2) := by decide +kernel
theorem dL_law_30 : decode cL_law 30 = .ok (.if_icmp .ge 48, 3) := by decide +kernel
theorem dL_law_33 : decode cL_law 33 = .ok (.iload_n 3, 1) := by decide +kernel
theorem dL_law_34 : decode cL_law 34 = .ok (.ifCond .eq 44, 3) := by decide +kernel
theorem dL_law_37 : decode cL_law 37 = .ok (.aload_n 1, 1) := by decide +kernel
theorem dL_law_38 : decode cL_law 38 = .ok (.aload_n 2, 1) := by decide +kernel
theorem dL_law_39 : decode cL_law 39 = .ok (.aload_n 0, 1) := by decide +kernel
theorem dL_law_40 : decode cL_law 40 = .ok (.iload 4, 2) := by decide +kernel
theorem dL_law_42 : decode cL_law 42 = .ok (.invokestatic 9, 3) := by decide +kernel
theorem dL_law_45 : decode cL_law 45 = .ok (.invokestatic 75, 3) := by decide +kernel
theorem dL_law_48 : decode cL_law 48 = .ok (.ifCond .eq 22, 3) := by decide +kernel
theorem dL_law_51 : decode cL_law 51 = .ok (.aload_n 1, 1) := by decide +kernel
theorem dL_law_52 : decode cL_law 52 = .ok (.aload_n 2, 1) := by decide +kernel
theorem dL_law_53 : decode cL_law 53 = .ok (.invokestatic 79, 3) := by decide +kernel
theorem dL_law_56 : decode cL_law 56 = .ok (.ifCond .eq 14, 3) := by decide +kernel
theorem dL_law_59 : decode cL_law 59 = .ok (.aload_n 1, 1) := by decide +kernel
theorem dL_law_60 : decode cL_law 60 = .ok (.invokestatic 83, 3) := by decide +kernel
theorem dL_law_63 : decode cL_law 63 = .ok (.ifCond .eq 7, 3) := by decide +kernel
theorem dL_law_66 : decode cL_law 66 = .ok (.iconst 1, 1) := by decide +kernel
theorem dL_law_67 : decode cL_law 67 = .ok (.goto 4, 3) := by decide +kernel
theorem dL_law_70 : decode cL_law 70 = .ok (.iconst 0, 1) := by decide +kernel
theorem dL_law_71 : decode cL_law 71 = .ok (.istore_n 3, 1) := by decide +kernel
theorem dL_law_72 : decode cL_law 72 = .ok (.iinc 4 1, 3) := by decide +kernel
theorem dL_law_75 : decode cL_law 75 = .ok (.goto (-49), 3) := by decide +kernel
theorem dL_law_78 : decode cL_law 78 = .ok (.aload_n 1, 1) := by decide +kernel
theorem dL_law_79 : decode cL_law 79 = .ok (.iconst 1, 1) := by decide +kernel
theorem dL_law_80 : decode cL_law 80 = .ok (.invokevirtual 55, 3) := by decide +kernel
theorem dL_law_83 : decode cL_law 83 = .ok (.istore 4, 2) := by decide +kernel
theorem dL_law_85 : decode cL_law 85 = .ok (.aload_n 1, 1) := by decide +kernel
theorem dL_law_86 : decode cL_law 86 = .ok (.iconst 2, 1) := by decide +kernel
theorem dL_law_87 : decode cL_law 87 = .ok (.invokevirtual 55, 3) := by decide +kernel
theorem dL_law_90 : decode cL_law 90 = .ok (.istore 5, 2) := by decide +kernel
theorem dL_law_92 : decode cL_law 92 = .ok (.iload_n 3, 1) := by decide +kernel
theorem dL_law_93 : decode cL_law 93 = .ok (.ifCond .eq 66, 3) := by decide +kernel
theorem dL_law_96 : decode cL_law 96 = .ok (.aload_n 1, 1) := by decide +kernel
theorem dL_law_97 : decode cL_law 97 = .ok (.bipush 50, 2) := by decide +kernel
theorem dL_law_99 : decode cL_law 99 = .ok (.sipush 12345, 3) := by decide +kernel
theorem dL_law_102 : decode cL_law 102 = .ok (.invokevirtual 87, 3) := by decide +kernel
theorem dL_law_105 : decode cL_law 105 = .ok (.ifCond .lt 54, 3) := by decide +kernel
theorem dL_law_108 : decode cL_law 108 = .ok (.aload_n 1, 1) := by decide +kernel
theorem dL_law_109 : decode cL_law 109 = .ok (.iconst 1, 1) := by decide +kernel
theorem dL_law_110 : decode cL_law 110 = .ok (.invokevirtual 55, 3) := by decide +kernel
theorem dL_law_113 : decode cL_law 113 = .ok (.iload 4, 2) := by decide +kernel
theorem dL_law_115 : decode cL_law 115 = .ok (.bipush 50, 2) := by decide +kernel
theorem dL_law_117 : decode cL_law 117 = .ok (.iadd, 1) := by decide +kernel
theorem dL_law_118 : decode cL_law 118 = .ok (.if_icmp .ne 41, 3) := by decide +kernel
theorem dL_law_121 : decode cL_law 121 = .ok (.aload_n 1, 1) := by decide +kernel
theorem dL_law_122 : decode cL_law 122 = .ok (.invokestatic 83, 3) := by decide +kernel
theorem dL_law_125 : decode cL_law 125 = .ok (.ifCond .eq 34, 3) := by decide +kernel
theorem dL_law_128 : decode cL_law 128 = .ok (.aload_n 1, 1) := by decide +kernel
theorem dL_law_129 : decode cL_law 129 = .ok (.invokevirtual 90, 3) := by decide +kernel
theorem dL_law_132 : decode cL_law 132 = .ok (.ifCond .lt 27, 3) := by decide +kernel
theorem dL_law_135 : decode cL_law 135 = .ok (.aload_n 1, 1) := by decide +kernel
theorem dL_law_136 : decode cL_law 136 = .ok (.iconst 1, 1) := by decide +kernel
theorem dL_law_137 : decode cL_law 137 = .ok (.invokevirtual 55, 3) := by decide +kernel
theorem dL_law_140 : decode cL_law 140 = .ok (.iload 4, 2) := by decide +kernel
theorem dL_law_142 : decode cL_law 142 = .ok (.if_icmp .ne 17, 3) := by decide +kernel
theorem dL_law_145 : decode cL_law 145 = .ok (.aload_n 1, 1) := by decide +kernel
theorem dL_law_146 : decode cL_law 146 = .ok (.iconst 2, 1) := by decide +kernel
theorem dL_law_147 : decode cL_law 147 = .ok (.invokevirtual 55, 3) := by decide +kernel
theorem dL_law_150 : decode cL_law 150 = .ok (.iload 5, 2) := by decide +kernel
theorem dL_law_152 : decode cL_law 152 = .ok (.if_icmp .ne 7, 3) := by decide +kernel
theorem dL_law_155 : decode cL_law 155 = .ok (.iconst 1, 1) := by decide +kernel
theorem dL_law_156 : decode cL_law 156 = .ok (.goto 4, 3) := by decide +kernel
theorem dL_law_159 : decode cL_law 159 = .ok (.iconst 0, 1) := by decide +kernel
theorem dL_law_160 : decode cL_law 160 = .ok (.istore_n 3, 1) := by decide +kernel
theorem dL_law_161 : decode cL_law 161 = .ok (.iload_n 3, 1) := by decide +kernel
theorem dL_law_162 : decode cL_law 162 = .ok (.ireturn, 1) := by decide +kernel
abbrev vwCl : List vw_C := [(RX0, TX0, 5), (RX1, TX1, 3), (RX2, TX2, 13), (RX3, TX3, 3)]
