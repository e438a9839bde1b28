theorem dX5_invoice_53 : decode cX5_invoice 53 = .ok (.istore 4, 2) := by decide +kernel
theorem dX5_invoice_55 : decode cX5_invoice 55 = .ok (.iload 4, 2) := by decide +kernel
theorem dX5_invoice_57 : decode cX5_invoice 57 = .ok (.aload_n 0, 1) := by decide +kernel
theorem dX5_invoice_58 : decode cX5_invoice 58 = .ok (.getfield 76, 3) := by decide +kernel
theorem dX5_invoice_61 : decode cX5_invoice 61 = .ok (.if_icmp .ge 28, 3) := by decide +kernel
theorem dX5_invoice_64 : decode cX5_invoice 64 = .ok (.iload_n 3, 1) := by decide +kernel
theorem dX5_invoice_65 : decode cX5_invoice 65 = .ok (.aload_n 0, 1) := by decide +kernel
theorem dX5_invoice_66 : decode cX5_invoice 66 = .ok (.iload 4, 2) := by decide +kernel
theorem dX5_invoice_68 : decode cX5_invoice 68 = .ok (.iload_n 1, 1) := by decide +kernel
theorem dX5_invoice_69 : decode cX5_invoice 69 = .ok (.iload_n 2, 1) := by decide +kernel
theorem dX5_invoice_70 : decode cX5_invoice 70 = .ok (.invokevirtual 145, 3) := by decide +kernel
theorem dX5_invoice_73 : decode cX5_invoice 73 = .ok (.ifCond .eq 7, 3) := by decide +kernel
theorem dX5_invoice_76 : decode cX5_invoice 76 = .ok (.iconst 1, 1) := by decide +kernel
theorem dX5_invoice_77 : decode cX5_invoice 77 = .ok (.goto 4, 3) := by decide +kernel
theorem dX5_invoice_80 : decode cX5_invoice 80 = .ok (.iconst 0, 1) := by decide +kernel
theorem dX5_invoice_81 : decode cX5_invoice 81 = .ok (.iadd, 1) := by decide +kernel
theorem dX5_invoice_82 : decode cX5_invoice 82 = .ok (.istore_n 3, 1) := by decide +kernel
theorem dX5_invoice_83 : decode cX5_invoice 83 = .ok (.iinc 4 1, 3) := by decide +kernel
theorem dX5_invoice_86 : decode cX5_invoice 86 = .ok (.goto (-31), 3) := by decide +kernel
theorem dX5_invoice_89 : decode cX5_invoice 89 = .ok (.aload_n 0, 1) := by decide +kernel
theorem dX5_invoice_90 : decode cX5_invoice 90 = .ok (.iload_n 3, 1) := by decide +kernel
theorem dX5_invoice_91 : decode cX5_invoice 91 = .ok (.ifCond .eq 12, 3) := by decide +kernel
theorem dX5_invoice_94 : decode cX5_invoice 94 = .ok (.aload_n 0, 1) := by decide +kernel
theorem dX5_invoice_95 : decode cX5_invoice 95 = .ok (.getfield 79, 3) := by decide +kernel
theorem dX5_invoice_98 : decode cX5_invoice 98 = .ok (.bipush 20, 2) := by decide +kernel
theorem dX5_invoice_100 : decode cX5_invoice 100 = .ok (.if_icmp .ne 7, 3) := by decide +kernel
theorem dX5_invoice_103 : decode cX5_invoice 103 = .ok (.iconst 4, 1) := by decide +kernel
theorem dX5_invoice_104 : decode cX5_invoice 104 = .ok (.goto 4, 3) := by decide +kernel
theorem dX5_invoice_107 : decode cX5_invoice 107 = .ok (.iconst 0, 1) := by decide +kernel
theorem dX5_invoice_108 : decode cX5_invoice 108 = .ok (.putfield 66, 3) := by decide +kernel
theorem dX5_invoice_111 : decode cX5_invoice 111 = .ok (.aload_n 0, 1) := by decide +kernel
theorem dX5_invoice_112 : decode cX5_invoice 112 = .ok (.getfield 66, 3) := by decide +kernel
theorem dX5_invoice_115 : decode cX5_invoice 115 = .ok (.ifCond .le 5, 3) := by decide +kernel
theorem dX5_invoice_118 : decode cX5_invoice 118 = .ok (.iconst 0, 1) := by decide +kernel
theorem dX5_invoice_119 : decode cX5_invoice 119 = .ok (.ireturn, 1) := by decide +kernel
theorem dX5_invoice_120 : decode cX5_invoice 120 = .ok (.iconst 0, 1) := by decide +kernel
theorem dX5_invoice_121 : decode cX5_invoice 121 = .ok (.istore 4, 2) := by decide +kernel
theorem dX5_invoice_123 : decode cX5_invoice 123 = .ok (.iconst 0, 1) := by decide +kernel
theorem dX5_invoice_124 : decode cX5_invoice 124 = .ok (.istore 5, 2) := by decide +kernel
theorem dX5_invoice_126 : decode cX5_invoice 126 = .ok (.iload 5, 2) := by decide +kernel
theorem dX5_invoice_128 : decode cX5_invoice 128 = .ok (.aload_n 0, 1) := by decide +kernel
theorem dX5_invoice_129 : decode cX5_invoice 129 = .ok (.getfield 76, 3) := by decide +kernel
theorem dX5_invoice_132 : decode cX5_invoice 132 = .ok (.if_icmp .ge 153, 3) := by decide +kernel
theorem dX5_invoice_135 : decode cX5_invoice 135 = .ok (.aload_n 0, 1) := by decide +kernel
theorem dX5_invoice_136 : decode cX5_invoice 136 = .ok (.iload 5, 2) := by decide +kernel
theorem dX5_invoice_138 : decode cX5_invoice 138 = .ok (.iload_n 1, 1) := by decide +kernel
theorem dX5_invoice_139 : decode cX5_invoice 139 = .ok (.iload_n 2, 1) := by decide +kernel
theorem dX5_invoice_140 : decode cX5_invoice 140 = .ok (.invokevirtual 145, 3) := by decide +kernel
theorem dX5_invoice_143 : decode cX5_invoice 143 = .ok (.ifCond .ne 6, 3) := by decide +kernel
theorem dX5_invoice_146 : decode cX5_invoice 146 = .ok (.goto 133, 3) := by decide +kernel
theorem dX5_invoice_149 : decode cX5_invoice 149 = .ok (.aload_n 0, 1) := by decide +kernel
theorem dX5_invoice_150 : decode cX5_invoice 150 = .ok (.aload_n 0, 1) := by decide +kernel
theorem dX5_invoice_151 : decode cX5_invoice 151 = .ok (.getfield 39, 3) := by decide +kernel
theorem dX5_invoice_154 : decode cX5_invoice 154 = .ok (.iload 5, 2) := by decide +kernel
theorem dX5_invoice_156 : decode cX5_invoice 156 = .ok (.iaload, 1) := by decide +kernel
theorem dX5_invoice_157 : decode cX5_invoice 157 = .ok (.aload_n 0, 1) := by decide +kernel
theorem dX5_invoice_158 : decode cX5_invoice 158 = .ok (.getfield 42, 3) := by decide +kernel
theorem dX5_invoice_161 : decode cX5_invoice 161 = .ok (.iload 5, 2) := by decide +kernel
theorem dX5_invoice_163 : decode cX5_invoice 163 = .ok (.iaload, 1) := by decide +kernel
theorem dX5_invoice_164 : decode cX5_invoice 164 = .ok (.invokevirtual 148, 3) := by decide +kernel
theorem dX5_invoice_167 : decode cX5_invoice 167 = .ok (.aload_n 0, 1) := by decide +kernel
theorem dX5_invoice_168 : decode cX5_invoice 168 = .ok (.getfield 45, 3) := by decide +kernel
theorem dX5_invoice_171 : decode cX5_invoice 171 = .ok (.iload 5, 2) := by decide +kernel
theorem dX5_invoice_173 : decode cX5_invoice 173 = .ok (.iaload, 1) := by decide +kernel
theorem dX5_invoice_174 : decode cX5_invoice 174 = .ok (.iadd, 1) := by decide +kernel
theorem dX5_invoice_175 : decode cX5_invoice 175 = .ok (.aload_n 0, 1) := by decide +kernel
theorem dX5_invoice_176 : decode cX5_invoice 176 = .ok (.getfield 82, 3) := by decide +kernel
theorem dX5_invoice_179 : decode cX5_invoice 179 = .ok (.if_icmp .le 7, 3) := by decide +kernel
theorem dX5_invoice_182 : decode cX5_invoice 182 = .ok (.iconst 1, 1) := by decide +kernel
theorem dX5_invoice_183 : decode cX5_invoice 183 = .ok (.goto 4, 3) := by decide +kernel
theorem dX5_invoice_186 : decode cX5_invoice 186 = .ok (.iconst 0, 1) := by decide +kernel
theorem dX5_invoice_187 : decode cX5_invoice 187 = .ok (.istore 6, 2) := by decide +kernel
theorem dX5_invoice_189 : decode cX5_invoice 189 = .ok (.aload_n 0, 1) := by decide +kernel
theorem dX5_invoice_190 : decode cX5_invoice 190 = .ok (.getfield 23, 3) := by decide +kernel
theorem dX5_invoice_193 : decode cX5_invoice 193 = .ok (.iload 5, 2) := by decide +kernel
theorem dX5_invoice_195 : decode cX5_invoice 195 = .ok (.iload 6, 2) := by decide +kernel
theorem dX5_invoice_197 : decode cX5_invoice 197 = .ok (.ifCond .eq 8, 3) := by decide +kernel
theorem dX5_invoice_200 : decode cX5_invoice 200 = .ok (.bipush 120, 2) := by decide +kernel
theorem dX5_invoice_202 : decode cX5_invoice 202 = .ok (.goto 5, 3) := by decide +kernel
theorem dX5_invoice_205 : decode cX5_invoice 205 = .ok (.bipush 98, 2) := by decide +kernel
theorem dX5_invoice_207 : decode cX5_invoice 207 = .ok (.castore, 1) := by decide +kernel
theorem dX5_invoice_208 : decode cX5_invoice 208 = .ok (.iload 6, 2) := by decide +kernel
theorem dX5_invoice_210 : decode cX5_invoice 210 = .ok (.ifCond .eq 6, 3) := by decide +kernel
theorem dX5_invoice_213 : decode cX5_invoice 213 = .ok (.goto 66, 3) := by decide +kernel
theorem dX5_invoice_216 : decode cX5_invoice 216 = .ok (.aload_n 0, 1) := by decide +kernel
theorem dX5_invoice_217 : decode cX5_invoice 217 = .ok (.getfield 48, 3) := by decide +kernel
theorem dX5_invoice_220 : decode cX5_invoice 220 = .ok (.iload 5, 2) := by decide +kernel
theorem dX5_invoice_222 : decode cX5_invoice 222 = .ok (.aload_n 0, 1) := by decide +kernel
theorem dX5_invoice_223 : decode cX5_invoice 223 = .ok (.getfield 45, 3) := by decide +kernel
theorem dX5_invoice_226 : decode cX5_invoice 226 = .ok (.iload 5, 2) := by decide +kernel
theorem dX5_invoice_228 : decode cX5_invoice 228 = .ok (.iaload, 1) := by decide +kernel
theorem dX5_invoice_229 : decode cX5_invoice 229 = .ok (.aload_n 0, 1) := by decide +kernel
theorem dX5_invoice_230 : decode cX5_invoice 230 = .ok (.getfield 54, 3) := by decide +kernel
theorem dX5_invoice_233 : decode cX5_invoice 233 = .ok (.aload_n 0, 1) := by decide +kernel
theorem dX5_invoice_234 : decode cX5_invoice 234 = .ok (.getfield 39, 3) := by decide +kernel
theorem dX5_invoice_237 : decode cX5_invoice 237 = .ok (.iload 5, 2) := by decide +kernel
theorem dX5_invoice_239 : decode cX5_invoice 239 = .ok (.iaload, 1) := by decide +kernel
theorem dX5_invoice_240 : decode cX5_invoice 240 = .ok (.iaload, 1) := by decide +kernel
theorem dX5_invoice_241 : decode cX5_invoice 241 = .ok (.imul, 1) := by decide +kernel
theorem dX5_invoice_242 : decode cX5_invoice 242 = .ok (.iastore, 1) := by decide +kernel
theorem dX5_invoice_243 : decode cX5_invoice 243 = .ok (.aload_n 0, 1) := by decide +kernel
theorem dX5_invoice_244 : decode cX5_invoice 244 = .ok (.getfield 51, 3) := by decide +kernel
theorem dX5_invoice_247 : decode cX5_invoice 247 = .ok (.iload 5, 2) := by decide +kernel
theorem dX5_invoice_249 : decode cX5_invoice 249 = .ok (.aload_n 0, 1) := by decide +kernel
theorem dX5_invoice_250 : decode cX5_invoice 250 = .ok (.getfield 79, 3) := by decide +kernel
theorem dX5_invoice_253 : decode cX5_invoice 253 = .ok (.iastore, 1) := by decide +kernel
theorem dX5_invoice_254 : decode cX5_invoice 254 = .ok (.aload_n 0, 1) := by decide +kernel
theorem dX5_invoice_255 : decode cX5_invoice 255 = .ok (.getfield 63, 3) := by decide +kernel
theorem dX5_invoice_258 : decode cX5_invoice 258 = .ok (.aload_n 0, 1) := by decide +kernel
theorem dX5_invoice_259 : decode cX5_invoice 259 = .ok (.getfield 79, 3) := by decide +kernel
theorem dX5_invoice_262 : decode cX5_invoice 262 = .ok (.dup2, 1) := by decide +kernel
theorem dX5_invoice_263 : decode cX5_invoice 263 = .ok (.iaload, 1) := by decide +kernel
theorem dX5_invoice_264 : decode cX5_invoice 264 = .ok (.iconst 1, 1) := by decide +kernel
theorem dX5_invoice_265 : decode cX5_invoice 265 = .ok (.iadd, 1) := by decide +kernel
theorem dX5_invoice_266 : decode cX5_invoice 266 = .ok (.iastore, 1) := by decide +kernel
theorem dX5_invoice_267 : decode cX5_invoice 267 = .ok (.iload 4, 2) := by decide +kernel
theorem dX5_invoice_269 : decode cX5_invoice 269 = .ok (.aload_n 0, 1) := by decide +kernel
theorem dX5_invoice_270 : decode cX5_invoice 270 = .ok (.getfield 48, 3) := by decide +kernel
theorem dX5_invoice_273 : decode cX5_invoice 273 = .ok (.iload 5, 2) := by decide +kernel
theorem dX5_invoice_275 : decode cX5_invoice 275 = .ok (.iaload, 1) := by decide +kernel
theorem dX5_invoice_276 : decode cX5_invoice 276 = .ok (.iadd, 1) := by decide +kernel
theorem dX5_invoice_277 : decode cX5_invoice 277 = .ok (.istore 4, 2) := by decide +kernel
theorem dX5_invoice_279 : decode cX5_invoice 279 = .ok (.iinc 5 1, 3) := by decide +kernel
theorem dX5_invoice_282 : decode cX5_invoice 282 = .ok (.goto (-156), 3) := by decide +kernel
theorem dX5_invoice_285 : decode cX5_invoice 285 = .ok (.iconst 0, 1) := by decide +kernel
theorem dX5_invoice_286 : decode cX5_invoice 286 = .ok (.istore 5, 2) := by decide +kernel
theorem dX5_invoice_288 : decode cX5_invoice 288 = .ok (.iload 5, 2) := by decide +kernel
theorem dX5_invoice_290 : decode cX5_invoice 290 = .ok (.aload_n 0, 1) := by decide +kernel
theorem dX5_invoice_291 : decode cX5_invoice 291 = .ok (.getfield 76, 3) := by decide +kernel
theorem dX5_invoice_294 : decode cX5_invoice 294 = .ok (.if_icmp .ge 88, 3) := by decide +kernel
theorem dX5_invoice_297 : decode cX5_invoice 297 = .ok (.aload_n 0, 1) := by decide +kernel
theorem dX5_invoice_298 : decode cX5_invoice 298 = .ok (.iload 5, 2) := by decide +kernel
theorem dX5_invoice_300 : decode cX5_invoice 300 = .ok (.invokevirtual 138, 3) := by decide +kernel
theorem dX5_invoice_303 : decode cX5_invoice 303 = .ok (.ifCond .eq 73, 3) := by decide +kernel
theorem dX5_invoice_306 : decode cX5_invoice 306 = .ok (.aload_n 0, 1) := by decide +kernel
theorem dX5_invoice_307 : decode cX5_invoice 307 = .ok (.getfield 51, 3) := by decide +kernel
theorem dX5_invoice_310 : decode cX5_invoice 310 = .ok (.iload 5, 2) := by decide +kernel
theorem dX5_invoice_312 : decode cX5_invoice 312 = .ok (.iaload, 1) := by decide +kernel
theorem dX5_invoice_313 : decode cX5_invoice 313 = .ok (.aload_n 0, 1) := by decide +kernel
theorem dX5_invoice_314 : decode cX5_invoice 314 = .ok (.getfield 79, 3) := by decide +kernel
theorem dX5_invoice_317 : decode cX5_invoice 317 = .ok (.if_icmp .eq 6, 3) := by decide +kernel
theorem dX5_invoice_320 : decode cX5_invoice 320 = .ok (.goto 56, 3) := by decide +kernel
theorem dX5_invoice_323 : decode cX5_invoice 323 = .ok (.iload 4, 2) := by decide +kernel
theorem dX5_invoice_325 : decode cX5_invoice 325 = .ok (.aload_n 0, 1) := by decide +kernel
theorem dX5_invoice_326 : decode cX5_invoice 326 = .ok (.getfield 85, 3) := by decide +kernel
theorem dX5_invoice_329 : decode cX5_invoice 329 = .ok (.if_icmp .lt 28, 3) := by decide +kernel
theorem dX5_invoice_332 : decode cX5_invoice 332 = .ok (.aload_n 0, 1) := by decide +kernel
theorem dX5_invoice_333 : decode cX5_invoice 333 = .ok (.getfield 48, 3) := by decide +kernel
theorem dX5_invoice_336 : decode cX5_invoice 336 = .ok (.iload 5, 2) := by decide +kernel
theorem dX5_invoice_338 : decode cX5_invoice 338 = .ok (.aload_n 0, 1) := by decide +kernel
theorem dX5_invoice_339 : decode cX5_invoice 339 = .ok (.getfield 48, 3) := by decide +kernel
theorem dX5_invoice_342 : decode cX5_invoice 342 = .ok (.iload 5, 2) := by decide +kernel
theorem dX5_invoice_344 : decode cX5_invoice 344 = .ok (.iaload, 1) := by decide +kernel
theorem dX5_invoice_345 : decode cX5_invoice 345 = .ok (.bipush 100, 2) := by decide +kernel
theorem dX5_invoice_347 : decode cX5_invoice 347 = .ok (.aload_n 0, 1) := by decide +kernel
theorem dX5_invoice_348 : decode cX5_invoice 348 = .ok (.getfield 88, 3) := by decide +kernel
theorem dX5_invoice_351 : decode cX5_invoice 351 = .ok (.isub, 1) := by decide +kernel
theorem dX5_invoice_352 : decode cX5_invoice 352 = .ok (.imul, 1) := by decide +kernel
theorem dX5_invoice_353 : decode cX5_invoice 353 = .ok (.bipush 100, 2) := by decide +kernel
theorem dX5_invoice_355 : decode cX5_invoice 355 = .ok (.idiv, 1) := by decide +kernel
theorem dX5_invoice_356 : decode cX5_invoice 356 = .ok (.iastore, 1) := by decide +kernel
theorem dX5_invoice_357 : decode cX5_invoice 357 = .ok (.aload_n 0, 1) := by decide +kernel
theorem dX5_invoice_358 : decode cX5_invoice 358 = .ok (.getfield 57, 3) := by decide +kernel
theorem dX5_invoice_361 : decode cX5_invoice 361 = .ok (.aload_n 0, 1) := by decide +kernel
theorem dX5_invoice_362 : decode cX5_invoice 362 = .ok (.getfield 79, 3) := by decide +kernel
theorem dX5_invoice_365 : decode cX5_invoice 365 = .ok (.dup2, 1) := by decide +kernel
theorem dX5_invoice_366 : decode cX5_invoice 366 = .ok (.iaload, 1) := by decide +kernel
theorem dX5_invoice_367 : decode cX5_invoice 367 = .ok (.aload_n 0, 1) := by decide +kernel
theorem dX5_invoice_368 : decode cX5_invoice 368 = .ok (.getfield 48, 3) := by decide +kernel
theorem dX5_invoice_371 : decode cX5_invoice 371 = .ok (.iload 5, 2) := by decide +kernel
theorem dX5_invoice_373 : decode cX5_invoice 373 = .ok (.iaload, 1) := by decide +kernel
theorem dX5_invoice_374 : decode cX5_invoice 374 = .ok (.iadd, 1) := by decide +kernel
theorem dX5_invoice_375 : decode cX5_invoice 375 = .ok (.iastore, 1) := by decide +kernel
theorem dX5_invoice_376 : decode cX5_invoice 376 = .ok (.iinc 5 1, 3) := by decide +kernel
theorem dX5_invoice_379 : decode cX5_invoice 379 = .ok (.goto (-91), 3) := by decide +kernel
theorem dX5_invoice_382 : decode cX5_invoice 382 = .ok (.aload_n 0, 1) := by decide +kernel
theorem dX5_invoice_383 : decode cX5_invoice 383 = .ok (.dup, 1) := by decide +kernel
theorem dX5_invoice_384 : decode cX5_invoice 384 = .ok (.getfield 79, 3) := by decide +kernel
theorem dX5_invoice_387 : decode cX5_invoice 387 = .ok (.iconst 1, 1) := by decide +kernel
theorem dX5_invoice_388 : decode cX5_invoice 388 = .ok (.iadd, 1) := by decide +kernel
theorem dX5_invoice_389 : decode cX5_invoice 389 = .ok (.putfield 79, 3) := by decide +kernel
theorem dX5_invoice_392 : decode cX5_invoice 392 = .ok (.aload_n 0, 1) := by decide +kernel
theorem dX5_invoice_393 : decode cX5_invoice 393 = .ok (.getfield 79, 3) := by decide +kernel
theorem dX5_invoice_396 : decode cX5_invoice 396 = .ok (.iconst 1, 1) := by decide +kernel
theorem dX5_invoice_397 : decode cX5_invoice 397 = .ok (.isub, 1) := by decide +kernel
theorem dX5_invoice_398 : decode cX5_invoice 398 = .ok (.ireturn, 1) := by decide +kernel
set_option maxRecDepth 20000 in
theorem ggX5_invoices_X5_plain : GoodIn wsX5_invoices wsX5_plain := goodIn_r _ [6, 7, 8, 9, 10, 11, 12, 13, 14, 15, 16, 17, 18, 19, 20, 21, 22, 23, 24, 25, 26, 27, 28, 29, 30, 31, 32, 33] (by decide +kernel) (by decide +kernel)
set_option maxRecDepth 20000 in
theorem gX5_invoices_X5_plain : GoodIn wsX5_invoices (wsV RX5 122 RX5 yX5_plain wsX5_plain) := goodIn_app (goodIn_of _ (by decide +kernel)) ggX5_invoices_X5_plain
theorem dX5_invoices_0 : decode cX5_invoices 0 = .ok (.aload_n 0, 1) := by decide +kernel
theorem dX5_invoices_1 : decode cX5_invoices 1 = .ok (.aload_n 0, 1) := by decide +kernel
theorem dX5_invoices_2 : decode cX5_invoices 2 = .ok (.getfield 79, 3) := by decide +kernel
theorem dX5_invoices_5 : decode cX5_invoices 5 = .ok (.invokevirtual 122, 3) := by decide +kernel
theorem dX5_invoices_8 : decode cX5_invoices 8 = .ok (.ireturn, 1) := by decide +kernel
set_option maxRecDepth 20000 in
theorem ggX5_total_X5_isInvoice : GoodIn wsX5_total wsX5_isInvoice := goodIn_r _ [6, 7, 8, 9, 5, 10, 16, 17, 18, 19, 20, 21, 22, 23, 24, 25, 26, 27, 28, 29, 30, 31, 32, 33, 34, 35, 36, 37, 38, 39, 40, 41] (by decide +kernel) (by decide +kernel)
set_option maxRecDepth 20000 in
theorem gX5_total_X5_isInvoice : GoodIn wsX5_total (wsV RX5 152 RX5 yX5_isInvoice wsX5_isInvoice) := goodIn_app (goodIn_of _ (by decide +kernel)) ggX5_total_X5_isInvoice
set_option maxRecDepth 20000 in
theorem ggX5_total_X5_checked : GoodIn wsX5_total wsX5_checked := goodIn_r _ [14, 15, 16, 17, 18, 19, 20, 21, 22, 23, 24, 25, 26, 27, 28, 29, 30, 31, 32, 33, 34, 35, 36, 37, 38, 39, 40, 41] (by decide +kernel) (by decide +kernel)
set_option maxRecDepth 20000 in
theorem gX5_total_X5_checked : GoodIn wsX5_total (wsV RX5 115 RX5 yX5_checked wsX5_checked) := goodIn_app (goodIn_of _ (by decide +kernel)) ggX5_total_X5_checked
theorem dX5_total_0 : decode cX5_total 0 = .ok (.aload_n 0, 1) := by decide +kernel
theorem dX5_total_1 : decode cX5_total 1 = .ok (.aload_n 0, 1) := by decide +kernel
theorem dX5_total_2 : decode cX5_total 2 = .ok (.iload_n 1, 1) := by decide +kernel
theorem dX5_total_3 : decode cX5_total 3 = .ok (.invokevirtual 152, 3) := by decide +kernel
theorem dX5_total_6 : decode cX5_total 6 = .ok (.invokevirtual 115, 3) := by decide +kernel
theorem dX5_total_9 : decode cX5_total 9 = .ok (.ifCond .le 7, 3) := by decide +kernel
theorem dX5_total_12 : decode cX5_total 12 = .ok (.iconst 0, 1) := by decide +kernel
theorem dX5_total_13 : decode cX5_total 13 = .ok (.goto 9, 3) := by decide +kernel
theorem dX5_total_16 : decode cX5_total 16 = .ok (.aload_n 0, 1) := by decide +kernel
theorem dX5_total_17 : decode cX5_total 17 = .ok (.getfield 57, 3) := by decide +kernel
theorem dX5_total_20 : decode cX5_total 20 = .ok (.iload_n 1, 1) := by decide +kernel
theorem dX5_total_21 : decode cX5_total 21 = .ok (.iaload, 1) := by decide +kernel
theorem dX5_total_22 : decode cX5_total 22 = .ok (.ireturn, 1) := by decide +kernel
set_option maxRecDepth 20000 in
theorem ggX5_totalByRules_X5_total : GoodIn wsX5_totalByRules wsX5_total := goodIn_ca (goodIn_r _ [5, 6, 7, 8, 9, 4, 10, 11, 12, 13, 14, 15, 16, 17, 18, 19, 20, 21, 22, 23, 24, 25, 26, 27, 28, 29, 30, 31, 32, 33, 34, 35, 36, 37, 38, 39, 40, 41, 42, 43, 44, 45] (by decide +kernel) (by decide +kernel)) (goodIn_sub (fun _ h => List.mem_cons_of_mem _ (List.mem_append_right _ h)) (by decide +kernel))
set_option maxRecDepth 20000 in
theorem gX5_totalByRules_X5_total : GoodIn wsX5_totalByRules (wsV RX5 155 RX5 yX5_total wsX5_total) := goodIn_app (goodIn_of _ (by decide +kernel)) ggX5_totalByRules_X5_total
theorem dX5_totalByRules_0 : decode cX5_totalByRules 0 = .ok (.aload_n 0, 1) := by decide +kernel
theorem dX5_totalByRules_1 : decode cX5_totalByRules 1 = .ok (.iload_n 1, 1) := by decide +kernel
theorem dX5_totalByRules_2 : decode cX5_totalByRules 2 = .ok (.invokevirtual 155, 3) := by decide +kernel
theorem dX5_totalByRules_5 : decode cX5_totalByRules 5 = .ok (.ireturn, 1) := by decide +kernel
set_option maxRecDepth 20000 in
theorem ggX5_credited_X5_isInvoice : GoodIn wsX5_credited wsX5_isInvoice := goodIn_r _ [6, 7, 8, 9, 5, 10, 16, 17, 18, 19, 20, 21, 22, 23, 24, 25, 26, 27, 28, 29, 30, 31, 32, 33, 34, 35, 36, 37, 38, 39, 40, 41] (by decide +kernel) (by decide +kernel)
set_option maxRecDepth 20000 in
theorem gX5_credited_X5_isInvoice : GoodIn wsX5_credited (wsV RX5 152 RX5 yX5_isInvoice wsX5_isInvoice) := goodIn_app (goodIn_of _ (by decide +kernel)) ggX5_credited_X5_isInvoice
set_option maxRecDepth 20000 in
theorem ggX5_credited_X5_checked : GoodIn wsX5_credited wsX5_checked := goodIn_r _ [14, 15, 16, 17, 18, 19, 20, 21, 22, 23, 24, 25, 26, 27, 28, 29, 30, 31, 32, 33, 34, 35, 36, 37, 38, 39, 40, 41] (by decide +kernel) (by decide +kernel)
set_option maxRecDepth 20000 in
theorem gX5_credited_X5_checked : GoodIn wsX5_credited (wsV RX5 115 RX5 yX5_checked wsX5_checked) := goodIn_app (goodIn_of _ (by decide +kernel)) ggX5_credited_X5_checked
theorem dX5_credited_0 : decode cX5_credited 0 = .ok (.aload_n 0, 1) := by decide +kernel
theorem dX5_credited_1 : decode cX5_credited 1 = .ok (.aload_n 0, 1) := by decide +kernel
theorem dX5_credited_2 : decode cX5_credited 2 = .ok (.iload_n 1, 1) := by decide +kernel
theorem dX5_credited_3 : decode cX5_credited 3 = .ok (.invokevirtual 152, 3) := by decide +kernel
theorem dX5_credited_6 : decode cX5_credited 6 = .ok (.invokevirtual 115, 3) := by decide +kernel
theorem dX5_credited_9 : decode cX5_credited 9 = .ok (.ifCond .le 7, 3) := by decide +kernel
theorem dX5_credited_12 : decode cX5_credited 12 = .ok (.iconst 0, 1) := by decide +kernel
theorem dX5_credited_13 : decode cX5_credited 13 = .ok (.goto 9, 3) := by decide +kernel
theorem dX5_credited_16 : decode cX5_credited 16 = .ok (.aload_n 0, 1) := by decide +kernel
theorem dX5_credited_17 : decode cX5_credited 17 = .ok (.getfield 60, 3) := by decide +kernel
theorem dX5_credited_20 : decode cX5_credited 20 = .ok (.iload_n 1, 1) := by decide +kernel
theorem dX5_credited_21 : decode cX5_credited 21 = .ok (.iaload, 1) := by decide +kernel
theorem dX5_credited_22 : decode cX5_credited 22 = .ok (.ireturn, 1) := by decide +kernel
set_option maxRecDepth 20000 in
theorem ggX5_items_X5_isInvoice : GoodIn wsX5_items wsX5_isInvoice := goodIn_r _ [6, 7, 8, 9, 5, 10, 16, 17, 18, 19, 20, 21, 22, 23, 24, 25, 26, 27, 28, 29, 30, 31, 32, 33, 34, 35, 36, 37, 38, 39, 40, 41] (by decide +kernel) (by decide +kernel)
set_option maxRecDepth 20000 in
theorem gX5_items_X5_isInvoice : GoodIn wsX5_items (wsV RX5 152 RX5 yX5_isInvoice wsX5_isInvoice) := goodIn_app (goodIn_of _ (by decide +kernel)) ggX5_items_X5_isInvoice
set_option maxRecDepth 20000 in
theorem ggX5_items_X5_checked : GoodIn wsX5_items wsX5_checked := goodIn_r _ [14, 15, 16, 17, 18, 19, 20, 21, 22, 23, 24, 25, 26, 27, 28, 29, 30, 31, 32, 33, 34, 35, 36, 37, 38, 39, 40, 41] (by decide +kernel) (by decide +kernel)
set_option maxRecDepth 20000 in
theorem gX5_items_X5_checked : GoodIn wsX5_items (wsV RX5 115 RX5 yX5_checked wsX5_checked) := goodIn_app (goodIn_of _ (by decide +kernel)) ggX5_items_X5_checked
theorem dX5_items_0 : decode cX5_items 0 = .ok (.aload_n 0, 1) := by decide +kernel
theorem dX5_items_1 : decode cX5_items 1 = .ok (.aload_n 0, 1) := by decide +kernel
theorem dX5_items_2 : decode cX5_items 2 = .ok (.iload_n 1, 1) := by decide +kernel
theorem dX5_items_3 : decode cX5_items 3 = .ok (.invokevirtual 152, 3) := by decide +kernel
theorem dX5_items_6 : decode cX5_items 6 = .ok (.invokevirtual 115, 3) := by decide +kernel
theorem dX5_items_9 : decode cX5_items 9 = .ok (.ifCond .le 7, 3) := by decide +kernel
theorem dX5_items_12 : decode cX5_items 12 = .ok (.iconst 0, 1) := by decide +kernel
theorem dX5_items_13 : decode cX5_items 13 = .ok (.goto 9, 3) := by decide +kernel
theorem dX5_items_16 : decode cX5_items 16 = .ok (.aload_n 0, 1) := by decide +kernel
theorem dX5_items_17 : decode cX5_items 17 = .ok (.getfield 63, 3) := by decide +kernel
theorem dX5_items_20 : decode cX5_items 20 = .ok (.iload_n 1, 1) := by decide +kernel
theorem dX5_items_21 : decode cX5_items 21 = .ok (.iaload, 1) := by decide +kernel
theorem dX5_items_22 : decode cX5_items 22 = .ok (.ireturn, 1) := by decide +kernel
set_option maxRecDepth 20000 in
theorem ggX5_invoiceOf_X5_wrongBilled : GoodIn wsX5_invoiceOf wsX5_wrongBilled := goodIn_ca (goodIn_r _ [7, 8, 9, 10, 6, 11, 12, 13, 14, 15, 16, 17, 18, 19, 20, 21, 22, 23, 24, 25, 26, 27, 28, 29, 30, 31, 32, 33, 34, 35, 36, 37, 38, 39, 40, 41, 42, 43, 44, 45, 46] (by decide +kernel) (by decide +kernel)) (goodIn_sub (fun _ h => List.mem_cons_of_mem _ (List.mem_append_right _ h)) (by decide +kernel))
set_option maxRecDepth 20000 in
theorem gX5_invoiceOf_X5_wrongBilled : GoodIn wsX5_invoiceOf (wsV RX5 141 RX5 yX5_wrongBilled wsX5_wrongBilled) := goodIn_app (goodIn_of _ (by decide +kernel)) ggX5_invoiceOf_X5_wrongBilled
theorem dX5_invoiceOf_0 : decode cX5_invoiceOf 0 = .ok (.aload_n 0, 1) := by decide +kernel
theorem dX5_invoiceOf_1 : decode cX5_invoiceOf 1 = .ok (.aload_n 0, 1) := by decide +kernel
theorem dX5_invoiceOf_2 : decode cX5_invoiceOf 2 = .ok (.iload_n 1, 1) := by decide +kernel
theorem dX5_invoiceOf_3 : decode cX5_invoiceOf 3 = .ok (.invokevirtual 141, 3) := by decide +kernel
theorem dX5_invoiceOf_6 : decode cX5_invoiceOf 6 = .ok (.putfield 66, 3) := by decide +kernel
theorem dX5_invoiceOf_9 : decode cX5_invoiceOf 9 = .ok (.aload_n 0, 1) := by decide +kernel
theorem dX5_invoiceOf_10 : decode cX5_invoiceOf 10 = .ok (.getfield 66, 3) := by decide +kernel
theorem dX5_invoiceOf_13 : decode cX5_invoiceOf 13 = .ok (.ifCond .le 7, 3) := by decide +kernel
theorem dX5_invoiceOf_16 : decode cX5_invoiceOf 16 = .ok (.iconst 0, 1) := by decide +kernel
theorem dX5_invoiceOf_17 : decode cX5_invoiceOf 17 = .ok (.goto 9, 3) := by decide +kernel
theorem dX5_invoiceOf_20 : decode cX5_invoiceOf 20 = .ok (.aload_n 0, 1) := by decide +kernel
theorem dX5_invoiceOf_21 : decode cX5_invoiceOf 21 = .ok (.getfield 51, 3) := by decide +kernel
theorem dX5_invoiceOf_24 : decode cX5_invoiceOf 24 = .ok (.iload_n 1, 1) := by decide +kernel
theorem dX5_invoiceOf_25 : decode cX5_invoiceOf 25 = .ok (.iaload, 1) := by decide +kernel
theorem dX5_invoiceOf_26 : decode cX5_invoiceOf 26 = .ok (.ireturn, 1) := by decide +kernel
theorem dX5_leftOf_0 : decode cX5_leftOf 0 = .ok (.aload_n 0, 1) := by decide +kernel
theorem dX5_leftOf_1 : decode cX5_leftOf 1 = .ok (.getfield 13, 3) := by decide +kernel
theorem dX5_leftOf_4 : decode cX5_leftOf 4 = .ok (.iload_n 1, 1) := by decide +kernel
theorem dX5_leftOf_5 : decode cX5_leftOf 5 = .ok (.iaload, 1) := by decide +kernel
theorem dX5_leftOf_6 : decode cX5_leftOf 6 = .ok (.istore_n 2, 1) := by decide +kernel
theorem dX5_leftOf_7 : decode cX5_leftOf 7 = .ok (.iconst 0, 1) := by decide +kernel
theorem dX5_leftOf_8 : decode cX5_leftOf 8 = .ok (.istore_n 3, 1) := by decide +kernel
theorem dX5_leftOf_9 : decode cX5_leftOf 9 = .ok (.iload_n 3, 1) := by decide +kernel
theorem dX5_leftOf_10 : decode cX5_leftOf 10 = .ok (.aload_n 0, 1) := by decide +kernel
theorem dX5_leftOf_11 : decode cX5_leftOf 11 = .ok (.getfield 76, 3) := by decide +kernel
theorem dX5_leftOf_14 : decode cX5_leftOf 14 = .ok (.if_icmp .ge 32, 3) := by decide +kernel
theorem dX5_leftOf_17 : decode cX5_leftOf 17 = .ok (.iload_n 2, 1) := by decide +kernel
theorem dX5_leftOf_18 : decode cX5_leftOf 18 = .ok (.aload_n 0, 1) := by decide +kernel
theorem dX5_leftOf_19 : decode cX5_leftOf 19 = .ok (.getfield 36, 3) := by decide +kernel
theorem dX5_leftOf_22 : decode cX5_leftOf 22 = .ok (.iload_n 3, 1) := by decide +kernel
theorem dX5_leftOf_23 : decode cX5_leftOf 23 = .ok (.iaload, 1) := by decide +kernel
theorem dX5_leftOf_24 : decode cX5_leftOf 24 = .ok (.iload_n 1, 1) := by decide +kernel
theorem dX5_leftOf_25 : decode cX5_leftOf 25 = .ok (.if_icmp .ne 12, 3) := by decide +kernel
theorem dX5_leftOf_28 : decode cX5_leftOf 28 = .ok (.aload_n 0, 1) := by decide +kernel
theorem dX5_leftOf_29 : decode cX5_leftOf 29 = .ok (.getfield 45, 3) := by decide +kernel
theorem dX5_leftOf_32 : decode cX5_leftOf 32 = .ok (.iload_n 3, 1) := by decide +kernel
theorem dX5_leftOf_33 : decode cX5_leftOf 33 = .ok (.iaload, 1) := by decide +kernel
theorem dX5_leftOf_34 : decode cX5_leftOf 34 = .ok (.goto 4, 3) := by decide +kernel
theorem dX5_leftOf_37 : decode cX5_leftOf 37 = .ok (.iconst 0, 1) := by decide +kernel
theorem dX5_leftOf_38 : decode cX5_leftOf 38 = .ok (.isub, 1) := by decide +kernel
theorem dX5_leftOf_39 : decode cX5_leftOf 39 = .ok (.istore_n 2, 1) := by decide +kernel
theorem dX5_leftOf_40 : decode cX5_leftOf 40 = .ok (.iinc 3 1, 3) := by decide +kernel
theorem dX5_leftOf_43 : decode cX5_leftOf 43 = .ok (.goto (-34), 3) := by decide +kernel
theorem dX5_leftOf_46 : decode cX5_leftOf 46 = .ok (.iload_n 2, 1) := by decide +kernel
theorem dX5_leftOf_47 : decode cX5_leftOf 47 = .ok (.ifCond .le 7, 3) := by decide +kernel
theorem dX5_leftOf_50 : decode cX5_leftOf 50 = .ok (.iload_n 2, 1) := by decide +kernel
theorem dX5_leftOf_51 : decode cX5_leftOf 51 = .ok (.goto 4, 3) := by decide +kernel
theorem dX5_leftOf_54 : decode cX5_leftOf 54 = .ok (.iconst 0, 1) := by decide +kernel
theorem dX5_leftOf_55 : decode cX5_leftOf 55 = .ok (.ireturn, 1) := by decide +kernel
set_option maxRecDepth 20000 in
theorem ggX5_left_X5_isTask : GoodIn wsX5_left wsX5_isTask := goodIn_r _ [5, 6, 7, 8, 4, 9, 23, 24, 25, 26, 27, 28, 29, 30, 31, 32, 33, 34, 35, 36, 37, 38, 39, 40, 41, 42, 43, 44, 45, 46, 47, 48] (by decide +kernel) (by decide +kernel)
set_option maxRecDepth 20000 in
theorem gX5_left_X5_isTask : GoodIn wsX5_left (wsV RX5 95 RX5 yX5_isTask wsX5_isTask) := goodIn_app (goodIn_of _ (by decide +kernel)) ggX5_left_X5_isTask
set_option maxRecDepth 20000 in
theorem ggX5_left_X5_checked : GoodIn wsX5_left wsX5_checked := goodIn_r _ [13, 14, 23, 24, 25, 26, 27, 28, 29, 30, 31, 32, 33, 34, 35, 36, 37, 38, 39, 40, 41, 42, 43, 44, 45, 46, 47, 48] (by decide +kernel) (by decide +kernel)
set_option maxRecDepth 20000 in
theorem gX5_left_X5_checked : GoodIn wsX5_left (wsV RX5 115 RX5 yX5_checked wsX5_checked) := goodIn_app (goodIn_of _ (by decide +kernel)) ggX5_left_X5_checked
set_option maxRecDepth 20000 in
theorem ggX5_left_X5_leftOf : GoodIn wsX5_left wsX5_leftOf := goodIn_ca (goodIn_r _ [18, 19, 20, 21, 22, 23, 24, 25, 26, 27, 28, 29, 30, 31, 32, 33, 34, 35, 36, 37, 38, 39, 40, 41, 42, 43, 44, 45, 46, 47, 48] (by decide +kernel) (by decide +kernel)) (goodIn_sub (fun _ h => List.mem_cons_of_mem _ (List.mem_append_right _ h)) (by decide +kernel))
set_option maxRecDepth 20000 in
theorem gX5_left_X5_leftOf : GoodIn wsX5_left (wsV RX5 158 RX5 yX5_leftOf wsX5_leftOf) := goodIn_app (goodIn_of _ (by decide +kernel)) ggX5_left_X5_leftOf
theorem dX5_left_0 : decode cX5_left 0 = .ok (.aload_n 0, 1) := by decide +kernel
theorem dX5_left_1 : decode cX5_left 1 = .ok (.aload_n 0, 1) := by decide +kernel
theorem dX5_left_2 : decode cX5_left 2 = .ok (.iload_n 1, 1) := by decide +kernel
theorem dX5_left_3 : decode cX5_left 3 = .ok (.invokevirtual 95, 3) := by decide +kernel
theorem dX5_left_6 : decode cX5_left 6 = .ok (.invokevirtual 115, 3) := by decide +kernel
theorem dX5_left_9 : decode cX5_left 9 = .ok (.ifCond .le 7, 3) := by decide +kernel
theorem dX5_left_12 : decode cX5_left 12 = .ok (.iconst 0, 1) := by decide +kernel
theorem dX5_left_13 : decode cX5_left 13 = .ok (.goto 8, 3) := by decide +kernel
theorem dX5_left_16 : decode cX5_left 16 = .ok (.aload_n 0, 1) := by decide +kernel
theorem dX5_left_17 : decode cX5_left 17 = .ok (.iload_n 1, 1) := by decide +kernel
theorem dX5_left_18 : decode cX5_left 18 = .ok (.invokevirtual 158, 3) := by decide +kernel
theorem dX5_left_21 : decode cX5_left 21 = .ok (.ireturn, 1) := by decide +kernel
set_option maxRecDepth 20000 in
theorem ggX5_lately_X5_in : GoodIn wsX5_lately wsX5_in := goodIn_r _ [7] (by decide +kernel) (by decide +kernel)
set_option maxRecDepth 20000 in
theorem gX5_lately_X5_in : GoodIn wsX5_lately (va_wsS RX5 91 yX5_in wsX5_in) := goodIn_app (goodIn_of _ (by decide +kernel)) ggX5_lately_X5_in
theorem dX5_lately_0 : decode cX5_lately 0 = .ok (.iconst 0, 1) := by decide +kernel
theorem dX5_lately_1 : decode cX5_lately 1 = .ok (.istore_n 2, 1) := by decide +kernel
theorem dX5_lately_2 : decode cX5_lately 2 = .ok (.iconst 0, 1) := by decide +kernel
theorem dX5_lately_3 : decode cX5_lately 3 = .ok (.istore_n 3, 1) := by decide +kernel
theorem dX5_lately_4 : decode cX5_lately 4 = .ok (.iload_n 3, 1) := by decide +kernel
theorem dX5_lately_5 : decode cX5_lately 5 = .ok (.aload_n 0, 1) := by decide +kernel
theorem dX5_lately_6 : decode cX5_lately 6 = .ok (.getfield 76, 3) := by decide +kernel
theorem dX5_lately_9 : decode cX5_lately 9 = .ok (.if_icmp .ge 38, 3) := by decide +kernel
theorem dX5_lately_12 : decode cX5_lately 12 = .ok (.iload_n 2, 1) := by decide +kernel
theorem dX5_lately_13 : decode cX5_lately 13 = .ok (.aload_n 0, 1) := by decide +kernel
theorem dX5_lately_14 : decode cX5_lately 14 = .ok (.getfield 42, 3) := by decide +kernel
theorem dX5_lately_17 : decode cX5_lately 17 = .ok (.iload_n 3, 1) := by decide +kernel
theorem dX5_lately_18 : decode cX5_lately 18 = .ok (.iaload, 1) := by decide +kernel
theorem dX5_lately_19 : decode cX5_lately 19 = .ok (.iload_n 1, 1) := by decide +kernel
theorem dX5_lately_20 : decode cX5_lately 20 = .ok (.iconst 2, 1) := by decide +kernel
theorem dX5_lately_21 : decode cX5_lately 21 = .ok (.isub, 1) := by decide +kernel
theorem dX5_lately_22 : decode cX5_lately 22 = .ok (.iload_n 1, 1) := by decide +kernel
theorem dX5_lately_23 : decode cX5_lately 23 = .ok (.invokestatic 91, 3) := by decide +kernel
theorem dX5_lately_26 : decode cX5_lately 26 = .ok (.ifCond .eq 12, 3) := by decide +kernel
theorem dX5_lately_29 : decode cX5_lately 29 = .ok (.aload_n 0, 1) := by decide +kernel
theorem dX5_lately_30 : decode cX5_lately 30 = .ok (.getfield 45, 3) := by decide +kernel
theorem dX5_lately_33 : decode cX5_lately 33 = .ok (.iload_n 3, 1) := by decide +kernel
theorem dX5_lately_34 : decode cX5_lately 34 = .ok (.iaload, 1) := by decide +kernel
theorem dX5_lately_35 : decode cX5_lately 35 = .ok (.goto 4, 3) := by decide +kernel
theorem dX5_lately_38 : decode cX5_lately 38 = .ok (.iconst 0, 1) := by decide +kernel
theorem dX5_lately_39 : decode cX5_lately 39 = .ok (.iadd, 1) := by decide +kernel
theorem dX5_lately_40 : decode cX5_lately 40 = .ok (.istore_n 2, 1) := by decide +kernel
theorem dX5_lately_41 : decode cX5_lately 41 = .ok (.iinc 3 1, 3) := by decide +kernel
theorem dX5_lately_44 : decode cX5_lately 44 = .ok (.goto (-40), 3) := by decide +kernel
theorem dX5_lately_47 : decode cX5_lately 47 = .ok (.iload_n 2, 1) := by decide +kernel
theorem dX5_lately_48 : decode cX5_lately 48 = .ok (.ireturn, 1) := by decide +kernel
set_option maxRecDepth 20000 in
theorem ggX5_pace_X5_isWeek : GoodIn wsX5_pace wsX5_isWeek := goodIn_r _ [5, 6, 7, 4, 8] (by decide +kernel) (by decide +kernel)
set_option maxRecDepth 20000 in
theorem gX5_pace_X5_isWeek : GoodIn wsX5_pace (va_wsS RX5 129 yX5_isWeek wsX5_isWeek) := goodIn_app (goodIn_of _ (by decide +kernel)) ggX5_pace_X5_isWeek
set_option maxRecDepth 20000 in
theorem ggX5_pace_X5_checked : GoodIn wsX5_pace wsX5_checked := goodIn_r _ [12, 13, 21, 22, 23, 24, 25, 26, 27, 28, 29, 30, 31, 32, 33, 34, 35, 36, 37, 38, 39, 40, 41, 42, 43, 44, 45, 46] (by decide +kernel) (by decide +kernel)
set_option maxRecDepth 20000 in
theorem gX5_pace_X5_checked : GoodIn wsX5_pace (wsV RX5 115 RX5 yX5_checked wsX5_checked) := goodIn_app (goodIn_of _ (by decide +kernel)) ggX5_pace_X5_checked
set_option maxRecDepth 20000 in
theorem ggX5_pace_X5_lately : GoodIn wsX5_pace wsX5_lately := goodIn_ca (goodIn_r _ [17, 18, 19, 20, 6, 7, 4, 8, 21, 22, 23, 24, 25, 26, 27, 28, 29, 30, 31, 32, 33, 34, 35, 36, 37, 38, 39, 40, 41, 42, 43, 44, 45, 46] (by decide +kernel) (by decide +kernel)) (goodIn_sub (fun _ h => List.mem_cons_of_mem _ (List.mem_append_right _ h)) (by decide +kernel))
set_option maxRecDepth 20000 in
theorem gX5_pace_X5_lately : GoodIn wsX5_pace (wsV RX5 161 RX5 yX5_lately wsX5_lately) := goodIn_app (goodIn_of _ (by decide +kernel)) ggX5_pace_X5_lately
theorem dX5_pace_0 : decode cX5_pace 0 = .ok (.aload_n 0, 1) := by decide +kernel
theorem dX5_pace_1 : decode cX5_pace 1 = .ok (.iload_n 1, 1) := by decide +kernel
theorem dX5_pace_2 : decode cX5_pace 2 = .ok (.invokestatic 129, 3) := by decide +kernel
theorem dX5_pace_5 : decode cX5_pace 5 = .ok (.invokevirtual 115, 3) := by decide +kernel
theorem dX5_pace_8 : decode cX5_pace 8 = .ok (.ifCond .le 7, 3) := by decide +kernel
theorem dX5_pace_11 : decode cX5_pace 11 = .ok (.fconst 0, 1) := by decide +kernel
theorem dX5_pace_12 : decode cX5_pace 12 = .ok (.goto 12, 3) := by decide +kernel
theorem dX5_pace_15 : decode cX5_pace 15 = .ok (.aload_n 0, 1) := by decide +kernel
theorem dX5_pace_16 : decode cX5_pace 16 = .ok (.iload_n 1, 1) := by decide +kernel
theorem dX5_pace_17 : decode cX5_pace 17 = .ok (.invokevirtual 161, 3) := by decide +kernel
theorem dX5_pace_20 : decode cX5_pace 20 = .ok (.i2f, 1) := by decide +kernel
theorem dX5_pace_21 : decode cX5_pace 21 = .ok (.ldc 164, 2) := by decide +kernel
theorem dX5_pace_23 : decode cX5_pace 23 = .ok (.fdiv, 1) := by decide +kernel
theorem dX5_pace_24 : decode cX5_pace 24 = .ok (.freturn, 1) := by decide +kernel
set_option maxRecDepth 20000 in
theorem ggX5_forecast_X5_isTask : GoodIn wsX5_forecast wsX5_isTask := goodIn_r _ [6, 7, 8, 9, 5, 10, 27, 28, 29, 30, 31, 32, 33, 34, 35, 36, 37, 38, 39, 40, 41, 42, 43, 44, 45, 46, 47, 48, 49, 50, 51, 52] (by decide +kernel) (by decide +kernel)
set_option maxRecDepth 20000 in
theorem gX5_forecast_X5_isTask : GoodIn wsX5_forecast (wsV RX5 95 RX5 yX5_isTask wsX5_isTask) := goodIn_app (goodIn_of _ (by decide +kernel)) ggX5_forecast_X5_isTask
set_option maxRecDepth 20000 in
theorem ggX5_forecast_X5_isWeek : GoodIn wsX5_forecast wsX5_isWeek := goodIn_r _ [13, 8, 9, 5, 10] (by decide +kernel) (by decide +kernel)
set_option maxRecDepth 20000 in
theorem gX5_forecast_X5_isWeek : GoodIn wsX5_forecast (va_wsS RX5 129 yX5_isWeek wsX5_isWeek) := goodIn_app (goodIn_of _ (by decide +kernel)) ggX5_forecast_X5_isWeek
set_option maxRecDepth 20000 in
theorem ggX5_forecast_X5_lately : GoodIn wsX5_forecast wsX5_lately := goodIn_ca (goodIn_r _ [17, 18, 19, 20, 8, 9, 5, 10, 27, 28, 29, 30, 31, 32, 33, 34, 35, 36, 37, 38, 39, 40, 41, 42, 43, 44, 45, 46, 47, 48, 49, 50, 51, 52] (by decide +kernel) (by decide +kernel)) (goodIn_sub (fun _ h => List.mem_cons_of_mem _ (List.mem_append_right _ h)) (by decide +kernel))
set_option maxRecDepth 20000 in
theorem gX5_forecast_X5_lately : GoodIn wsX5_forecast (wsV RX5 161 RX5 yX5_lately wsX5_lately) := goodIn_app (goodIn_of _ (by decide +kernel)) ggX5_forecast_X5_lately
set_option maxRecDepth 20000 in
theorem ggX5_forecast_X5_leftOf : GoodIn wsX5_forecast wsX5_leftOf := goodIn_ca (goodIn_r _ [24, 25, 18, 26, 20, 27, 28, 29, 30, 31, 32, 33, 34, 35, 36, 37, 38, 39, 40, 41, 42, 43, 44, 45, 46, 47, 48, 49, 50, 51, 52] (by decide +kernel) (by decide +kernel)) (goodIn_sub (fun _ h => List.mem_cons_of_mem _ (List.mem_append_right _ h)) (by decide +kernel))
set_option maxRecDepth 20000 in
theorem gX5_forecast_X5_leftOf : GoodIn wsX5_forecast (wsV RX5 158 RX5 yX5_leftOf wsX5_leftOf) := goodIn_app (goodIn_of _ (by decide +kernel)) ggX5_forecast_X5_leftOf
theorem dX5_forecast_0 : decode cX5_forecast 0 = .ok (.aload_n 0, 1) := by decide +kernel
theorem dX5_forecast_1 : decode cX5_forecast 1 = .ok (.aload_n 0, 1) := by decide +kernel
theorem dX5_forecast_2 : decode cX5_forecast 2 = .ok (.iload_n 1, 1) := by decide +kernel
theorem dX5_forecast_3 : decode cX5_forecast 3 = .ok (.invokevirtual 95, 3) := by decide +kernel
theorem dX5_forecast_6 : decode cX5_forecast 6 = .ok (.ifCond .ne 7, 3) := by decide +kernel
theorem dX5_forecast_9 : decode cX5_forecast 9 = .ok (.iconst 1, 1) := by decide +kernel
theorem dX5_forecast_10 : decode cX5_forecast 10 = .ok (.goto 27, 3) := by decide +kernel
theorem dX5_forecast_13 : decode cX5_forecast 13 = .ok (.iload_n 2, 1) := by decide +kernel
theorem dX5_forecast_14 : decode cX5_forecast 14 = .ok (.invokestatic 129, 3) := by decide +kernel
theorem dX5_forecast_17 : decode cX5_forecast 17 = .ok (.ifCond .ne 7, 3) := by decide +kernel
theorem dX5_forecast_20 : decode cX5_forecast 20 = .ok (.iconst 2, 1) := by decide +kernel
theorem dX5_forecast_21 : decode cX5_forecast 21 = .ok (.goto 16, 3) := by decide +kernel
theorem dX5_forecast_24 : decode cX5_forecast 24 = .ok (.aload_n 0, 1) := by decide +kernel
theorem dX5_forecast_25 : decode cX5_forecast 25 = .ok (.iload_n 2, 1) := by decide +kernel
theorem dX5_forecast_26 : decode cX5_forecast 26 = .ok (.invokevirtual 161, 3) := by decide +kernel
theorem dX5_forecast_29 : decode cX5_forecast 29 = .ok (.ifCond .ne 7, 3) := by decide +kernel
theorem dX5_forecast_32 : decode cX5_forecast 32 = .ok (.iconst 3, 1) := by decide +kernel
theorem dX5_forecast_33 : decode cX5_forecast 33 = .ok (.goto 4, 3) := by decide +kernel
theorem dX5_forecast_36 : decode cX5_forecast 36 = .ok (.iconst 0, 1) := by decide +kernel
theorem dX5_forecast_37 : decode cX5_forecast 37 = .ok (.putfield 66, 3) := by decide +kernel
theorem dX5_forecast_40 : decode cX5_forecast 40 = .ok (.aload_n 0, 1) := by decide +kernel
theorem dX5_forecast_41 : decode cX5_forecast 41 = .ok (.getfield 66, 3) := by decide +kernel
theorem dX5_forecast_44 : decode cX5_forecast 44 = .ok (.ifCond .le 7, 3) := by decide +kernel
theorem dX5_forecast_47 : decode cX5_forecast 47 = .ok (.iconst 0, 1) := by decide +kernel
theorem dX5_forecast_48 : decode cX5_forecast 48 = .ok (.goto 24, 3) := by decide +kernel
theorem dX5_forecast_51 : decode cX5_forecast 51 = .ok (.iconst 3, 1) := by decide +kernel
theorem dX5_forecast_52 : decode cX5_forecast 52 = .ok (.aload_n 0, 1) := by decide +kernel
theorem dX5_forecast_53 : decode cX5_forecast 53 = .ok (.iload_n 1, 1) := by decide +kernel
theorem dX5_forecast_54 : decode cX5_forecast 54 = .ok (.invokevirtual 158, 3) := by decide +kernel
theorem dX5_forecast_57 : decode cX5_forecast 57 = .ok (.imul, 1) := by decide +kernel
theorem dX5_forecast_58 : decode cX5_forecast 58 = .ok (.aload_n 0, 1) := by decide +kernel
theorem dX5_forecast_59 : decode cX5_forecast 59 = .ok (.iload_n 2, 1) := by decide +kernel
theorem dX5_forecast_60 : decode cX5_forecast 60 = .ok (.invokevirtual 161, 3) := by decide +kernel
theorem dX5_forecast_63 : decode cX5_forecast 63 = .ok (.iadd, 1) := by decide +kernel
theorem dX5_forecast_64 : decode cX5_forecast 64 = .ok (.iconst 1, 1) := by decide +kernel
theorem dX5_forecast_65 : decode cX5_forecast 65 = .ok (.isub, 1) := by decide +kernel
theorem dX5_forecast_66 : decode cX5_forecast 66 = .ok (.aload_n 0, 1) := by decide +kernel
theorem dX5_forecast_67 : decode cX5_forecast 67 = .ok (.iload_n 2, 1) := by decide +kernel
theorem dX5_forecast_68 : decode cX5_forecast 68 = .ok (.invokevirtual 161, 3) := by decide +kernel
theorem dX5_forecast_71 : decode cX5_forecast 71 = .ok (.idiv, 1) := by decide +kernel
theorem dX5_forecast_72 : decode cX5_forecast 72 = .ok (.ireturn, 1) := by decide +kernel
theorem dX5_due_0 : decode cX5_due 0 = .ok (.aload_n 0, 1) := by decide +kernel
theorem dX5_due_1 : decode cX5_due 1 = .ok (.iconst 0, 1) := by decide +kernel
theorem dX5_due_2 : decode cX5_due 2 = .ok (.putfield 66, 3) := by decide +kernel
theorem dX5_due_5 : decode cX5_due 5 = .ok (.lconst 0, 1) := by decide +kernel
theorem dX5_due_6 : decode cX5_due 6 = .ok (.lstore_n 1, 1) := by decide +kernel
theorem dX5_due_7 : decode cX5_due 7 = .ok (.iconst 0, 1) := by decide +kernel
theorem dX5_due_8 : decode cX5_due 8 = .ok (.istore_n 3, 1) := by decide +kernel
theorem dX5_due_9 : decode cX5_due 9 = .ok (.iload_n 3, 1) := by decide +kernel
theorem dX5_due_10 : decode cX5_due 10 = .ok (.aload_n 0, 1) := by decide +kernel
theorem dX5_due_11 : decode cX5_due 11 = .ok (.getfield 79, 3) := by decide +kernel
theorem dX5_due_14 : decode cX5_due 14 = .ok (.if_icmp .ge 26, 3) := by decide +kernel
theorem dX5_due_17 : decode cX5_due 17 = .ok (.lload_n 1, 1) := by decide +kernel
theorem dX5_due_18 : decode cX5_due 18 = .ok (.aload_n 0, 1) := by decide +kernel
theorem dX5_due_19 : decode cX5_due 19 = .ok (.getfield 57, 3) := by decide +kernel
theorem dX5_due_22 : decode cX5_due 22 = .ok (.iload_n 3, 1) := by decide +kernel
theorem dX5_due_23 : decode cX5_due 23 = .ok (.iaload, 1) := by decide +kernel
theorem dX5_due_24 : decode cX5_due 24 = .ok (.aload_n 0, 1) := by decide +kernel
theorem dX5_due_25 : decode cX5_due 25 = .ok (.getfield 60, 3) := by decide +kernel
theorem dX5_due_28 : decode cX5_due 28 = .ok (.iload_n 3, 1) := by decide +kernel
theorem dX5_due_29 : decode cX5_due 29 = .ok (.iaload, 1) := by decide +kernel
theorem dX5_due_30 : decode cX5_due 30 = .ok (.isub, 1) := by decide +kernel
theorem dX5_due_31 : decode cX5_due 31 = .ok (.i2l, 1) := by decide +kernel
theorem dX5_due_32 : decode cX5_due 32 = .ok (.ladd, 1) := by decide +kernel
theorem dX5_due_33 : decode cX5_due 33 = .ok (.lstore_n 1, 1) := by decide +kernel
theorem dX5_due_34 : decode cX5_due 34 = .ok (.iinc 3 1, 3) := by decide +kernel
theorem dX5_due_37 : decode cX5_due 37 = .ok (.goto (-28), 3) := by decide +kernel
theorem dX5_due_40 : decode cX5_due 40 = .ok (.lload_n 1, 1) := by decide +kernel
theorem dX5_due_41 : decode cX5_due 41 = .ok (.lreturn, 1) := by decide +kernel
set_option maxRecDepth 20000 in
theorem ggX5_meanPrice_X5_checked : GoodIn wsX5_meanPrice wsX5_checked := goodIn_r _ [9, 10, 11, 12, 13, 14, 15, 16, 17, 18, 19, 20, 21, 22, 23, 24, 25, 26, 27, 28, 29, 30, 31, 32, 33, 34, 35, 36] (by decide +kernel) (by decide +kernel)
set_option maxRecDepth 20000 in
theorem gX5_meanPrice_X5_checked : GoodIn wsX5_meanPrice (wsV RX5 115 RX5 yX5_checked wsX5_checked) := goodIn_app (goodIn_of _ (by decide +kernel)) ggX5_meanPrice_X5_checked
theorem dX5_meanPrice_0 : decode cX5_meanPrice 0 = .ok (.iconst 0, 1) := by decide +kernel
theorem dX5_meanPrice_1 : decode cX5_meanPrice 1 = .ok (.istore_n 1, 1) := by decide +kernel
theorem dX5_meanPrice_2 : decode cX5_meanPrice 2 = .ok (.iconst 0, 1) := by decide +kernel
theorem dX5_meanPrice_3 : decode cX5_meanPrice 3 = .ok (.istore_n 2, 1) := by decide +kernel
theorem dX5_meanPrice_4 : decode cX5_meanPrice 4 = .ok (.iconst 0, 1) := by decide +kernel
theorem dX5_meanPrice_5 : decode cX5_meanPrice 5 = .ok (.istore_n 3, 1) := by decide +kernel
theorem dX5_meanPrice_6 : decode cX5_meanPrice 6 = .ok (.iload_n 3, 1) := by decide +kernel
theorem dX5_meanPrice_7 : decode cX5_meanPrice 7 = .ok (.aload_n 0, 1) := by decide +kernel
theorem dX5_meanPrice_8 : decode cX5_meanPrice 8 = .ok (.getfield 76, 3) := by decide +kernel
theorem dX5_meanPrice_11 : decode cX5_meanPrice 11 = .ok (.if_icmp .ge 41, 3) := by decide +kernel
theorem dX5_meanPrice_14 : decode cX5_meanPrice 14 = .ok (.aload_n 0, 1) := by decide +kernel
theorem dX5_meanPrice_15 : decode cX5_meanPrice 15 = .ok (.getfield 23, 3) := by decide +kernel
theorem dX5_meanPrice_18 : decode cX5_meanPrice 18 = .ok (.iload_n 3, 1) := by decide +kernel
theorem dX5_meanPrice_19 : decode cX5_meanPrice 19 = .ok (.caload, 1) := by decide +kernel
theorem dX5_meanPrice_20 : decode cX5_meanPrice 20 = .ok (.bipush 98, 2) := by decide +kernel
theorem dX5_meanPrice_22 : decode cX5_meanPrice 22 = .ok (.if_icmp .eq 6, 3) := by decide +kernel
theorem dX5_meanPrice_25 : decode cX5_meanPrice 25 = .ok (.goto 21, 3) := by decide +kernel
theorem dX5_meanPrice_28 : decode cX5_meanPrice 28 = .ok (.iload_n 1, 1) := by decide +kernel
theorem dX5_meanPrice_29 : decode cX5_meanPrice 29 = .ok (.aload_n 0, 1) := by decide +kernel
theorem dX5_meanPrice_30 : decode cX5_meanPrice 30 = .ok (.getfield 48, 3) := by decide +kernel
theorem dX5_meanPrice_33 : decode cX5_meanPrice 33 = .ok (.iload_n 3, 1) := by decide +kernel
theorem dX5_meanPrice_34 : decode cX5_meanPrice 34 = .ok (.iaload, 1) := by decide +kernel
theorem dX5_meanPrice_35 : decode cX5_meanPrice 35 = .ok (.iadd, 1) := by decide +kernel
theorem dX5_meanPrice_36 : decode cX5_meanPrice 36 = .ok (.istore_n 1, 1) := by decide +kernel
theorem dX5_meanPrice_37 : decode cX5_meanPrice 37 = .ok (.iload_n 2, 1) := by decide +kernel
theorem dX5_meanPrice_38 : decode cX5_meanPrice 38 = .ok (.aload_n 0, 1) := by decide +kernel
theorem dX5_meanPrice_39 : decode cX5_meanPrice 39 = .ok (.getfield 45, 3) := by decide +kernel
theorem dX5_meanPrice_42 : decode cX5_meanPrice 42 = .ok (.iload_n 3, 1) := by decide +kernel
theorem dX5_meanPrice_43 : decode cX5_meanPrice 43 = .ok (.iaload, 1) := by decide +kernel
theorem dX5_meanPrice_44 : decode cX5_meanPrice 44 = .ok (.iadd, 1) := by decide +kernel
theorem dX5_meanPrice_45 : decode cX5_meanPrice 45 = .ok (.istore_n 2, 1) := by decide +kernel
theorem dX5_meanPrice_46 : decode cX5_meanPrice 46 = .ok (.iinc 3 1, 3) := by decide +kernel
theorem dX5_meanPrice_49 : decode cX5_meanPrice 49 = .ok (.goto (-43), 3) := by decide +kernel
theorem dX5_meanPrice_52 : decode cX5_meanPrice 52 = .ok (.aload_n 0, 1) := by decide +kernel
theorem dX5_meanPrice_53 : decode cX5_meanPrice 53 = .ok (.iload_n 2, 1) := by decide +kernel
theorem dX5_meanPrice_54 : decode cX5_meanPrice 54 = .ok (.ifCond .le 7, 3) := by decide +kernel
theorem dX5_meanPrice_57 : decode cX5_meanPrice 57 = .ok (.iconst 1, 1) := by decide +kernel
theorem dX5_meanPrice_58 : decode cX5_meanPrice 58 = .ok (.goto 4, 3) := by decide +kernel
theorem dX5_meanPrice_61 : decode cX5_meanPrice 61 = .ok (.iconst 0, 1) := by decide +kernel
theorem dX5_meanPrice_62 : decode cX5_meanPrice 62 = .ok (.invokevirtual 115, 3) := by decide +kernel
theorem dX5_meanPrice_65 : decode cX5_meanPrice 65 = .ok (.ifCond .le 7, 3) := by decide +kernel
theorem dX5_meanPrice_68 : decode cX5_meanPrice 68 = .ok (.dconst 0, 1) := by decide +kernel
theorem dX5_meanPrice_69 : decode cX5_meanPrice 69 = .ok (.goto 8, 3) := by decide +kernel
theorem dX5_meanPrice_72 : decode cX5_meanPrice 72 = .ok (.iload_n 1, 1) := by decide +kernel
theorem dX5_meanPrice_73 : decode cX5_meanPrice 73 = .ok (.i2d, 1) := by decide +kernel
theorem dX5_meanPrice_74 : decode cX5_meanPrice 74 = .ok (.iload_n 2, 1) := by decide +kernel
theorem dX5_meanPrice_75 : decode cX5_meanPrice 75 = .ok (.i2d, 1) := by decide +kernel
theorem dX5_meanPrice_76 : decode cX5_meanPrice 76 = .ok (.ddiv, 1) := by decide +kernel
theorem dX5_meanPrice_77 : decode cX5_meanPrice 77 = .ok (.dreturn, 1) := by decide +kernel
theorem dX5_isSettled_0 : decode cX5_isSettled 0 = .ok (.aload_n 0, 1) := by decide +kernel
theorem dX5_isSettled_1 : decode cX5_isSettled 1 = .ok (.iconst 0, 1) := by decide +kernel
theorem dX5_isSettled_2 : decode cX5_isSettled 2 = .ok (.putfield 66, 3) := by decide +kernel
theorem dX5_isSettled_5 : decode cX5_isSettled 5 = .ok (.iconst 1, 1) := by decide +kernel
theorem dX5_isSettled_6 : decode cX5_isSettled 6 = .ok (.ireturn, 1) := by decide +kernel
theorem dJx00060_init_a7421_0 : decode cJx00060_init_a7421 0 = .ok (.aload_n 0, 1) := by decide +kernel
theorem dJx00060_init_a7421_1 : decode cJx00060_init_a7421 1 = .ok (.aload_n 1, 1) := by decide +kernel
theorem dJx00060_init_a7421_2 : decode cJx00060_init_a7421 2 = .ok (.invokespecial 7, 3) := by decide +kernel
theorem dJx00060_init_a7421_5 : decode cJx00060_init_a7421 5 = .ok (.return_, 1) := by decide +kernel
theorem dJ6_bitCount_0f7a4_0 : decode cJ6_bitCount_0f7a4 0 = .ok (.iload_n 0, 1) := by decide +kernel
theorem dJ6_bitCount_0f7a4_1 : decode cJ6_bitCount_0f7a4 1 = .ok (.iload_n 0, 1) := by decide +kernel
theorem dJ6_bitCount_0f7a4_2 : decode cJ6_bitCount_0f7a4 2 = .ok (.iconst 1, 1) := by decide +kernel
theorem dJ6_bitCount_0f7a4_3 : decode cJ6_bitCount_0f7a4 3 = .ok (.iushr, 1) := by decide +kernel
theorem dJ6_bitCount_0f7a4_4 : decode cJ6_bitCount_0f7a4 4 = .ok (.ldc_w 265, 3) := by decide +kernel
theorem dJ6_bitCount_0f7a4_7 : decode cJ6_bitCount_0f7a4 7 = .ok (.iand, 1) := by decide +kernel
theorem dJ6_bitCount_0f7a4_8 : decode cJ6_bitCount_0f7a4 8 = .ok (.isub, 1) := by decide +kernel
theorem dJ6_bitCount_0f7a4_9 : decode cJ6_bitCount_0f7a4 9 = .ok (.istore_n 0, 1) := by decide +kernel
theorem dJ6_bitCount_0f7a4_10 : decode cJ6_bitCount_0f7a4 10 = .ok (.iload_n 0, 1) := by decide +kernel
theorem dJ6_bitCount_0f7a4_11 : decode cJ6_bitCount_0f7a4 11 = .ok (.ldc_w 266, 3) := by decide +kernel
theorem dJ6_bitCount_0f7a4_14 : decode cJ6_bitCount_0f7a4 14 = .ok (.iand, 1) := by decide +kernel
theorem dJ6_bitCount_0f7a4_15 : decode cJ6_bitCount_0f7a4 15 = .ok (.iload_n 0, 1) := by decide +kernel
theorem dJ6_bitCount_0f7a4_16 : decode cJ6_bitCount_0f7a4 16 = .ok (.iconst 2, 1) := by decide +kernel
theorem dJ6_bitCount_0f7a4_17 : decode cJ6_bitCount_0f7a4 17 = .ok (.iushr, 1) := by decide +kernel
theorem dJ6_bitCount_0f7a4_18 : decode cJ6_bitCount_0f7a4 18 = .ok (.ldc_w 266, 3) := by decide +kernel
theorem dJ6_bitCount_0f7a4_21 : decode cJ6_bitCount_0f7a4 21 = .ok (.iand, 1) := by decide +kernel
theorem dJ6_bitCount_0f7a4_22 : decode cJ6_bitCount_0f7a4 22 = .ok (.iadd, 1) := by decide +kernel
theorem dJ6_bitCount_0f7a4_23 : decode cJ6_bitCount_0f7a4 23 = .ok (.istore_n 0, 1) := by decide +kernel
theorem dJ6_bitCount_0f7a4_24 : decode cJ6_bitCount_0f7a4 24 = .ok (.iload_n 0, 1) := by decide +kernel
theorem dJ6_bitCount_0f7a4_25 : decode cJ6_bitCount_0f7a4 25 = .ok (.iload_n 0, 1) := by decide +kernel
theorem dJ6_bitCount_0f7a4_26 : decode cJ6_bitCount_0f7a4 26 = .ok (.iconst 4, 1) := by decide +kernel
theorem dJ6_bitCount_0f7a4_27 : decode cJ6_bitCount_0f7a4 27 = .ok (.iushr, 1) := by decide +kernel
theorem dJ6_bitCount_0f7a4_28 : decode cJ6_bitCount_0f7a4 28 = .ok (.iadd, 1) := by decide +kernel
theorem dJ6_bitCount_0f7a4_29 : decode cJ6_bitCount_0f7a4 29 = .ok (.ldc_w 267, 3) := by decide +kernel
theorem dJ6_bitCount_0f7a4_32 : decode cJ6_bitCount_0f7a4 32 = .ok (.iand, 1) := by decide +kernel
theorem dJ6_bitCount_0f7a4_33 : decode cJ6_bitCount_0f7a4 33 = .ok (.istore_n 0, 1) := by decide +kernel
theorem dJ6_bitCount_0f7a4_34 : decode cJ6_bitCount_0f7a4 34 = .ok (.iload_n 0, 1) := by decide +kernel
theorem dJ6_bitCount_0f7a4_35 : decode cJ6_bitCount_0f7a4 35 = .ok (.iload_n 0, 1) := by decide +kernel
theorem dJ6_bitCount_0f7a4_36 : decode cJ6_bitCount_0f7a4 36 = .ok (.bipush 8, 2) := by decide +kernel
theorem dJ6_bitCount_0f7a4_38 : decode cJ6_bitCount_0f7a4 38 = .ok (.iushr, 1) := by decide +kernel
theorem dJ6_bitCount_0f7a4_39 : decode cJ6_bitCount_0f7a4 39 = .ok (.iadd, 1) := by decide +kernel
theorem dJ6_bitCount_0f7a4_40 : decode cJ6_bitCount_0f7a4 40 = .ok (.istore_n 0, 1) := by decide +kernel
theorem dJ6_bitCount_0f7a4_41 : decode cJ6_bitCount_0f7a4 41 = .ok (.iload_n 0, 1) := by decide +kernel
theorem dJ6_bitCount_0f7a4_42 : decode cJ6_bitCount_0f7a4 42 = .ok (.iload_n 0, 1) := by decide +kernel
theorem dJ6_bitCount_0f7a4_43 : decode cJ6_bitCount_0f7a4 43 = .ok (.bipush 16, 2) := by decide +kernel
theorem dJ6_bitCount_0f7a4_45 : decode cJ6_bitCount_0f7a4 45 = .ok (.iushr, 1) := by decide +kernel
theorem dJ6_bitCount_0f7a4_46 : decode cJ6_bitCount_0f7a4 46 = .ok (.iadd, 1) := by decide +kernel
theorem dJ6_bitCount_0f7a4_47 : decode cJ6_bitCount_0f7a4 47 = .ok (.istore_n 0, 1) := by decide +kernel
theorem dJ6_bitCount_0f7a4_48 : decode cJ6_bitCount_0f7a4 48 = .ok (.iload_n 0, 1) := by decide +kernel
theorem dJ6_bitCount_0f7a4_49 : decode cJ6_bitCount_0f7a4 49 = .ok (.bipush 63, 2) := by decide +kernel
theorem dJ6_bitCount_0f7a4_51 : decode cJ6_bitCount_0f7a4 51 = .ok (.iand, 1) := by decide +kernel
theorem dJ6_bitCount_0f7a4_52 : decode cJ6_bitCount_0f7a4 52 = .ok (.ireturn, 1) := by decide +kernel
theorem dJ9_max_7cf53_0 : decode cJ9_max_7cf53 0 = .ok (.iload_n 0, 1) := by decide +kernel
theorem dJ9_max_7cf53_1 : decode cJ9_max_7cf53 1 = .ok (.iload_n 1, 1) := by decide +kernel
theorem dJ9_max_7cf53_2 : decode cJ9_max_7cf53 2 = .ok (.if_icmp .lt 7, 3) := by decide +kernel
theorem dJ9_max_7cf53_5 : decode cJ9_max_7cf53 5 = .ok (.iload_n 0, 1) := by decide +kernel
theorem dJ9_max_7cf53_6 : decode cJ9_max_7cf53 6 = .ok (.goto 4, 3) := by decide +kernel
theorem dJ9_max_7cf53_9 : decode cJ9_max_7cf53 9 = .ok (.iload_n 1, 1) := by decide +kernel
theorem dJ9_max_7cf53_10 : decode cJ9_max_7cf53 10 = .ok (.ireturn, 1) := by decide +kernel
theorem dJ9_min_7cf53_0 : decode cJ9_min_7cf53 0 = .ok (.iload_n 0, 1) := by decide +kernel
theorem dJ9_min_7cf53_1 : decode cJ9_min_7cf53 1 = .ok (.iload_n 1, 1) := by decide +kernel
theorem dJ9_min_7cf53_2 : decode cJ9_min_7cf53 2 = .ok (.if_icmp .gt 7, 3) := by decide +kernel
theorem dJ9_min_7cf53_5 : decode cJ9_min_7cf53 5 = .ok (.iload_n 0, 1) := by decide +kernel
theorem dJ9_min_7cf53_6 : decode cJ9_min_7cf53 6 = .ok (.goto 4, 3) := by decide +kernel
theorem dJ9_min_7cf53_9 : decode cJ9_min_7cf53 9 = .ok (.iload_n 1, 1) := by decide +kernel
theorem dJ9_min_7cf53_10 : decode cJ9_min_7cf53 10 = .ok (.ireturn, 1) := by decide +kernel
theorem dJxa1e45_init_da8c8_0 : decode cJxa1e45_init_da8c8 0 = .ok (.aload_n 0, 1) := by decide +kernel
theorem dJxa1e45_init_da8c8_1 : decode cJxa1e45_init_da8c8 1 = .ok (.invokespecial 1, 3) := by decide +kernel
theorem dJxa1e45_init_da8c8_4 : decode cJxa1e45_init_da8c8 4 = .ok (.return_, 1) := by decide +kernel
set_option maxRecDepth 20000 in
theorem ggJxc12de_init_da8c8_Jxa1e45_init_da8c8 : GoodIn wsJxc12de_init_da8c8 wsJxa1e45_init_da8c8 := goodIn_r _ [5, 6, 7, 8] (by decide +kernel) (by decide +kernel)
set_option maxRecDepth 20000 in
theorem gJxc12de_init_da8c8_Jxa1e45_init_da8c8 : GoodIn wsJxc12de_init_da8c8 (wsJxa1e45_init_da8c8) := ggJxc12de_init_da8c8_Jxa1e45_init_da8c8
theorem dJxc12de_init_da8c8_0 : decode cJxc12de_init_da8c8 0 = .ok (.aload_n 0, 1) := by decide +kernel
theorem dJxc12de_init_da8c8_1 : decode cJxc12de_init_da8c8 1 = .ok (.invokespecial 1, 3) := by decide +kernel
theorem dJxc12de_init_da8c8_4 : decode cJxc12de_init_da8c8 4 = .ok (.aload_n 0, 1) := by decide +kernel
theorem dJxc12de_init_da8c8_5 : decode cJxc12de_init_da8c8 5 = .ok (.iconst 0, 1) := by decide +kernel
theorem dJxc12de_init_da8c8_6 : decode cJxc12de_init_da8c8 6 = .ok (.putfield 7, 3) := by decide +kernel
theorem dJxc12de_init_da8c8_9 : decode cJxc12de_init_da8c8 9 = .ok (.return_, 1) := by decide +kernel
set_option maxRecDepth 20000 in
theorem ggJx4a65c_init_da8c8_Jxc12de_init_da8c8 : GoodIn wsJx4a65c_init_da8c8 wsJxc12de_init_da8c8 := goodIn_r _ [6, 7, 8, 9, 10, 11, 12, 13, 14, 15, 16, 17] (by decide +kernel) (by decide +kernel)
set_option maxRecDepth 20000 in
theorem gJx4a65c_init_da8c8_Jxc12de_init_da8c8 : GoodIn wsJx4a65c_init_da8c8 (wsJxc12de_init_da8c8) := ggJx4a65c_init_da8c8_Jxc12de_init_da8c8
theorem dJx4a65c_init_da8c8_0 : decode cJx4a65c_init_da8c8 0 = .ok (.aload_n 0, 1) := by decide +kernel
theorem dJx4a65c_init_da8c8_1 : decode cJx4a65c_init_da8c8 1 = .ok (.invokespecial 1, 3) := by decide +kernel
theorem dJx4a65c_init_da8c8_4 : decode cJx4a65c_init_da8c8 4 = .ok (.aload_n 0, 1) := by decide +kernel
theorem dJx4a65c_init_da8c8_5 : decode cJx4a65c_init_da8c8 5 = .ok (.getstatic 39, 3) := by decide +kernel
theorem dJx4a65c_init_da8c8_8 : decode cJx4a65c_init_da8c8 8 = .ok (.putfield 9, 3) := by decide +kernel
theorem dJx4a65c_init_da8c8_11 : decode cJx4a65c_init_da8c8 11 = .ok (.return_, 1) := by decide +kernel
set_option maxRecDepth 20000 in
theorem ggJx4a65c_grow_92f84_J8_newLength_cabcc : GoodIn wsJx4a65c_grow_92f84 wsJ8_newLength_cabcc := goodIn_r _ [11, 12, 4, 5, 6, 13, 14, 15, 10, 16] (by decide +kernel) (by decide +kernel)
set_option maxRecDepth 20000 in
theorem gJx4a65c_grow_92f84_J8_newLength_cabcc : GoodIn wsJx4a65c_grow_92f84 (va_wsS RJx4a65c 73 yJ8_newLength_cabcc wsJ8_newLength_cabcc) := goodIn_app (goodIn_of _ (by decide +kernel)) ggJx4a65c_grow_92f84_J8_newLength_cabcc
set_option maxRecDepth 20000 in
theorem ggJx4a65c_grow_92f84_J7_copyOf_1904c : GoodIn wsJx4a65c_grow_92f84 wsJ7_copyOf_1904c := goodIn_r _ [20, 21, 22, 23, 24, 25, 26, 19, 27, 28, 29, 30, 31, 5, 32, 33, 34, 35, 36] (by decide +kernel) (by decide +kernel)
set_option maxRecDepth 20000 in
theorem gJx4a65c_grow_92f84_J7_copyOf_1904c : GoodIn wsJx4a65c_grow_92f84 (va_wsS RJx4a65c 66 yJ7_copyOf_1904c wsJ7_copyOf_1904c) := goodIn_app (goodIn_of _ (by decide +kernel)) ggJx4a65c_grow_92f84_J7_copyOf_1904c
theorem dJx4a65c_grow_92f84_0 : decode cJx4a65c_grow_92f84 0 = .ok (.aload_n 0, 1) := by decide +kernel
theorem dJx4a65c_grow_92f84_1 : decode cJx4a65c_grow_92f84 1 = .ok (.getfield 9, 3) := by decide +kernel
theorem dJx4a65c_grow_92f84_4 : decode cJx4a65c_grow_92f84 4 = .ok (.arraylength, 1) := by decide +kernel
theorem dJx4a65c_grow_92f84_5 : decode cJx4a65c_grow_92f84 5 = .ok (.istore_n 2, 1) := by decide +kernel
theorem dJx4a65c_grow_92f84_6 : decode cJx4a65c_grow_92f84 6 = .ok (.iload_n 2, 1) := by decide +kernel
theorem dJx4a65c_grow_92f84_7 : decode cJx4a65c_grow_92f84 7 = .ok (.ifCond .gt 13, 3) := by decide +kernel
theorem dJx4a65c_grow_92f84_10 : decode cJx4a65c_grow_92f84 10 = .ok (.aload_n 0, 1) := by decide +kernel
theorem dJx4a65c_grow_92f84_11 : decode cJx4a65c_grow_92f84 11 = .ok (.getfield 9, 3) := by decide +kernel
theorem dJx4a65c_grow_92f84_14 : decode cJx4a65c_grow_92f84 14 = .ok (.getstatic 39, 3) := by decide +kernel
theorem dJx4a65c_grow_92f84_17 : decode cJx4a65c_grow_92f84 17 = .ok (.if_acmp .eq 28, 3) := by decide +kernel
theorem dJx4a65c_grow_92f84_20 : decode cJx4a65c_grow_92f84 20 = .ok (.iload_n 2, 1) := by decide +kernel
theorem dJx4a65c_grow_92f84_21 : decode cJx4a65c_grow_92f84 21 = .ok (.iload_n 1, 1) := by decide +kernel
theorem dJx4a65c_grow_92f84_22 : decode cJx4a65c_grow_92f84 22 = .ok (.iload_n 2, 1) := by decide +kernel
theorem dJx4a65c_grow_92f84_23 : decode cJx4a65c_grow_92f84 23 = .ok (.isub, 1) := by decide +kernel
theorem dJx4a65c_grow_92f84_24 : decode cJx4a65c_grow_92f84 24 = .ok (.iload_n 2, 1) := by decide +kernel
theorem dJx4a65c_grow_92f84_25 : decode cJx4a65c_grow_92f84 25 = .ok (.iconst 1, 1) := by decide +kernel
theorem dJx4a65c_grow_92f84_26 : decode cJx4a65c_grow_92f84 26 = .ok (.ishr, 1) := by decide +kernel
theorem dJx4a65c_grow_92f84_27 : decode cJx4a65c_grow_92f84 27 = .ok (.invokestatic 73, 3) := by decide +kernel
theorem dJx4a65c_grow_92f84_30 : decode cJx4a65c_grow_92f84 30 = .ok (.istore_n 3, 1) := by decide +kernel
theorem dJx4a65c_grow_92f84_31 : decode cJx4a65c_grow_92f84 31 = .ok (.aload_n 0, 1) := by decide +kernel
theorem dJx4a65c_grow_92f84_32 : decode cJx4a65c_grow_92f84 32 = .ok (.aload_n 0, 1) := by decide +kernel
theorem dJx4a65c_grow_92f84_33 : decode cJx4a65c_grow_92f84 33 = .ok (.getfield 9, 3) := by decide +kernel
theorem dJx4a65c_grow_92f84_36 : decode cJx4a65c_grow_92f84 36 = .ok (.iload_n 3, 1) := by decide +kernel
theorem dJx4a65c_grow_92f84_37 : decode cJx4a65c_grow_92f84 37 = .ok (.invokestatic 66, 3) := by decide +kernel
theorem dJx4a65c_grow_92f84_40 : decode cJx4a65c_grow_92f84 40 = .ok (.dup_x1, 1) := by decide +kernel
theorem dJx4a65c_grow_92f84_41 : decode cJx4a65c_grow_92f84 41 = .ok (.putfield 9, 3) := by decide +kernel
theorem dJx4a65c_grow_92f84_44 : decode cJx4a65c_grow_92f84 44 = .ok (.areturn, 1) := by decide +kernel
theorem dJx4a65c_grow_92f84_45 : decode cJx4a65c_grow_92f84 45 = .ok (.aload_n 0, 1) := by decide +kernel
theorem dJx4a65c_grow_92f84_46 : decode cJx4a65c_grow_92f84 46 = .ok (.bipush 10, 2) := by decide +kernel
theorem dJx4a65c_grow_92f84_48 : decode cJx4a65c_grow_92f84 48 = .ok (.iload_n 1, 1) := by decide +kernel
theorem dJx4a65c_grow_92f84_49 : decode cJx4a65c_grow_92f84 49 = .ok (.invokestatic 79, 3) := by decide +kernel
theorem dJx4a65c_grow_92f84_52 : decode cJx4a65c_grow_92f84 52 = .ok (.anewarray 7, 3) := by decide +kernel
theorem dJx4a65c_grow_92f84_55 : decode cJx4a65c_grow_92f84 55 = .ok (.dup_x1, 1) := by decide +kernel
theorem dJx4a65c_grow_92f84_56 : decode cJx4a65c_grow_92f84 56 = .ok (.putfield 9, 3) := by decide +kernel
theorem dJx4a65c_grow_92f84_59 : decode cJx4a65c_grow_92f84 59 = .ok (.areturn, 1) := by decide +kernel
set_option maxRecDepth 20000 in
theorem ggJx4a65c_grow_d5877_Jx4a65c_grow_92f84 : GoodIn wsJx4a65c_grow_d5877 wsJx4a65c_grow_92f84 := goodIn_r _ [6, 7, 8, 9, 10, 11, 12, 13, 14, 15, 16, 17, 18, 19, 20, 21, 22, 23, 24, 25, 26, 27, 28, 29, 30, 31, 32, 33, 34, 35, 36, 37, 38, 39, 40, 41, 42, 43, 44, 45] (by decide +kernel) (by decide +kernel)
set_option maxRecDepth 20000 in
theorem gJx4a65c_grow_d5877_Jx4a65c_grow_92f84 : GoodIn wsJx4a65c_grow_d5877 (wsV RJx4a65c 69 RJx4a65c yJx4a65c_grow_92f84 wsJx4a65c_grow_92f84) := goodIn_app (goodIn_of _ (by decide +kernel)) ggJx4a65c_grow_d5877_Jx4a65c_grow_92f84
theorem dJx4a65c_grow_d5877_0 : decode cJx4a65c_grow_d5877 0 = .ok (.aload_n 0, 1) := by decide +kernel
theorem dJx4a65c_grow_d5877_1 : decode cJx4a65c_grow_d5877 1 = .ok (.aload_n 0, 1) := by decide +kernel
theorem dJx4a65c_grow_d5877_2 : decode cJx4a65c_grow_d5877 2 = .ok (.getfield 48, 3) := by decide +kernel
theorem dJx4a65c_grow_d5877_5 : decode cJx4a65c_grow_d5877 5 = .ok (.iconst 1, 1) := by decide +kernel
theorem dJx4a65c_grow_d5877_6 : decode cJx4a65c_grow_d5877 6 = .ok (.iadd, 1) := by decide +kernel
theorem dJx4a65c_grow_d5877_7 : decode cJx4a65c_grow_d5877 7 = .ok (.invokevirtual 69, 3) := by decide +kernel
theorem dJx4a65c_grow_d5877_10 : decode cJx4a65c_grow_d5877 10 = .ok (.areturn, 1) := by decide +kernel
theorem dJx4a65c_size_8abf5_0 : decode cJx4a65c_size_8abf5 0 = .ok (.aload_n 0, 1) := by decide +kernel
theorem dJx4a65c_size_8abf5_1 : decode cJx4a65c_size_8abf5 1 = .ok (.getfield 48, 3) := by decide +kernel
theorem dJx4a65c_size_8abf5_4 : decode cJx4a65c_size_8abf5 4 = .ok (.ireturn, 1) := by decide +kernel
theorem dJx4a65c_elementData_915e3_0 : decode cJx4a65c_elementData_915e3 0 = .ok (.aload_n 0, 1) := by decide +kernel
theorem dJx4a65c_elementData_915e3_1 : decode cJx4a65c_elementData_915e3 1 = .ok (.getfield 9, 3) := by decide +kernel
theorem dJx4a65c_elementData_915e3_4 : decode cJx4a65c_elementData_915e3 4 = .ok (.iload_n 1, 1) := by decide +kernel
theorem dJx4a65c_elementData_915e3_5 : decode cJx4a65c_elementData_915e3 5 = .ok (.aaload, 1) := by decide +kernel
theorem dJx4a65c_elementData_915e3_6 : decode cJx4a65c_elementData_915e3 6 = .ok (.areturn, 1) := by decide +kernel
set_option maxRecDepth 20000 in
theorem ggJx4a65c_get_915e3_J15_checkIndex_7cf53 : GoodIn wsJx4a65c_get_915e3 wsJ15_checkIndex_7cf53 := goodIn_r _ [5, 6, 7, 8, 9] (by decide +kernel) (by decide +kernel)
set_option maxRecDepth 20000 in
theorem gJx4a65c_get_915e3_J15_checkIndex_7cf53 : GoodIn wsJx4a65c_get_915e3 (va_wsS RJx4a65c 118 yJ15_checkIndex_7cf53 wsJ15_checkIndex_7cf53) := goodIn_app (goodIn_of _ (by decide +kernel)) ggJx4a65c_get_915e3_J15_checkIndex_7cf53
set_option maxRecDepth 20000 in
theorem ggJx4a65c_get_915e3_Jx4a65c_elementData_915e3 : GoodIn wsJx4a65c_get_915e3 wsJx4a65c_elementData_915e3 := goodIn_r _ [14, 15, 16, 17, 18] (by decide +kernel) (by decide +kernel)
set_option maxRecDepth 20000 in
theorem gJx4a65c_get_915e3_Jx4a65c_elementData_915e3 : GoodIn wsJx4a65c_get_915e3 (wsV RJx4a65c 123 RJx4a65c yJx4a65c_elementData_915e3 wsJx4a65c_elementData_915e3) := goodIn_app (goodIn_of _ (by decide +kernel)) ggJx4a65c_get_915e3_Jx4a65c_elementData_915e3
theorem dJx4a65c_get_915e3_0 : decode cJx4a65c_get_915e3 0 = .ok (.iload_n 1, 1) := by decide +kernel
theorem dJx4a65c_get_915e3_1 : decode cJx4a65c_get_915e3 1 = .ok (.aload_n 0, 1) := by decide +kernel
theorem dJx4a65c_get_915e3_2 : decode cJx4a65c_get_915e3 2 = .ok (.getfield 48, 3) := by decide +kernel
theorem dJx4a65c_get_915e3_5 : decode cJx4a65c_get_915e3 5 = .ok (.invokestatic 118, 3) := by decide +kernel
theorem dJx4a65c_get_915e3_8 : decode cJx4a65c_get_915e3 8 = .ok (.pop, 1) := by decide +kernel
theorem dJx4a65c_get_915e3_9 : decode cJx4a65c_get_915e3 9 = .ok (.aload_n 0, 1) := by decide +kernel
theorem dJx4a65c_get_915e3_10 : decode cJx4a65c_get_915e3 10 = .ok (.iload_n 1, 1) := by decide +kernel
theorem dJx4a65c_get_915e3_11 : decode cJx4a65c_get_915e3 11 = .ok (.invokevirtual 123, 3) := by decide +kernel
theorem dJx4a65c_get_915e3_14 : decode cJx4a65c_get_915e3 14 = .ok (.areturn, 1) := by decide +kernel
set_option maxRecDepth 20000 in
theorem ggJx4a65c_add_72be8_Jx4a65c_grow_d5877 : GoodIn wsJx4a65c_add_72be8 wsJx4a65c_grow_d5877 := goodIn_r _ [6, 1, 7, 8, 9, 5, 10, 11, 12, 13, 14, 15, 16, 17, 18, 19, 20, 21, 22, 23, 24, 25, 26, 27, 28, 29, 30, 31, 32, 33, 34, 35, 36, 37, 38, 39, 40, 41, 42, 43, 44, 45, 46, 47, 48, 49] (by decide +kernel) (by decide +kernel)
set_option maxRecDepth 20000 in
theorem gJx4a65c_add_72be8_Jx4a65c_grow_d5877 : GoodIn wsJx4a65c_add_72be8 (wsV RJx4a65c 129 RJx4a65c yJx4a65c_grow_d5877 wsJx4a65c_grow_d5877) := goodIn_app (goodIn_of _ (by decide +kernel)) ggJx4a65c_add_72be8_Jx4a65c_grow_d5877
theorem dJx4a65c_add_72be8_0 : decode cJx4a65c_add_72be8 0 = .ok (.iload_n 3, 1) := by decide +kernel
theorem dJx4a65c_add_72be8_1 : decode cJx4a65c_add_72be8 1 = .ok (.aload_n 2, 1) := by decide +kernel
theorem dJx4a65c_add_72be8_2 : decode cJx4a65c_add_72be8 2 = .ok (.arraylength, 1) := by decide +kernel
theorem dJx4a65c_add_72be8_3 : decode cJx4a65c_add_72be8 3 = .ok (.if_icmp .ne 8, 3) := by decide +kernel
theorem dJx4a65c_add_72be8_6 : decode cJx4a65c_add_72be8 6 = .ok (.aload_n 0, 1) := by decide +kernel
theorem dJx4a65c_add_72be8_7 : decode cJx4a65c_add_72be8 7 = .ok (.invokevirtual 129, 3) := by decide +kernel
theorem dJx4a65c_add_72be8_10 : decode cJx4a65c_add_72be8 10 = .ok (.astore_n 2, 1) := by decide +kernel
theorem dJx4a65c_add_72be8_11 : decode cJx4a65c_add_72be8 11 = .ok (.aload_n 2, 1) := by decide +kernel
theorem dJx4a65c_add_72be8_12 : decode cJx4a65c_add_72be8 12 = .ok (.iload_n 3, 1) := by decide +kernel
theorem dJx4a65c_add_72be8_13 : decode cJx4a65c_add_72be8 13 = .ok (.aload_n 1, 1) := by decide +kernel
theorem dJx4a65c_add_72be8_14 : decode cJx4a65c_add_72be8 14 = .ok (.aastore, 1) := by decide +kernel
theorem dJx4a65c_add_72be8_15 : decode cJx4a65c_add_72be8 15 = .ok (.aload_n 0, 1) := by decide +kernel
theorem dJx4a65c_add_72be8_16 : decode cJx4a65c_add_72be8 16 = .ok (.iload_n 3, 1) := by decide +kernel
theorem dJx4a65c_add_72be8_17 : decode cJx4a65c_add_72be8 17 = .ok (.iconst 1, 1) := by decide +kernel
theorem dJx4a65c_add_72be8_18 : decode cJx4a65c_add_72be8 18 = .ok (.iadd, 1) := by decide +kernel
theorem dJx4a65c_add_72be8_19 : decode cJx4a65c_add_72be8 19 = .ok (.putfield 48, 3) := by decide +kernel
theorem dJx4a65c_add_72be8_22 : decode cJx4a65c_add_72be8 22 = .ok (.return_, 1) := by decide +kernel
set_option maxRecDepth 20000 in
theorem ggJx4a65c_add_9ea2d_Jx4a65c_add_72be8 : GoodIn wsJx4a65c_add_9ea2d wsJx4a65c_add_72be8 := goodIn_r _ [9, 4, 10, 11, 12, 8, 13, 14, 15, 16, 17, 3, 18, 19, 20, 21, 22, 23, 24, 25, 26, 27, 28, 29, 30, 31, 32, 33, 34, 35, 36, 37, 38, 39, 40, 41, 42, 43, 44, 45, 46, 47, 48, 49, 50, 51, 52, 53, 54, 55] (by decide +kernel) (by decide +kernel)
set_option maxRecDepth 20000 in
theorem gJx4a65c_add_9ea2d_Jx4a65c_add_72be8 : GoodIn wsJx4a65c_add_9ea2d (wsV RJx4a65c 131 RJx4a65c yJx4a65c_add_72be8 wsJx4a65c_add_72be8) := goodIn_app (goodIn_of _ (by decide +kernel)) ggJx4a65c_add_9ea2d_Jx4a65c_add_72be8
theorem dJx4a65c_add_9ea2d_0 : decode cJx4a65c_add_9ea2d 0 = .ok (.aload_n 0, 1) := by decide +kernel
theorem dJx4a65c_add_9ea2d_1 : decode cJx4a65c_add_9ea2d 1 = .ok (.dup, 1) := by decide +kernel
theorem dJx4a65c_add_9ea2d_2 : decode cJx4a65c_add_9ea2d 2 = .ok (.getfield 63, 3) := by decide +kernel
theorem dJx4a65c_add_9ea2d_5 : decode cJx4a65c_add_9ea2d 5 = .ok (.iconst 1, 1) := by decide +kernel
theorem dJx4a65c_add_9ea2d_6 : decode cJx4a65c_add_9ea2d 6 = .ok (.iadd, 1) := by decide +kernel
theorem dJx4a65c_add_9ea2d_7 : decode cJx4a65c_add_9ea2d 7 = .ok (.putfield 63, 3) := by decide +kernel
theorem dJx4a65c_add_9ea2d_10 : decode cJx4a65c_add_9ea2d 10 = .ok (.aload_n 0, 1) := by decide +kernel
theorem dJx4a65c_add_9ea2d_11 : decode cJx4a65c_add_9ea2d 11 = .ok (.aload_n 1, 1) := by decide +kernel
theorem dJx4a65c_add_9ea2d_12 : decode cJx4a65c_add_9ea2d 12 = .ok (.aload_n 0, 1) := by decide +kernel
theorem dJx4a65c_add_9ea2d_13 : decode cJx4a65c_add_9ea2d 13 = .ok (.getfield 9, 3) := by decide +kernel
theorem dJx4a65c_add_9ea2d_16 : decode cJx4a65c_add_9ea2d 16 = .ok (.aload_n 0, 1) := by decide +kernel
theorem dJx4a65c_add_9ea2d_17 : decode cJx4a65c_add_9ea2d 17 = .ok (.getfield 48, 3) := by decide +kernel
theorem dJx4a65c_add_9ea2d_20 : decode cJx4a65c_add_9ea2d 20 = .ok (.invokevirtual 131, 3) := by decide +kernel
theorem dJx4a65c_add_9ea2d_23 : decode cJx4a65c_add_9ea2d 23 = .ok (.iconst 1, 1) := by decide +kernel
theorem dJx4a65c_add_9ea2d_24 : decode cJx4a65c_add_9ea2d 24 = .ok (.ireturn, 1) := by decide +kernel
theorem dJ7_fill_53178_0 : decode cJ7_fill_53178 0 = .ok (.iconst 0, 1) := by decide +kernel
theorem dJ7_fill_53178_1 : decode cJ7_fill_53178 1 = .ok (.istore_n 2, 1) := by decide +kernel
theorem dJ7_fill_53178_2 : decode cJ7_fill_53178 2 = .ok (.aload_n 0, 1) := by decide +kernel
theorem dJ7_fill_53178_3 : decode cJ7_fill_53178 3 = .ok (.arraylength, 1) := by decide +kernel
theorem dJ7_fill_53178_4 : decode cJ7_fill_53178 4 = .ok (.istore_n 3, 1) := by decide +kernel
theorem dJ7_fill_53178_5 : decode cJ7_fill_53178 5 = .ok (.iload_n 2, 1) := by decide +kernel
theorem dJ7_fill_53178_6 : decode cJ7_fill_53178 6 = .ok (.iload_n 3, 1) := by decide +kernel
theorem dJ7_fill_53178_7 : decode cJ7_fill_53178 7 = .ok (.if_icmp .ge 13, 3) := by decide +kernel
theorem dJ7_fill_53178_10 : decode cJ7_fill_53178 10 = .ok (.aload_n 0, 1) := by decide +kernel
theorem dJ7_fill_53178_11 : decode cJ7_fill_53178 11 = .ok (.iload_n 2, 1) := by decide +kernel
theorem dJ7_fill_53178_12 : decode cJ7_fill_53178 12 = .ok (.iload_n 1, 1) := by decide +kernel
theorem dJ7_fill_53178_13 : decode cJ7_fill_53178 13 = .ok (.iastore, 1) := by decide +kernel
theorem dJ7_fill_53178_14 : decode cJ7_fill_53178 14 = .ok (.iinc 2 1, 3) := by decide +kernel
theorem dJ7_fill_53178_17 : decode cJ7_fill_53178 17 = .ok (.goto (-12), 3) := by decide +kernel
theorem dJ7_fill_53178_20 : decode cJ7_fill_53178 20 = .ok (.return_, 1) := by decide +kernel
set_option maxRecDepth 20000 in
theorem ggJ7_copyOf_1904c_J7_copyOf_6403c : GoodIn wsJ7_copyOf_1904c wsJ7_copyOf_6403c := goodIn_r _ [8, 9, 10, 11, 12, 13, 14, 15, 16, 17, 18] (by decide +kernel) (by decide +kernel)
set_option maxRecDepth 20000 in
theorem gJ7_copyOf_1904c_J7_copyOf_6403c : GoodIn wsJ7_copyOf_1904c (va_wsS RJ7 300 yJ7_copyOf_6403c wsJ7_copyOf_6403c) := goodIn_app (goodIn_of _ (by decide +kernel)) ggJ7_copyOf_1904c_J7_copyOf_6403c
theorem dJ7_copyOf_1904c_0 : decode cJ7_copyOf_1904c 0 = .ok (.aload_n 0, 1) := by decide +kernel
theorem dJ7_copyOf_1904c_1 : decode cJ7_copyOf_1904c 1 = .ok (.iload_n 1, 1) := by decide +kernel
theorem dJ7_copyOf_1904c_2 : decode cJ7_copyOf_1904c 2 = .ok (.aload_n 0, 1) := by decide +kernel
theorem dJ7_copyOf_1904c_3 : decode cJ7_copyOf_1904c 3 = .ok (.invokevirtual 86, 3) := by decide +kernel
theorem dJ7_copyOf_1904c_6 : decode cJ7_copyOf_1904c 6 = .ok (.invokestatic 300, 3) := by decide +kernel
theorem dJ7_copyOf_1904c_9 : decode cJ7_copyOf_1904c 9 = .ok (.areturn, 1) := by decide +kernel
theorem dJ7_copyOf_6403c_0 : decode cJ7_copyOf_6403c 0 = .ok (.aload_n 2, 1) := by decide +kernel
theorem dJ7_copyOf_6403c_1 : decode cJ7_copyOf_6403c 1 = .ok (.ldc 110, 2) := by decide +kernel
theorem dJ7_copyOf_6403c_3 : decode cJ7_copyOf_6403c 3 = .ok (.if_acmp .ne 10, 3) := by decide +kernel
theorem dJ7_copyOf_6403c_6 : decode cJ7_copyOf_6403c 6 = .ok (.iload_n 1, 1) := by decide +kernel
theorem dJ7_copyOf_6403c_7 : decode cJ7_copyOf_6403c 7 = .ok (.anewarray 2, 3) := by decide +kernel
theorem dJ7_copyOf_6403c_10 : decode cJ7_copyOf_6403c 10 = .ok (.goto 14, 3) := by decide +kernel
theorem dJ7_copyOf_6403c_13 : decode cJ7_copyOf_6403c 13 = .ok (.aload_n 2, 1) := by decide +kernel
theorem dJ7_copyOf_6403c_14 : decode cJ7_copyOf_6403c 14 = .ok (.invokevirtual 90, 3) := by decide +kernel
theorem dJ7_copyOf_6403c_17 : decode cJ7_copyOf_6403c 17 = .ok (.iload_n 1, 1) := by decide +kernel
theorem dJ7_copyOf_6403c_18 : decode cJ7_copyOf_6403c 18 = .ok (.invokestatic 95, 3) := by decide +kernel
theorem dJ7_copyOf_6403c_21 : decode cJ7_copyOf_6403c 21 = .ok (.checkcast 110, 3) := by decide +kernel
theorem dJ7_copyOf_6403c_24 : decode cJ7_copyOf_6403c 24 = .ok (.astore_n 3, 1) := by decide +kernel
theorem dJ7_copyOf_6403c_25 : decode cJ7_copyOf_6403c 25 = .ok (.aload_n 0, 1) := by decide +kernel
theorem dJ7_copyOf_6403c_26 : decode cJ7_copyOf_6403c 26 = .ok (.iconst 0, 1) := by decide +kernel
theorem dJ7_copyOf_6403c_27 : decode cJ7_copyOf_6403c 27 = .ok (.aload_n 3, 1) := by decide +kernel
theorem dJ7_copyOf_6403c_28 : decode cJ7_copyOf_6403c 28 = .ok (.iconst 0, 1) := by decide +kernel
theorem dJ7_copyOf_6403c_29 : decode cJ7_copyOf_6403c 29 = .ok (.aload_n 0, 1) := by decide +kernel
theorem dJ7_copyOf_6403c_30 : decode cJ7_copyOf_6403c 30 = .ok (.arraylength, 1) := by decide +kernel
theorem dJ7_copyOf_6403c_31 : decode cJ7_copyOf_6403c 31 = .ok (.iload_n 1, 1) := by decide +kernel
theorem dJ7_copyOf_6403c_32 : decode cJ7_copyOf_6403c 32 = .ok (.invokestatic 304, 3) := by decide +kernel
theorem dJ7_copyOf_6403c_35 : decode cJ7_copyOf_6403c 35 = .ok (.invokestatic 150, 3) := by decide +kernel
theorem dJ7_copyOf_6403c_38 : decode cJ7_copyOf_6403c 38 = .ok (.aload_n 3, 1) := by decide +kernel
theorem dJ7_copyOf_6403c_39 : decode cJ7_copyOf_6403c 39 = .ok (.areturn, 1) := by decide +kernel
set_option maxRecDepth 20000 in
theorem ggJ15_checkIndex_7cf53_J3_checkIndex_8e157 : GoodIn wsJ15_checkIndex_7cf53 wsJ3_checkIndex_8e157 := goodIn_r _ [4] (by decide +kernel) (by decide +kernel)
set_option maxRecDepth 20000 in
theorem gJ15_checkIndex_7cf53_J3_checkIndex_8e157 : GoodIn wsJ15_checkIndex_7cf53 (va_wsS RJ15 105 yJ3_checkIndex_8e157 wsJ3_checkIndex_8e157) := goodIn_app (goodIn_of _ (by decide +kernel)) ggJ15_checkIndex_7cf53_J3_checkIndex_8e157
theorem dJ15_checkIndex_7cf53_0 : decode cJ15_checkIndex_7cf53 0 = .ok (.iload_n 0, 1) := by decide +kernel
theorem dJ15_checkIndex_7cf53_1 : decode cJ15_checkIndex_7cf53 1 = .ok (.iload_n 1, 1) := by decide +kernel
theorem dJ15_checkIndex_7cf53_2 : decode cJ15_checkIndex_7cf53 2 = .ok (.aconst_null, 1) := by decide +kernel
theorem dJ15_checkIndex_7cf53_3 : decode cJ15_checkIndex_7cf53 3 = .ok (.invokestatic 105, 3) := by decide +kernel
theorem dJ15_checkIndex_7cf53_6 : decode cJ15_checkIndex_7cf53 6 = .ok (.ireturn, 1) := by decide +kernel
set_option maxRecDepth 20000 in
theorem ggJ8_newLength_cabcc_J8_hugeLength_7cf53 : GoodIn wsJ8_newLength_cabcc wsJ8_hugeLength_7cf53 := goodIn_r _ [9, 5] (by decide +kernel) (by decide +kernel)
set_option maxRecDepth 20000 in
theorem gJ8_newLength_cabcc_J8_hugeLength_7cf53 : GoodIn wsJ8_newLength_cabcc (va_wsS RJ8 201 yJ8_hugeLength_7cf53 wsJ8_hugeLength_7cf53) := goodIn_app (goodIn_of _ (by decide +kernel)) ggJ8_newLength_cabcc_J8_hugeLength_7cf53
theorem dJ8_newLength_cabcc_0 : decode cJ8_newLength_cabcc 0 = .ok (.iload_n 0, 1) := by decide +kernel
theorem dJ8_newLength_cabcc_1 : decode cJ8_newLength_cabcc 1 = .ok (.iload_n 1, 1) := by decide +kernel
theorem dJ8_newLength_cabcc_2 : decode cJ8_newLength_cabcc 2 = .ok (.iload_n 2, 1) := by decide +kernel
theorem dJ8_newLength_cabcc_3 : decode cJ8_newLength_cabcc 3 = .ok (.invokestatic 194, 3) := by decide +kernel
theorem dJ8_newLength_cabcc_6 : decode cJ8_newLength_cabcc 6 = .ok (.iadd, 1) := by decide +kernel
theorem dJ8_newLength_cabcc_7 : decode cJ8_newLength_cabcc 7 = .ok (.istore_n 3, 1) := by decide +kernel
theorem dJ8_newLength_cabcc_8 : decode cJ8_newLength_cabcc 8 = .ok (.iconst 0, 1) := by decide +kernel
theorem dJ8_newLength_cabcc_9 : decode cJ8_newLength_cabcc 9 = .ok (.iload_n 3, 1) := by decide +kernel
theorem dJ8_newLength_cabcc_10 : decode cJ8_newLength_cabcc 10 = .ok (.if_icmp .ge 11, 3) := by decide +kernel
theorem dJ8_newLength_cabcc_13 : decode cJ8_newLength_cabcc 13 = .ok (.iload_n 3, 1) := by decide +kernel
theorem dJ8_newLength_cabcc_14 : decode cJ8_newLength_cabcc 14 = .ok (.ldc 200, 2) := by decide +kernel
theorem dJ8_newLength_cabcc_16 : decode cJ8_newLength_cabcc 16 = .ok (.if_icmp .gt 5, 3) := by decide +kernel
theorem dJ8_newLength_cabcc_19 : decode cJ8_newLength_cabcc 19 = .ok (.iload_n 3, 1) := by decide +kernel
theorem dJ8_newLength_cabcc_20 : decode cJ8_newLength_cabcc 20 = .ok (.ireturn, 1) := by decide +kernel
theorem dJ8_newLength_cabcc_21 : decode cJ8_newLength_cabcc 21 = .ok (.iload_n 0, 1) := by decide +kernel
theorem dJ8_newLength_cabcc_22 : decode cJ8_newLength_cabcc 22 = .ok (.iload_n 1, 1) := by decide +kernel
theorem dJ8_newLength_cabcc_23 : decode cJ8_newLength_cabcc 23 = .ok (.invokestatic 201, 3) := by decide +kernel
theorem dJ8_newLength_cabcc_26 : decode cJ8_newLength_cabcc 26 = .ok (.ireturn, 1) := by decide +kernel
theorem dJ8_hugeLength_7cf53_0 : decode cJ8_hugeLength_7cf53 0 = .ok (.iload_n 0, 1) := by decide +kernel
theorem dJ8_hugeLength_7cf53_1 : decode cJ8_hugeLength_7cf53 1 = .ok (.iload_n 1, 1) := by decide +kernel
theorem dJ8_hugeLength_7cf53_2 : decode cJ8_hugeLength_7cf53 2 = .ok (.iadd, 1) := by decide +kernel
theorem dJ8_hugeLength_7cf53_3 : decode cJ8_hugeLength_7cf53 3 = .ok (.istore_n 2, 1) := by decide +kernel
theorem dJ8_hugeLength_7cf53_4 : decode cJ8_hugeLength_7cf53 4 = .ok (.iload_n 2, 1) := by decide +kernel
theorem dJ8_hugeLength_7cf53_5 : decode cJ8_hugeLength_7cf53 5 = .ok (.ifCond .ge 44, 3) := by decide +kernel
theorem dJ8_hugeLength_7cf53_8 : decode cJ8_hugeLength_7cf53 8 = .ok (.new 204, 3) := by decide +kernel
theorem dJ8_hugeLength_7cf53_11 : decode cJ8_hugeLength_7cf53 11 = .ok (.dup, 1) := by decide +kernel
theorem dJ8_hugeLength_7cf53_12 : decode cJ8_hugeLength_7cf53 12 = .ok (.new 89, 3) := by decide +kernel
theorem dJ8_hugeLength_7cf53_15 : decode cJ8_hugeLength_7cf53 15 = .ok (.dup, 1) := by decide +kernel
theorem dJ8_hugeLength_7cf53_16 : decode cJ8_hugeLength_7cf53 16 = .ok (.invokespecial 91, 3) := by decide +kernel
theorem dJ8_hugeLength_7cf53_19 : decode cJ8_hugeLength_7cf53 19 = .ok (.ldc 206, 2) := by decide +kernel
theorem dJ8_hugeLength_7cf53_21 : decode cJ8_hugeLength_7cf53 21 = .ok (.invokevirtual 94, 3) := by decide +kernel
theorem dJ8_hugeLength_7cf53_24 : decode cJ8_hugeLength_7cf53 24 = .ok (.iload_n 0, 1) := by decide +kernel
theorem dJ8_hugeLength_7cf53_25 : decode cJ8_hugeLength_7cf53 25 = .ok (.invokevirtual 98, 3) := by decide +kernel
theorem dJ8_hugeLength_7cf53_28 : decode cJ8_hugeLength_7cf53 28 = .ok (.ldc 208, 2) := by decide +kernel
theorem dJ8_hugeLength_7cf53_30 : decode cJ8_hugeLength_7cf53 30 = .ok (.invokevirtual 94, 3) := by decide +kernel
theorem dJ8_hugeLength_7cf53_33 : decode cJ8_hugeLength_7cf53 33 = .ok (.iload_n 1, 1) := by decide +kernel
theorem dJ8_hugeLength_7cf53_34 : decode cJ8_hugeLength_7cf53 34 = .ok (.invokevirtual 98, 3) := by decide +kernel
theorem dJ8_hugeLength_7cf53_37 : decode cJ8_hugeLength_7cf53 37 = .ok (.ldc 210, 2) := by decide +kernel
theorem dJ8_hugeLength_7cf53_39 : decode cJ8_hugeLength_7cf53 39 = .ok (.invokevirtual 94, 3) := by decide +kernel
theorem dJ8_hugeLength_7cf53_42 : decode cJ8_hugeLength_7cf53 42 = .ok (.invokevirtual 101, 3) := by decide +kernel
theorem dJ8_hugeLength_7cf53_45 : decode cJ8_hugeLength_7cf53 45 = .ok (.invokespecial 212, 3) := by decide +kernel
theorem dJ8_hugeLength_7cf53_48 : decode cJ8_hugeLength_7cf53 48 = .ok (.athrow, 1) := by decide +kernel
theorem dJ8_hugeLength_7cf53_49 : decode cJ8_hugeLength_7cf53 49 = .ok (.iload_n 2, 1) := by decide +kernel
theorem dJ8_hugeLength_7cf53_50 : decode cJ8_hugeLength_7cf53 50 = .ok (.ldc 200, 2) := by decide +kernel
theorem dJ8_hugeLength_7cf53_52 : decode cJ8_hugeLength_7cf53 52 = .ok (.if_icmp .gt 6, 3) := by decide +kernel
theorem dJ8_hugeLength_7cf53_55 : decode cJ8_hugeLength_7cf53 55 = .ok (.ldc 200, 2) := by decide +kernel
theorem dJ8_hugeLength_7cf53_57 : decode cJ8_hugeLength_7cf53 57 = .ok (.ireturn, 1) := by decide +kernel
theorem dJ8_hugeLength_7cf53_58 : decode cJ8_hugeLength_7cf53 58 = .ok (.iload_n 2, 1) := by decide +kernel
theorem dJ8_hugeLength_7cf53_59 : decode cJ8_hugeLength_7cf53 59 = .ok (.ireturn, 1) := by decide +kernel
theorem dJ3_checkIndex_8e157_0 : decode cJ3_checkIndex_8e157 0 = .ok (.iload_n 0, 1) := by decide +kernel
theorem dJ3_checkIndex_8e157_1 : decode cJ3_checkIndex_8e157 1 = .ok (.ifCond .lt 8, 3) := by decide +kernel
theorem dJ3_checkIndex_8e157_4 : decode cJ3_checkIndex_8e157 4 = .ok (.iload_n 0, 1) := by decide +kernel
theorem dJ3_checkIndex_8e157_5 : decode cJ3_checkIndex_8e157 5 = .ok (.iload_n 1, 1) := by decide +kernel
theorem dJ3_checkIndex_8e157_6 : decode cJ3_checkIndex_8e157 6 = .ok (.if_icmp .lt 10, 3) := by decide +kernel
theorem dJ3_checkIndex_8e157_9 : decode cJ3_checkIndex_8e157 9 = .ok (.aload_n 2, 1) := by decide +kernel
theorem dJ3_checkIndex_8e157_10 : decode cJ3_checkIndex_8e157 10 = .ok (.iload_n 0, 1) := by decide +kernel
theorem dJ3_checkIndex_8e157_11 : decode cJ3_checkIndex_8e157 11 = .ok (.iload_n 1, 1) := by decide +kernel
theorem dJ3_checkIndex_8e157_12 : decode cJ3_checkIndex_8e157 12 = .ok (.invokestatic 95, 3) := by decide +kernel
theorem dJ3_checkIndex_8e157_15 : decode cJ3_checkIndex_8e157 15 = .ok (.athrow, 1) := by decide +kernel
theorem dJ3_checkIndex_8e157_16 : decode cJ3_checkIndex_8e157 16 = .ok (.iload_n 0, 1) := by decide +kernel
theorem dJ3_checkIndex_8e157_17 : decode cJ3_checkIndex_8e157 17 = .ok (.ireturn, 1) := by decide +kernel
set_option maxRecDepth 20000 in
theorem ggL_addTask_X4_addTask : GoodIn wsL_addTask wsX4_addTask := goodIn_ca (goodIn_ca (goodIn_ca (goodIn_ca (goodIn_r _ [9, 10, 11, 12, 13, 14, 15, 16, 17, 18, 19, 20, 21, 22, 23, 24, 8, 25, 26, 27, 28, 29, 30, 31, 32, 33, 34, 35, 36, 37, 38, 39, 40, 41, 42, 43, 44, 45, 46, 47, 48, 49, 50, 51, 52, 53, 54, 55, 56, 57, 58, 59, 60, 61, 62, 63, 64, 65, 66, 67, 68, 69, 70, 71, 72, 73, 74, 75, 76, 77, 78, 79, 80, 81, 82, 83, 84, 85, 86, 87, 88, 89, 90, 91, 92, 93, 94, 95, 96, 97, 98, 99, 100, 101, 102, 103, 104, 105, 106, 107, 108, 109, 110, 111, 112, 113, 114, 115, 116, 117, 118, 119, 120, 121, 122, 123, 124, 125, 126, 127, 128, 129, 130, 131, 132, 133, 134, 135] (by decide +kernel) (by decide +kernel)) (goodIn_sub (fun _ h => List.mem_cons_of_mem _ (List.mem_append_left _ (List.mem_append_left _ (List.mem_append_left _ (List.mem_append_right _ h))))) (by decide +kernel))) (goodIn_sub (fun _ h => List.mem_cons_of_mem _ (List.mem_append_left _ (List.mem_append_left _ (List.mem_append_right _ h)))) (by decide +kernel))) (goodIn_sub (fun _ h => List.mem_cons_of_mem _ (List.mem_append_left _ (List.mem_append_right _ h))) (by decide +kernel))) (goodIn_sub (fun _ h => List.mem_cons_of_mem _ (List.mem_append_right _ h)) (by decide +kernel))
set_option maxRecDepth 20000 in
theorem gL_addTask_X4_addTask : GoodIn wsL_addTask (wsV RL 7 RX4 yX4_addTask wsX4_addTask) := goodIn_app (goodIn_of _ (by decide +kernel)) ggL_addTask_X4_addTask
theorem dL_addTask_0 : decode cL_addTask 0 = .ok (.aload 4, 2) := by decide +kernel
theorem dL_addTask_2 : decode cL_addTask 2 = .ok (.iconst 0, 1) := by decide +kernel
theorem dL_addTask_3 : decode cL_addTask 3 = .ok (.aload_n 0, 1) := by decide +kernel
theorem dL_addTask_4 : decode cL_addTask 4 = .ok (.iload_n 1, 1) := by decide +kernel
theorem dL_addTask_5 : decode cL_addTask 5 = .ok (.iload_n 2, 1) := by decide +kernel
theorem dL_addTask_6 : decode cL_addTask 6 = .ok (.iload_n 3, 1) := by decide +kernel
theorem dL_addTask_7 : decode cL_addTask 7 = .ok (.invokevirtual 7, 3) := by decide +kernel
theorem dL_addTask_10 : decode cL_addTask 10 = .ok (.i2l, 1) := by decide +kernel
theorem dL_addTask_11 : decode cL_addTask 11 = .ok (.lastore, 1) := by decide +kernel
theorem dL_addTask_12 : decode cL_addTask 12 = .ok (.goto 19, 3) := by decide +kernel
theorem dL_addTask_15 : decode cL_addTask 15 = .ok (.astore 5, 2) := by decide +kernel
theorem dL_addTask_17 : decode cL_addTask 17 = .ok (.iconst 1, 1) := by decide +kernel
theorem dL_addTask_18 : decode cL_addTask 18 = .ok (.ireturn, 1) := by decide +kernel
theorem dL_addTask_19 : decode cL_addTask 19 = .ok (.astore 5, 2) := by decide +kernel
theorem dL_addTask_21 : decode cL_addTask 21 = .ok (.iconst 2, 1) := by decide +kernel
theorem dL_addTask_22 : decode cL_addTask 22 = .ok (.ireturn, 1) := by decide +kernel
theorem dL_addTask_23 : decode cL_addTask 23 = .ok (.astore 5, 2) := by decide +kernel
theorem dL_addTask_25 : decode cL_addTask 25 = .ok (.iconst 3, 1) := by decide +kernel
theorem dL_addTask_26 : decode cL_addTask 26 = .ok (.ireturn, 1) := by decide +kernel
theorem dL_addTask_27 : decode cL_addTask 27 = .ok (.astore 5, 2) := by decide +kernel
theorem dL_addTask_29 : decode cL_addTask 29 = .ok (.iconst 4, 1) := by decide +kernel
theorem dL_addTask_30 : decode cL_addTask 30 = .ok (.ireturn, 1) := by decide +kernel
theorem dL_addTask_31 : decode cL_addTask 31 = .ok (.iconst 0, 1) := by decide +kernel
theorem dL_addTask_32 : decode cL_addTask 32 = .ok (.ireturn, 1) := by decide +kernel
set_option maxRecDepth 20000 in
theorem ggL_block_X4_block : GoodIn wsL_block wsX4_block := goodIn_ca (goodIn_ca (goodIn_ca (goodIn_ca (goodIn_r _ [9, 10, 11, 12, 13, 14, 15, 16, 17, 18, 19, 20, 8, 21, 22, 23, 24, 25, 26, 27, 28, 29, 30, 31, 32, 33, 34, 35, 36, 37, 38, 39, 40, 41, 42, 43, 44, 45, 46, 47, 48, 49, 50, 51, 52, 53, 54, 55, 56, 57, 58, 59, 60, 61, 62, 63, 64, 65, 66, 67, 68, 69, 70, 71, 72, 73, 74, 75, 76, 77, 78, 79, 80, 81, 82, 83, 84, 85, 86, 87, 88, 89, 90, 91] (by decide +kernel) (by decide +kernel)) (goodIn_sub (fun _ h => List.mem_cons_of_mem _ (List.mem_append_left _ (List.mem_append_left _ (List.mem_append_left _ (List.mem_append_right _ h))))) (by decide +kernel))) (goodIn_sub (fun _ h => List.mem_cons_of_mem _ (List.mem_append_left _ (List.mem_append_left _ (List.mem_append_right _ h)))) (by decide +kernel))) (goodIn_sub (fun _ h => List.mem_cons_of_mem _ (List.mem_append_left _ (List.mem_append_right _ h))) (by decide +kernel))) (goodIn_sub (fun _ h => List.mem_cons_of_mem _ (List.mem_append_right _ h)) (by decide +kernel))
set_option maxRecDepth 20000 in
theorem gL_block_X4_block : GoodIn wsL_block (wsV RL 21 RX4 yX4_block wsX4_block) := goodIn_app (goodIn_of _ (by decide +kernel)) ggL_block_X4_block
theorem dL_block_0 : decode cL_block 0 = .ok (.aload_n 3, 1) := by decide +kernel
theorem dL_block_1 : decode cL_block 1 = .ok (.iconst 0, 1) := by decide +kernel
theorem dL_block_2 : decode cL_block 2 = .ok (.aload_n 0, 1) := by decide +kernel
theorem dL_block_3 : decode cL_block 3 = .ok (.iload_n 1, 1) := by decide +kernel
theorem dL_block_4 : decode cL_block 4 = .ok (.iload_n 2, 1) := by decide +kernel
theorem dL_block_5 : decode cL_block 5 = .ok (.invokevirtual 21, 3) := by decide +kernel
theorem dL_block_8 : decode cL_block 8 = .ok (.i2l, 1) := by decide +kernel
theorem dL_block_9 : decode cL_block 9 = .ok (.lastore, 1) := by decide +kernel
theorem dL_block_10 : decode cL_block 10 = .ok (.goto 19, 3) := by decide +kernel
theorem dL_block_13 : decode cL_block 13 = .ok (.astore 4, 2) := by decide +kernel
theorem dL_block_15 : decode cL_block 15 = .ok (.iconst 1, 1) := by decide +kernel
theorem dL_block_16 : decode cL_block 16 = .ok (.ireturn, 1) := by decide +kernel
theorem dL_block_17 : decode cL_block 17 = .ok (.astore 4, 2) := by decide +kernel
theorem dL_block_19 : decode cL_block 19 = .ok (.iconst 2, 1) := by decide +kernel
theorem dL_block_20 : decode cL_block 20 = .ok (.ireturn, 1) := by decide +kernel
theorem dL_block_21 : decode cL_block 21 = .ok (.astore 4, 2) := by decide +kernel
theorem dL_block_23 : decode cL_block 23 = .ok (.iconst 3, 1) := by decide +kernel
theorem dL_block_24 : decode cL_block 24 = .ok (.ireturn, 1) := by decide +kernel
theorem dL_block_25 : decode cL_block 25 = .ok (.astore 4, 2) := by decide +kernel
theorem dL_block_27 : decode cL_block 27 = .ok (.iconst 4, 1) := by decide +kernel
theorem dL_block_28 : decode cL_block 28 = .ok (.ireturn, 1) := by decide +kernel
theorem dL_block_29 : decode cL_block 29 = .ok (.iconst 0, 1) := by decide +kernel
theorem dL_block_30 : decode cL_block 30 = .ok (.ireturn, 1) := by decide +kernel
set_option maxRecDepth 20000 in
theorem ggL_begin_X4_begin : GoodIn wsL_begin wsX4_begin := goodIn_ca (goodIn_ca (goodIn_ca (goodIn_r _ [8, 9, 10, 11, 12, 13, 14, 7, 15, 16, 17, 18, 19, 20, 21, 22, 23, 24, 25, 26, 27, 28, 29, 30, 31, 32, 33, 34, 35, 36, 37, 38, 39, 40, 41, 42, 43, 44, 45, 46, 47, 48, 49, 50, 51, 52, 53, 54, 55, 56, 57, 58, 59, 60, 61, 62, 63, 64, 65, 66, 67, 68, 69, 70, 71, 72, 73, 74, 75, 76, 77, 78, 79, 80, 81, 82] (by decide +kernel) (by decide +kernel)) (goodIn_sub (fun _ h => List.mem_cons_of_mem _ (List.mem_append_left _ (List.mem_append_left _ (List.mem_append_right _ h)))) (by decide +kernel))) (goodIn_sub (fun _ h => List.mem_cons_of_mem _ (List.mem_append_left _ (List.mem_append_right _ h))) (by decide +kernel))) (goodIn_sub (fun _ h => List.mem_cons_of_mem _ (List.mem_append_right _ h)) (by decide +kernel))
set_option maxRecDepth 20000 in
theorem gL_begin_X4_begin : GoodIn wsL_begin (wsV RL 25 RX4 yX4_begin wsX4_begin) := goodIn_app (goodIn_of _ (by decide +kernel)) ggL_begin_X4_begin
theorem dL_begin_0 : decode cL_begin 0 = .ok (.aload_n 2, 1) := by decide +kernel
theorem dL_begin_1 : decode cL_begin 1 = .ok (.iconst 0, 1) := by decide +kernel
theorem dL_begin_2 : decode cL_begin 2 = .ok (.aload_n 0, 1) := by decide +kernel
theorem dL_begin_3 : decode cL_begin 3 = .ok (.iload_n 1, 1) := by decide +kernel
theorem dL_begin_4 : decode cL_begin 4 = .ok (.invokevirtual 25, 3) := by decide +kernel
theorem dL_begin_7 : decode cL_begin 7 = .ok (.i2l, 1) := by decide +kernel
theorem dL_begin_8 : decode cL_begin 8 = .ok (.lastore, 1) := by decide +kernel
theorem dL_begin_9 : decode cL_begin 9 = .ok (.goto 12, 3) := by decide +kernel
theorem dL_begin_12 : decode cL_begin 12 = .ok (.astore_n 3, 1) := by decide +kernel
theorem dL_begin_13 : decode cL_begin 13 = .ok (.iconst 1, 1) := by decide +kernel
theorem dL_begin_14 : decode cL_begin 14 = .ok (.ireturn, 1) := by decide +kernel
theorem dL_begin_15 : decode cL_begin 15 = .ok (.astore_n 3, 1) := by decide +kernel
theorem dL_begin_16 : decode cL_begin 16 = .ok (.iconst 2, 1) := by decide +kernel
theorem dL_begin_17 : decode cL_begin 17 = .ok (.ireturn, 1) := by decide +kernel
theorem dL_begin_18 : decode cL_begin 18 = .ok (.astore_n 3, 1) := by decide +kernel
theorem dL_begin_19 : decode cL_begin 19 = .ok (.iconst 3, 1) := by decide +kernel
theorem dL_begin_20 : decode cL_begin 20 = .ok (.ireturn, 1) := by decide +kernel
theorem dL_begin_21 : decode cL_begin 21 = .ok (.iconst 0, 1) := by decide +kernel
theorem dL_begin_22 : decode cL_begin 22 = .ok (.ireturn, 1) := by decide +kernel
set_option maxRecDepth 20000 in
theorem ggL_propose_X4_propose : GoodIn wsL_propose wsX4_propose := goodIn_ca (goodIn_ca (goodIn_r _ [7, 8, 9, 10, 11, 6, 12, 13, 14, 15, 16, 17, 18, 19, 20, 21, 22, 23, 24, 25, 26, 27, 28, 29, 30, 31, 32, 33, 34, 35, 36, 37, 38, 39, 40, 41, 42, 43, 44, 45, 46, 47, 48, 49, 50, 51, 52, 53, 54, 55, 56, 57, 58, 59, 60, 61, 62, 63, 64] (by decide +kernel) (by decide +kernel)) (goodIn_sub (fun _ h => List.mem_cons_of_mem _ (List.mem_append_left _ (List.mem_append_right _ h))) (by decide +kernel))) (goodIn_sub (fun _ h => List.mem_cons_of_mem _ (List.mem_append_right _ h)) (by decide +kernel))
set_option maxRecDepth 20000 in
theorem gL_propose_X4_propose : GoodIn wsL_propose (wsV RL 29 RX4 yX4_propose wsX4_propose) := goodIn_app (goodIn_of _ (by decide +kernel)) ggL_propose_X4_propose
theorem dL_propose_0 : decode cL_propose 0 = .ok (.aload_n 2, 1) := by decide +kernel
theorem dL_propose_1 : decode cL_propose 1 = .ok (.iconst 0, 1) := by decide +kernel
theorem dL_propose_2 : decode cL_propose 2 = .ok (.aload_n 0, 1) := by decide +kernel
theorem dL_propose_3 : decode cL_propose 3 = .ok (.iload_n 1, 1) := by decide +kernel
theorem dL_propose_4 : decode cL_propose 4 = .ok (.invokevirtual 29, 3) := by decide +kernel
theorem dL_propose_7 : decode cL_propose 7 = .ok (.i2l, 1) := by decide +kernel
theorem dL_propose_8 : decode cL_propose 8 = .ok (.lastore, 1) := by decide +kernel
theorem dL_propose_9 : decode cL_propose 9 = .ok (.goto 9, 3) := by decide +kernel
theorem dL_propose_12 : decode cL_propose 12 = .ok (.astore_n 3, 1) := by decide +kernel
theorem dL_propose_13 : decode cL_propose 13 = .ok (.iconst 1, 1) := by decide +kernel
theorem dL_propose_14 : decode cL_propose 14 = .ok (.ireturn, 1) := by decide +kernel
theorem dL_propose_15 : decode cL_propose 15 = .ok (.astore_n 3, 1) := by decide +kernel
theorem dL_propose_16 : decode cL_propose 16 = .ok (.iconst 2, 1) := by decide +kernel
theorem dL_propose_17 : decode cL_propose 17 = .ok (.ireturn, 1) := by decide +kernel
theorem dL_propose_18 : decode cL_propose 18 = .ok (.iconst 0, 1) := by decide +kernel
theorem dL_propose_19 : decode cL_propose 19 = .ok (.ireturn, 1) := by decide +kernel
set_option maxRecDepth 20000 in
theorem ggL_reject_X4_reject : GoodIn wsL_reject wsX4_reject := goodIn_ca (goodIn_ca (goodIn_r _ [7, 8, 9, 10, 11, 6, 12, 13, 14, 15, 16, 17, 18, 19, 20, 21, 22, 23, 24, 25, 26, 27, 28, 29, 30, 31, 32, 33, 34, 35, 36, 37, 38, 39, 40, 41, 42, 43, 44, 45, 46, 47, 48, 49, 50, 51, 52, 53, 54, 55, 56, 57, 58, 59, 60, 61, 62, 63, 64] (by decide +kernel) (by decide +kernel)) (goodIn_sub (fun _ h => List.mem_cons_of_mem _ (List.mem_append_left _ (List.mem_append_right _ h))) (by decide +kernel))) (goodIn_sub (fun _ h => List.mem_cons_of_mem _ (List.mem_append_right _ h)) (by decide +kernel))
set_option maxRecDepth 20000 in
theorem gL_reject_X4_reject : GoodIn wsL_reject (wsV RL 32 RX4 yX4_reject wsX4_reject) := goodIn_app (goodIn_of _ (by decide +kernel)) ggL_reject_X4_reject
theorem dL_reject_0 : decode cL_reject 0 = .ok (.aload_n 2, 1) := by decide +kernel
theorem dL_reject_1 : decode cL_reject 1 = .ok (.iconst 0, 1) := by decide +kernel
theorem dL_reject_2 : decode cL_reject 2 = .ok (.aload_n 0, 1) := by decide +kernel
theorem dL_reject_3 : decode cL_reject 3 = .ok (.iload_n 1, 1) := by decide +kernel
theorem dL_reject_4 : decode cL_reject 4 = .ok (.invokevirtual 32, 3) := by decide +kernel
theorem dL_reject_7 : decode cL_reject 7 = .ok (.i2l, 1) := by decide +kernel
theorem dL_reject_8 : decode cL_reject 8 = .ok (.lastore, 1) := by decide +kernel
theorem dL_reject_9 : decode cL_reject 9 = .ok (.goto 9, 3) := by decide +kernel
theorem dL_reject_12 : decode cL_reject 12 = .ok (.astore_n 3, 1) := by decide +kernel
theorem dL_reject_13 : decode cL_reject 13 = .ok (.iconst 1, 1) := by decide +kernel
theorem dL_reject_14 : decode cL_reject 14 = .ok (.ireturn, 1) := by decide +kernel
theorem dL_reject_15 : decode cL_reject 15 = .ok (.astore_n 3, 1) := by decide +kernel
theorem dL_reject_16 : decode cL_reject 16 = .ok (.iconst 2, 1) := by decide +kernel
theorem dL_reject_17 : decode cL_reject 17 = .ok (.ireturn, 1) := by decide +kernel
theorem dL_reject_18 : decode cL_reject 18 = .ok (.iconst 0, 1) := by decide +kernel
theorem dL_reject_19 : decode cL_reject 19 = .ok (.ireturn, 1) := by decide +kernel
set_option maxRecDepth 20000 in
theorem ggL_merge_X4_merge : GoodIn wsL_merge wsX4_merge := goodIn_ca (goodIn_ca (goodIn_ca (goodIn_r _ [8, 9, 10, 11, 12, 13, 14, 7, 15, 16, 17, 18, 19, 20, 21, 22, 23, 24, 25, 26, 27, 28, 29, 30, 31, 32, 33, 34, 35, 36, 37, 38, 39, 40, 41, 42, 43, 44, 45, 46, 47, 48, 49, 50, 51, 52, 53, 54, 55, 56, 57, 58, 59, 60, 61, 62, 63, 64, 65, 66, 67, 68, 69, 70, 71, 72] (by decide +kernel) (by decide +kernel)) (goodIn_sub (fun _ h => List.mem_cons_of_mem _ (List.mem_append_left _ (List.mem_append_left _ (List.mem_append_right _ h)))) (by decide +kernel))) (goodIn_sub (fun _ h => List.mem_cons_of_mem _ (List.mem_append_left _ (List.mem_append_right _ h))) (by decide +kernel))) (goodIn_sub (fun _ h => List.mem_cons_of_mem _ (List.mem_append_right _ h)) (by decide +kernel))
set_option maxRecDepth 20000 in
theorem gL_merge_X4_merge : GoodIn wsL_merge (wsV RL 35 RX4 yX4_merge wsX4_merge) := goodIn_app (goodIn_of _ (by decide +kernel)) ggL_merge_X4_merge
theorem dL_merge_0 : decode cL_merge 0 = .ok (.aload_n 2, 1) := by decide +kernel
theorem dL_merge_1 : decode cL_merge 1 = .ok (.iconst 0, 1) := by decide +kernel
theorem dL_merge_2 : decode cL_merge 2 = .ok (.aload_n 0, 1) := by decide +kernel
theorem dL_merge_3 : decode cL_merge 3 = .ok (.iload_n 1, 1) := by decide +kernel
theorem dL_merge_4 : decode cL_merge 4 = .ok (.invokevirtual 35, 3) := by decide +kernel
theorem dL_merge_7 : decode cL_merge 7 = .ok (.i2l, 1) := by decide +kernel
theorem dL_merge_8 : decode cL_merge 8 = .ok (.lastore, 1) := by decide +kernel
theorem dL_merge_9 : decode cL_merge 9 = .ok (.goto 12, 3) := by decide +kernel
theorem dL_merge_12 : decode cL_merge 12 = .ok (.astore_n 3, 1) := by decide +kernel
theorem dL_merge_13 : decode cL_merge 13 = .ok (.iconst 1, 1) := by decide +kernel
theorem dL_merge_14 : decode cL_merge 14 = .ok (.ireturn, 1) := by decide +kernel
theorem dL_merge_15 : decode cL_merge 15 = .ok (.astore_n 3, 1) := by decide +kernel
theorem dL_merge_16 : decode cL_merge 16 = .ok (.iconst 2, 1) := by decide +kernel
theorem dL_merge_17 : decode cL_merge 17 = .ok (.ireturn, 1) := by decide +kernel
theorem dL_merge_18 : decode cL_merge 18 = .ok (.astore_n 3, 1) := by decide +kernel
theorem dL_merge_19 : decode cL_merge 19 = .ok (.iconst 3, 1) := by decide +kernel
theorem dL_merge_20 : decode cL_merge 20 = .ok (.ireturn, 1) := by decide +kernel
theorem dL_merge_21 : decode cL_merge 21 = .ok (.iconst 0, 1) := by decide +kernel
theorem dL_merge_22 : decode cL_merge 22 = .ok (.ireturn, 1) := by decide +kernel
set_option maxRecDepth 20000 in
theorem ggL_reopen_X4_reopen : GoodIn wsL_reopen wsX4_reopen := goodIn_ca (goodIn_ca (goodIn_ca (goodIn_r _ [8, 9, 10, 11, 12, 13, 14, 15, 7, 16, 17, 18, 19, 20, 21, 22, 23, 24, 25, 26, 27, 28, 29, 30, 31, 32, 33, 34, 35, 36, 37, 38, 39, 40, 41, 42, 43, 44, 45, 46, 47, 48, 49, 50, 51, 52, 53, 54, 55, 56, 57, 58, 59, 60, 61, 62, 63, 64, 65, 66, 67, 68, 69, 70, 71, 72, 73, 74, 75, 76, 77, 78, 79, 80, 81, 82, 83, 84, 85, 86] (by decide +kernel) (by decide +kernel)) (goodIn_sub (fun _ h => List.mem_cons_of_mem _ (List.mem_append_left _ (List.mem_append_left _ (List.mem_append_right _ h)))) (by decide +kernel))) (goodIn_sub (fun _ h => List.mem_cons_of_mem _ (List.mem_append_left _ (List.mem_append_right _ h))) (by decide +kernel))) (goodIn_sub (fun _ h => List.mem_cons_of_mem _ (List.mem_append_right _ h)) (by decide +kernel))
set_option maxRecDepth 20000 in
theorem gL_reopen_X4_reopen : GoodIn wsL_reopen (wsV RL 38 RX4 yX4_reopen wsX4_reopen) := goodIn_app (goodIn_of _ (by decide +kernel)) ggL_reopen_X4_reopen
theorem dL_reopen_0 : decode cL_reopen 0 = .ok (.aload_n 2, 1) := by decide +kernel
theorem dL_reopen_1 : decode cL_reopen 1 = .ok (.iconst 0, 1) := by decide +kernel
theorem dL_reopen_2 : decode cL_reopen 2 = .ok (.aload_n 0, 1) := by decide +kernel
theorem dL_reopen_3 : decode cL_reopen 3 = .ok (.iload_n 1, 1) := by decide +kernel
theorem dL_reopen_4 : decode cL_reopen 4 = .ok (.invokevirtual 38, 3) := by decide +kernel
theorem dL_reopen_7 : decode cL_reopen 7 = .ok (.i2l, 1) := by decide +kernel
theorem dL_reopen_8 : decode cL_reopen 8 = .ok (.lastore, 1) := by decide +kernel
