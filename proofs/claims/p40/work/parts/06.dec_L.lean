set_option maxRecDepth 100000 in
theorem dg_cL_law_0 : (decode cL_law 0 = .ok (.new 7, 3)) ∧ (decode cL_law 3 = .ok (.dup, 1)) ∧ (decode cL_law 4 = .ok (.invokespecial 9, 3)) ∧ (decode cL_law 7 = .ok (.astore_n 1, 1)) ∧ (decode cL_law 8 = .ok (.new 10, 3)) ∧ (decode cL_law 11 = .ok (.dup, 1)) ∧ (decode cL_law 12 = .ok (.invokespecial 12, 3)) ∧ (decode cL_law 15 = .ok (.astore_n 2, 1)) ∧ (decode cL_law 16 = .ok (.iconst 0, 1)) ∧ (decode cL_law 17 = .ok (.istore_n 3, 1)) ∧ (decode cL_law 18 = .ok (.iload_n 3, 1)) ∧ (decode cL_law 19 = .ok (.aload_n 0, 1)) ∧ (decode cL_law 20 = .ok (.arraylength, 1)) ∧ (decode cL_law 21 = .ok (.iconst 5, 1)) ∧ (decode cL_law 22 = .ok (.isub, 1)) ∧ (decode cL_law 23 = .ok (.if_icmp .gt 1346, 3)) := by decide +kernel
theorem dL_law_0 : decode cL_law 0 = .ok (.new 7, 3) := dg_cL_law_0.1
theorem dL_law_3 : decode cL_law 3 = .ok (.dup, 1) := dg_cL_law_0.2.1
theorem dL_law_4 : decode cL_law 4 = .ok (.invokespecial 9, 3) := dg_cL_law_0.2.2.1
theorem dL_law_7 : decode cL_law 7 = .ok (.astore_n 1, 1) := dg_cL_law_0.2.2.2.1
theorem dL_law_8 : decode cL_law 8 = .ok (.new 10, 3) := dg_cL_law_0.2.2.2.2.1
theorem dL_law_11 : decode cL_law 11 = .ok (.dup, 1) := dg_cL_law_0.2.2.2.2.2.1
theorem dL_law_12 : decode cL_law 12 = .ok (.invokespecial 12, 3) := dg_cL_law_0.2.2.2.2.2.2.1
theorem dL_law_15 : decode cL_law 15 = .ok (.astore_n 2, 1) := dg_cL_law_0.2.2.2.2.2.2.2.1
theorem dL_law_16 : decode cL_law 16 = .ok (.iconst 0, 1) := dg_cL_law_0.2.2.2.2.2.2.2.2.1
theorem dL_law_17 : decode cL_law 17 = .ok (.istore_n 3, 1) := dg_cL_law_0.2.2.2.2.2.2.2.2.2.1
theorem dL_law_18 : decode cL_law 18 = .ok (.iload_n 3, 1) := dg_cL_law_0.2.2.2.2.2.2.2.2.2.2.1
theorem dL_law_19 : decode cL_law 19 = .ok (.aload_n 0, 1) := dg_cL_law_0.2.2.2.2.2.2.2.2.2.2.2.1
theorem dL_law_20 : decode cL_law 20 = .ok (.arraylength, 1) := dg_cL_law_0.2.2.2.2.2.2.2.2.2.2.2.2.1
theorem dL_law_21 : decode cL_law 21 = .ok (.iconst 5, 1) := dg_cL_law_0.2.2.2.2.2.2.2.2.2.2.2.2.2.1
theorem dL_law_22 : decode cL_law 22 = .ok (.isub, 1) := dg_cL_law_0.2.2.2.2.2.2.2.2.2.2.2.2.2.2.1
theorem dL_law_23 : decode cL_law 23 = .ok (.if_icmp .gt 1346, 3) := dg_cL_law_0.2.2.2.2.2.2.2.2.2.2.2.2.2.2.2
set_option maxRecDepth 100000 in
theorem dg_cL_law_1 : (decode cL_law 26 = .ok (.aload_n 0, 1)) ∧ (decode cL_law 27 = .ok (.iload_n 3, 1)) ∧ (decode cL_law 28 = .ok (.iaload, 1)) ∧ (decode cL_law 29 = .ok (.bipush 63, 2)) ∧ (decode cL_law 31 = .ok (.iand, 1)) ∧ (decode cL_law 32 = .ok (.tableswitch 1331 0 38 #[172, 225, 248, 261, 274, 297, 330, 363, 386, 419, 468, 501, 534, 593, 616, 649, 662, 695, 718, 751, 784, 807, 820, 853, 896, 939, 962, 995, 1028, 1051, 1064, 1087, 1110, 1133, 1156, 1199, 1242, 1295, 1308], 172)) ∧ (decode cL_law 204 = .ok (.aload_n 1, 1)) ∧ (decode cL_law 205 = .ok (.aload_n 0, 1)) ∧ (decode cL_law 206 = .ok (.iload_n 3, 1)) ∧ (decode cL_law 207 = .ok (.iconst 1, 1)) ∧ (decode cL_law 208 = .ok (.iadd, 1)) ∧ (decode cL_law 209 = .ok (.iaload, 1)) ∧ (decode cL_law 210 = .ok (.i2l, 1)) ∧ (decode cL_law 211 = .ok (.bipush 32, 2)) ∧ (decode cL_law 213 = .ok (.lshl, 1)) ∧ (decode cL_law 214 = .ok (.aload_n 0, 1)) := by decide +kernel
theorem dL_law_26 : decode cL_law 26 = .ok (.aload_n 0, 1) := dg_cL_law_1.1
theorem dL_law_27 : decode cL_law 27 = .ok (.iload_n 3, 1) := dg_cL_law_1.2.1
theorem dL_law_28 : decode cL_law 28 = .ok (.iaload, 1) := dg_cL_law_1.2.2.1
theorem dL_law_29 : decode cL_law 29 = .ok (.bipush 63, 2) := dg_cL_law_1.2.2.2.1
theorem dL_law_31 : decode cL_law 31 = .ok (.iand, 1) := dg_cL_law_1.2.2.2.2.1
theorem dL_law_32 : decode cL_law 32 = .ok (.tableswitch 1331 0 38 #[172, 225, 248, 261, 274, 297, 330, 363, 386, 419, 468, 501, 534, 593, 616, 649, 662, 695, 718, 751, 784, 807, 820, 853, 896, 939, 962, 995, 1028, 1051, 1064, 1087, 1110, 1133, 1156, 1199, 1242, 1295, 1308], 172) := dg_cL_law_1.2.2.2.2.2.1
theorem dL_law_204 : decode cL_law 204 = .ok (.aload_n 1, 1) := dg_cL_law_1.2.2.2.2.2.2.1
theorem dL_law_205 : decode cL_law 205 = .ok (.aload_n 0, 1) := dg_cL_law_1.2.2.2.2.2.2.2.1
theorem dL_law_206 : decode cL_law 206 = .ok (.iload_n 3, 1) := dg_cL_law_1.2.2.2.2.2.2.2.2.1
theorem dL_law_207 : decode cL_law 207 = .ok (.iconst 1, 1) := dg_cL_law_1.2.2.2.2.2.2.2.2.2.1
theorem dL_law_208 : decode cL_law 208 = .ok (.iadd, 1) := dg_cL_law_1.2.2.2.2.2.2.2.2.2.2.1
theorem dL_law_209 : decode cL_law 209 = .ok (.iaload, 1) := dg_cL_law_1.2.2.2.2.2.2.2.2.2.2.2.1
theorem dL_law_210 : decode cL_law 210 = .ok (.i2l, 1) := dg_cL_law_1.2.2.2.2.2.2.2.2.2.2.2.2.1
theorem dL_law_211 : decode cL_law 211 = .ok (.bipush 32, 2) := dg_cL_law_1.2.2.2.2.2.2.2.2.2.2.2.2.2.1
theorem dL_law_213 : decode cL_law 213 = .ok (.lshl, 1) := dg_cL_law_1.2.2.2.2.2.2.2.2.2.2.2.2.2.2.1
theorem dL_law_214 : decode cL_law 214 = .ok (.aload_n 0, 1) := dg_cL_law_1.2.2.2.2.2.2.2.2.2.2.2.2.2.2.2
set_option maxRecDepth 100000 in
theorem dg_cL_law_2 : (decode cL_law 215 = .ok (.iload_n 3, 1)) ∧ (decode cL_law 216 = .ok (.iconst 2, 1)) ∧ (decode cL_law 217 = .ok (.iadd, 1)) ∧ (decode cL_law 218 = .ok (.iaload, 1)) ∧ (decode cL_law 219 = .ok (.i2l, 1)) ∧ (decode cL_law 220 = .ok (.ldc2_w 13, 3)) ∧ (decode cL_law 223 = .ok (.land, 1)) ∧ (decode cL_law 224 = .ok (.lor, 1)) ∧ (decode cL_law 225 = .ok (.invokevirtual 15, 3)) ∧ (decode cL_law 228 = .ok (.pop, 1)) ∧ (decode cL_law 229 = .ok (.aload_n 2, 1)) ∧ (decode cL_law 230 = .ok (.aload_n 0, 1)) ∧ (decode cL_law 231 = .ok (.iload_n 3, 1)) ∧ (decode cL_law 232 = .ok (.iconst 1, 1)) ∧ (decode cL_law 233 = .ok (.iadd, 1)) ∧ (decode cL_law 234 = .ok (.iaload, 1)) := by decide +kernel
theorem dL_law_215 : decode cL_law 215 = .ok (.iload_n 3, 1) := dg_cL_law_2.1
theorem dL_law_216 : decode cL_law 216 = .ok (.iconst 2, 1) := dg_cL_law_2.2.1
theorem dL_law_217 : decode cL_law 217 = .ok (.iadd, 1) := dg_cL_law_2.2.2.1
theorem dL_law_218 : decode cL_law 218 = .ok (.iaload, 1) := dg_cL_law_2.2.2.2.1
theorem dL_law_219 : decode cL_law 219 = .ok (.i2l, 1) := dg_cL_law_2.2.2.2.2.1
theorem dL_law_220 : decode cL_law 220 = .ok (.ldc2_w 13, 3) := dg_cL_law_2.2.2.2.2.2.1
theorem dL_law_223 : decode cL_law 223 = .ok (.land, 1) := dg_cL_law_2.2.2.2.2.2.2.1
theorem dL_law_224 : decode cL_law 224 = .ok (.lor, 1) := dg_cL_law_2.2.2.2.2.2.2.2.1
theorem dL_law_225 : decode cL_law 225 = .ok (.invokevirtual 15, 3) := dg_cL_law_2.2.2.2.2.2.2.2.2.1
theorem dL_law_228 : decode cL_law 228 = .ok (.pop, 1) := dg_cL_law_2.2.2.2.2.2.2.2.2.2.1
theorem dL_law_229 : decode cL_law 229 = .ok (.aload_n 2, 1) := dg_cL_law_2.2.2.2.2.2.2.2.2.2.2.1
theorem dL_law_230 : decode cL_law 230 = .ok (.aload_n 0, 1) := dg_cL_law_2.2.2.2.2.2.2.2.2.2.2.2.1
theorem dL_law_231 : decode cL_law 231 = .ok (.iload_n 3, 1) := dg_cL_law_2.2.2.2.2.2.2.2.2.2.2.2.2.1
theorem dL_law_232 : decode cL_law 232 = .ok (.iconst 1, 1) := dg_cL_law_2.2.2.2.2.2.2.2.2.2.2.2.2.2.1
theorem dL_law_233 : decode cL_law 233 = .ok (.iadd, 1) := dg_cL_law_2.2.2.2.2.2.2.2.2.2.2.2.2.2.2.1
theorem dL_law_234 : decode cL_law 234 = .ok (.iaload, 1) := dg_cL_law_2.2.2.2.2.2.2.2.2.2.2.2.2.2.2.2
set_option maxRecDepth 100000 in
theorem dg_cL_law_3 : (decode cL_law 235 = .ok (.i2l, 1)) ∧ (decode cL_law 236 = .ok (.bipush 32, 2)) ∧ (decode cL_law 238 = .ok (.lshl, 1)) ∧ (decode cL_law 239 = .ok (.aload_n 0, 1)) ∧ (decode cL_law 240 = .ok (.iload_n 3, 1)) ∧ (decode cL_law 241 = .ok (.iconst 2, 1)) ∧ (decode cL_law 242 = .ok (.iadd, 1)) ∧ (decode cL_law 243 = .ok (.iaload, 1)) ∧ (decode cL_law 244 = .ok (.i2l, 1)) ∧ (decode cL_law 245 = .ok (.ldc2_w 13, 3)) ∧ (decode cL_law 248 = .ok (.land, 1)) ∧ (decode cL_law 249 = .ok (.lor, 1)) ∧ (decode cL_law 250 = .ok (.invokevirtual 19, 3)) ∧ (decode cL_law 253 = .ok (.pop, 1)) ∧ (decode cL_law 254 = .ok (.goto 1109, 3)) ∧ (decode cL_law 257 = .ok (.aload_n 1, 1)) := by decide +kernel
theorem dL_law_235 : decode cL_law 235 = .ok (.i2l, 1) := dg_cL_law_3.1
theorem dL_law_236 : decode cL_law 236 = .ok (.bipush 32, 2) := dg_cL_law_3.2.1
theorem dL_law_238 : decode cL_law 238 = .ok (.lshl, 1) := dg_cL_law_3.2.2.1
theorem dL_law_239 : decode cL_law 239 = .ok (.aload_n 0, 1) := dg_cL_law_3.2.2.2.1
theorem dL_law_240 : decode cL_law 240 = .ok (.iload_n 3, 1) := dg_cL_law_3.2.2.2.2.1
theorem dL_law_241 : decode cL_law 241 = .ok (.iconst 2, 1) := dg_cL_law_3.2.2.2.2.2.1
theorem dL_law_242 : decode cL_law 242 = .ok (.iadd, 1) := dg_cL_law_3.2.2.2.2.2.2.1
theorem dL_law_243 : decode cL_law 243 = .ok (.iaload, 1) := dg_cL_law_3.2.2.2.2.2.2.2.1
theorem dL_law_244 : decode cL_law 244 = .ok (.i2l, 1) := dg_cL_law_3.2.2.2.2.2.2.2.2.1
theorem dL_law_245 : decode cL_law 245 = .ok (.ldc2_w 13, 3) := dg_cL_law_3.2.2.2.2.2.2.2.2.2.1
theorem dL_law_248 : decode cL_law 248 = .ok (.land, 1) := dg_cL_law_3.2.2.2.2.2.2.2.2.2.2.1
theorem dL_law_249 : decode cL_law 249 = .ok (.lor, 1) := dg_cL_law_3.2.2.2.2.2.2.2.2.2.2.2.1
theorem dL_law_250 : decode cL_law 250 = .ok (.invokevirtual 19, 3) := dg_cL_law_3.2.2.2.2.2.2.2.2.2.2.2.2.1
theorem dL_law_253 : decode cL_law 253 = .ok (.pop, 1) := dg_cL_law_3.2.2.2.2.2.2.2.2.2.2.2.2.2.1
theorem dL_law_254 : decode cL_law 254 = .ok (.goto 1109, 3) := dg_cL_law_3.2.2.2.2.2.2.2.2.2.2.2.2.2.2.1
theorem dL_law_257 : decode cL_law 257 = .ok (.aload_n 1, 1) := dg_cL_law_3.2.2.2.2.2.2.2.2.2.2.2.2.2.2.2
set_option maxRecDepth 100000 in
theorem dg_cL_law_4 : (decode cL_law 258 = .ok (.aload_n 0, 1)) ∧ (decode cL_law 259 = .ok (.iload_n 3, 1)) ∧ (decode cL_law 260 = .ok (.iconst 1, 1)) ∧ (decode cL_law 261 = .ok (.iadd, 1)) ∧ (decode cL_law 262 = .ok (.iaload, 1)) ∧ (decode cL_law 263 = .ok (.invokevirtual 20, 3)) ∧ (decode cL_law 266 = .ok (.pop, 1)) ∧ (decode cL_law 267 = .ok (.aload_n 2, 1)) ∧ (decode cL_law 268 = .ok (.aload_n 0, 1)) ∧ (decode cL_law 269 = .ok (.iload_n 3, 1)) ∧ (decode cL_law 270 = .ok (.iconst 1, 1)) ∧ (decode cL_law 271 = .ok (.iadd, 1)) ∧ (decode cL_law 272 = .ok (.iaload, 1)) ∧ (decode cL_law 273 = .ok (.invokevirtual 24, 3)) ∧ (decode cL_law 276 = .ok (.pop, 1)) ∧ (decode cL_law 277 = .ok (.goto 1086, 3)) := by decide +kernel
theorem dL_law_258 : decode cL_law 258 = .ok (.aload_n 0, 1) := dg_cL_law_4.1
theorem dL_law_259 : decode cL_law 259 = .ok (.iload_n 3, 1) := dg_cL_law_4.2.1
theorem dL_law_260 : decode cL_law 260 = .ok (.iconst 1, 1) := dg_cL_law_4.2.2.1
theorem dL_law_261 : decode cL_law 261 = .ok (.iadd, 1) := dg_cL_law_4.2.2.2.1
theorem dL_law_262 : decode cL_law 262 = .ok (.iaload, 1) := dg_cL_law_4.2.2.2.2.1
theorem dL_law_263 : decode cL_law 263 = .ok (.invokevirtual 20, 3) := dg_cL_law_4.2.2.2.2.2.1
theorem dL_law_266 : decode cL_law 266 = .ok (.pop, 1) := dg_cL_law_4.2.2.2.2.2.2.1
theorem dL_law_267 : decode cL_law 267 = .ok (.aload_n 2, 1) := dg_cL_law_4.2.2.2.2.2.2.2.1
theorem dL_law_268 : decode cL_law 268 = .ok (.aload_n 0, 1) := dg_cL_law_4.2.2.2.2.2.2.2.2.1
theorem dL_law_269 : decode cL_law 269 = .ok (.iload_n 3, 1) := dg_cL_law_4.2.2.2.2.2.2.2.2.2.1
theorem dL_law_270 : decode cL_law 270 = .ok (.iconst 1, 1) := dg_cL_law_4.2.2.2.2.2.2.2.2.2.2.1
theorem dL_law_271 : decode cL_law 271 = .ok (.iadd, 1) := dg_cL_law_4.2.2.2.2.2.2.2.2.2.2.2.1
theorem dL_law_272 : decode cL_law 272 = .ok (.iaload, 1) := dg_cL_law_4.2.2.2.2.2.2.2.2.2.2.2.2.1
theorem dL_law_273 : decode cL_law 273 = .ok (.invokevirtual 24, 3) := dg_cL_law_4.2.2.2.2.2.2.2.2.2.2.2.2.2.1
theorem dL_law_276 : decode cL_law 276 = .ok (.pop, 1) := dg_cL_law_4.2.2.2.2.2.2.2.2.2.2.2.2.2.2.1
theorem dL_law_277 : decode cL_law 277 = .ok (.goto 1086, 3) := dg_cL_law_4.2.2.2.2.2.2.2.2.2.2.2.2.2.2.2
set_option maxRecDepth 100000 in
theorem dg_cL_law_5 : (decode cL_law 280 = .ok (.aload_n 1, 1)) ∧ (decode cL_law 281 = .ok (.invokevirtual 25, 3)) ∧ (decode cL_law 284 = .ok (.pop, 1)) ∧ (decode cL_law 285 = .ok (.aload_n 2, 1)) ∧ (decode cL_law 286 = .ok (.invokevirtual 29, 3)) ∧ (decode cL_law 289 = .ok (.pop, 1)) ∧ (decode cL_law 290 = .ok (.goto 1073, 3)) ∧ (decode cL_law 293 = .ok (.aload_n 1, 1)) ∧ (decode cL_law 294 = .ok (.invokevirtual 30, 3)) ∧ (decode cL_law 297 = .ok (.pop, 1)) ∧ (decode cL_law 298 = .ok (.aload_n 2, 1)) ∧ (decode cL_law 299 = .ok (.invokevirtual 33, 3)) ∧ (decode cL_law 302 = .ok (.pop, 1)) ∧ (decode cL_law 303 = .ok (.goto 1060, 3)) ∧ (decode cL_law 306 = .ok (.aload_n 1, 1)) ∧ (decode cL_law 307 = .ok (.aload_n 0, 1)) := by decide +kernel
theorem dL_law_280 : decode cL_law 280 = .ok (.aload_n 1, 1) := dg_cL_law_5.1
theorem dL_law_281 : decode cL_law 281 = .ok (.invokevirtual 25, 3) := dg_cL_law_5.2.1
theorem dL_law_284 : decode cL_law 284 = .ok (.pop, 1) := dg_cL_law_5.2.2.1
theorem dL_law_285 : decode cL_law 285 = .ok (.aload_n 2, 1) := dg_cL_law_5.2.2.2.1
theorem dL_law_286 : decode cL_law 286 = .ok (.invokevirtual 29, 3) := dg_cL_law_5.2.2.2.2.1
theorem dL_law_289 : decode cL_law 289 = .ok (.pop, 1) := dg_cL_law_5.2.2.2.2.2.1
theorem dL_law_290 : decode cL_law 290 = .ok (.goto 1073, 3) := dg_cL_law_5.2.2.2.2.2.2.1
theorem dL_law_293 : decode cL_law 293 = .ok (.aload_n 1, 1) := dg_cL_law_5.2.2.2.2.2.2.2.1
theorem dL_law_294 : decode cL_law 294 = .ok (.invokevirtual 30, 3) := dg_cL_law_5.2.2.2.2.2.2.2.2.1
theorem dL_law_297 : decode cL_law 297 = .ok (.pop, 1) := dg_cL_law_5.2.2.2.2.2.2.2.2.2.1
theorem dL_law_298 : decode cL_law 298 = .ok (.aload_n 2, 1) := dg_cL_law_5.2.2.2.2.2.2.2.2.2.2.1
theorem dL_law_299 : decode cL_law 299 = .ok (.invokevirtual 33, 3) := dg_cL_law_5.2.2.2.2.2.2.2.2.2.2.2.1
theorem dL_law_302 : decode cL_law 302 = .ok (.pop, 1) := dg_cL_law_5.2.2.2.2.2.2.2.2.2.2.2.2.1
theorem dL_law_303 : decode cL_law 303 = .ok (.goto 1060, 3) := dg_cL_law_5.2.2.2.2.2.2.2.2.2.2.2.2.2.1
theorem dL_law_306 : decode cL_law 306 = .ok (.aload_n 1, 1) := dg_cL_law_5.2.2.2.2.2.2.2.2.2.2.2.2.2.2.1
theorem dL_law_307 : decode cL_law 307 = .ok (.aload_n 0, 1) := dg_cL_law_5.2.2.2.2.2.2.2.2.2.2.2.2.2.2.2
set_option maxRecDepth 100000 in
theorem dg_cL_law_6 : (decode cL_law 308 = .ok (.iload_n 3, 1)) ∧ (decode cL_law 309 = .ok (.iconst 1, 1)) ∧ (decode cL_law 310 = .ok (.iadd, 1)) ∧ (decode cL_law 311 = .ok (.iaload, 1)) ∧ (decode cL_law 312 = .ok (.invokevirtual 34, 3)) ∧ (decode cL_law 315 = .ok (.pop, 1)) ∧ (decode cL_law 316 = .ok (.aload_n 2, 1)) ∧ (decode cL_law 317 = .ok (.aload_n 0, 1)) ∧ (decode cL_law 318 = .ok (.iload_n 3, 1)) ∧ (decode cL_law 319 = .ok (.iconst 1, 1)) ∧ (decode cL_law 320 = .ok (.iadd, 1)) ∧ (decode cL_law 321 = .ok (.iaload, 1)) ∧ (decode cL_law 322 = .ok (.invokevirtual 37, 3)) ∧ (decode cL_law 325 = .ok (.pop, 1)) ∧ (decode cL_law 326 = .ok (.goto 1037, 3)) ∧ (decode cL_law 329 = .ok (.aload_n 1, 1)) := by decide +kernel
theorem dL_law_308 : decode cL_law 308 = .ok (.iload_n 3, 1) := dg_cL_law_6.1
theorem dL_law_309 : decode cL_law 309 = .ok (.iconst 1, 1) := dg_cL_law_6.2.1
theorem dL_law_310 : decode cL_law 310 = .ok (.iadd, 1) := dg_cL_law_6.2.2.1
theorem dL_law_311 : decode cL_law 311 = .ok (.iaload, 1) := dg_cL_law_6.2.2.2.1
theorem dL_law_312 : decode cL_law 312 = .ok (.invokevirtual 34, 3) := dg_cL_law_6.2.2.2.2.1
theorem dL_law_315 : decode cL_law 315 = .ok (.pop, 1) := dg_cL_law_6.2.2.2.2.2.1
theorem dL_law_316 : decode cL_law 316 = .ok (.aload_n 2, 1) := dg_cL_law_6.2.2.2.2.2.2.1
theorem dL_law_317 : decode cL_law 317 = .ok (.aload_n 0, 1) := dg_cL_law_6.2.2.2.2.2.2.2.1
theorem dL_law_318 : decode cL_law 318 = .ok (.iload_n 3, 1) := dg_cL_law_6.2.2.2.2.2.2.2.2.1
theorem dL_law_319 : decode cL_law 319 = .ok (.iconst 1, 1) := dg_cL_law_6.2.2.2.2.2.2.2.2.2.1
theorem dL_law_320 : decode cL_law 320 = .ok (.iadd, 1) := dg_cL_law_6.2.2.2.2.2.2.2.2.2.2.1
theorem dL_law_321 : decode cL_law 321 = .ok (.iaload, 1) := dg_cL_law_6.2.2.2.2.2.2.2.2.2.2.2.1
theorem dL_law_322 : decode cL_law 322 = .ok (.invokevirtual 37, 3) := dg_cL_law_6.2.2.2.2.2.2.2.2.2.2.2.2.1
theorem dL_law_325 : decode cL_law 325 = .ok (.pop, 1) := dg_cL_law_6.2.2.2.2.2.2.2.2.2.2.2.2.2.1
theorem dL_law_326 : decode cL_law 326 = .ok (.goto 1037, 3) := dg_cL_law_6.2.2.2.2.2.2.2.2.2.2.2.2.2.2.1
theorem dL_law_329 : decode cL_law 329 = .ok (.aload_n 1, 1) := dg_cL_law_6.2.2.2.2.2.2.2.2.2.2.2.2.2.2.2
set_option maxRecDepth 100000 in
theorem dg_cL_law_7 : (decode cL_law 330 = .ok (.aload_n 0, 1)) ∧ (decode cL_law 331 = .ok (.iload_n 3, 1)) ∧ (decode cL_law 332 = .ok (.iconst 1, 1)) ∧ (decode cL_law 333 = .ok (.iadd, 1)) ∧ (decode cL_law 334 = .ok (.iaload, 1)) ∧ (decode cL_law 335 = .ok (.aload_n 0, 1)) ∧ (decode cL_law 336 = .ok (.iload_n 3, 1)) ∧ (decode cL_law 337 = .ok (.iconst 2, 1)) ∧ (decode cL_law 338 = .ok (.iadd, 1)) ∧ (decode cL_law 339 = .ok (.iaload, 1)) ∧ (decode cL_law 340 = .ok (.invokevirtual 38, 3)) ∧ (decode cL_law 343 = .ok (.pop, 1)) ∧ (decode cL_law 344 = .ok (.aload_n 2, 1)) ∧ (decode cL_law 345 = .ok (.aload_n 0, 1)) ∧ (decode cL_law 346 = .ok (.iload_n 3, 1)) ∧ (decode cL_law 347 = .ok (.iconst 1, 1)) := by decide +kernel
theorem dL_law_330 : decode cL_law 330 = .ok (.aload_n 0, 1) := dg_cL_law_7.1
theorem dL_law_331 : decode cL_law 331 = .ok (.iload_n 3, 1) := dg_cL_law_7.2.1
theorem dL_law_332 : decode cL_law 332 = .ok (.iconst 1, 1) := dg_cL_law_7.2.2.1
theorem dL_law_333 : decode cL_law 333 = .ok (.iadd, 1) := dg_cL_law_7.2.2.2.1
theorem dL_law_334 : decode cL_law 334 = .ok (.iaload, 1) := dg_cL_law_7.2.2.2.2.1
theorem dL_law_335 : decode cL_law 335 = .ok (.aload_n 0, 1) := dg_cL_law_7.2.2.2.2.2.1
theorem dL_law_336 : decode cL_law 336 = .ok (.iload_n 3, 1) := dg_cL_law_7.2.2.2.2.2.2.1
theorem dL_law_337 : decode cL_law 337 = .ok (.iconst 2, 1) := dg_cL_law_7.2.2.2.2.2.2.2.1
theorem dL_law_338 : decode cL_law 338 = .ok (.iadd, 1) := dg_cL_law_7.2.2.2.2.2.2.2.2.1
theorem dL_law_339 : decode cL_law 339 = .ok (.iaload, 1) := dg_cL_law_7.2.2.2.2.2.2.2.2.2.1
theorem dL_law_340 : decode cL_law 340 = .ok (.invokevirtual 38, 3) := dg_cL_law_7.2.2.2.2.2.2.2.2.2.2.1
theorem dL_law_343 : decode cL_law 343 = .ok (.pop, 1) := dg_cL_law_7.2.2.2.2.2.2.2.2.2.2.2.1
theorem dL_law_344 : decode cL_law 344 = .ok (.aload_n 2, 1) := dg_cL_law_7.2.2.2.2.2.2.2.2.2.2.2.2.1
theorem dL_law_345 : decode cL_law 345 = .ok (.aload_n 0, 1) := dg_cL_law_7.2.2.2.2.2.2.2.2.2.2.2.2.2.1
theorem dL_law_346 : decode cL_law 346 = .ok (.iload_n 3, 1) := dg_cL_law_7.2.2.2.2.2.2.2.2.2.2.2.2.2.2.1
theorem dL_law_347 : decode cL_law 347 = .ok (.iconst 1, 1) := dg_cL_law_7.2.2.2.2.2.2.2.2.2.2.2.2.2.2.2
set_option maxRecDepth 100000 in
theorem dg_cL_law_8 : (decode cL_law 348 = .ok (.iadd, 1)) ∧ (decode cL_law 349 = .ok (.iaload, 1)) ∧ (decode cL_law 350 = .ok (.aload_n 0, 1)) ∧ (decode cL_law 351 = .ok (.iload_n 3, 1)) ∧ (decode cL_law 352 = .ok (.iconst 2, 1)) ∧ (decode cL_law 353 = .ok (.iadd, 1)) ∧ (decode cL_law 354 = .ok (.iaload, 1)) ∧ (decode cL_law 355 = .ok (.invokevirtual 42, 3)) ∧ (decode cL_law 358 = .ok (.pop, 1)) ∧ (decode cL_law 359 = .ok (.goto 1004, 3)) ∧ (decode cL_law 362 = .ok (.aload_n 1, 1)) ∧ (decode cL_law 363 = .ok (.aload_n 0, 1)) ∧ (decode cL_law 364 = .ok (.iload_n 3, 1)) ∧ (decode cL_law 365 = .ok (.iconst 1, 1)) ∧ (decode cL_law 366 = .ok (.iadd, 1)) ∧ (decode cL_law 367 = .ok (.iaload, 1)) := by decide +kernel
theorem dL_law_348 : decode cL_law 348 = .ok (.iadd, 1) := dg_cL_law_8.1
theorem dL_law_349 : decode cL_law 349 = .ok (.iaload, 1) := dg_cL_law_8.2.1
theorem dL_law_350 : decode cL_law 350 = .ok (.aload_n 0, 1) := dg_cL_law_8.2.2.1
theorem dL_law_351 : decode cL_law 351 = .ok (.iload_n 3, 1) := dg_cL_law_8.2.2.2.1
theorem dL_law_352 : decode cL_law 352 = .ok (.iconst 2, 1) := dg_cL_law_8.2.2.2.2.1
theorem dL_law_353 : decode cL_law 353 = .ok (.iadd, 1) := dg_cL_law_8.2.2.2.2.2.1
theorem dL_law_354 : decode cL_law 354 = .ok (.iaload, 1) := dg_cL_law_8.2.2.2.2.2.2.1
theorem dL_law_355 : decode cL_law 355 = .ok (.invokevirtual 42, 3) := dg_cL_law_8.2.2.2.2.2.2.2.1
theorem dL_law_358 : decode cL_law 358 = .ok (.pop, 1) := dg_cL_law_8.2.2.2.2.2.2.2.2.1
theorem dL_law_359 : decode cL_law 359 = .ok (.goto 1004, 3) := dg_cL_law_8.2.2.2.2.2.2.2.2.2.1
theorem dL_law_362 : decode cL_law 362 = .ok (.aload_n 1, 1) := dg_cL_law_8.2.2.2.2.2.2.2.2.2.2.1
theorem dL_law_363 : decode cL_law 363 = .ok (.aload_n 0, 1) := dg_cL_law_8.2.2.2.2.2.2.2.2.2.2.2.1
theorem dL_law_364 : decode cL_law 364 = .ok (.iload_n 3, 1) := dg_cL_law_8.2.2.2.2.2.2.2.2.2.2.2.2.1
theorem dL_law_365 : decode cL_law 365 = .ok (.iconst 1, 1) := dg_cL_law_8.2.2.2.2.2.2.2.2.2.2.2.2.2.1
theorem dL_law_366 : decode cL_law 366 = .ok (.iadd, 1) := dg_cL_law_8.2.2.2.2.2.2.2.2.2.2.2.2.2.2.1
theorem dL_law_367 : decode cL_law 367 = .ok (.iaload, 1) := dg_cL_law_8.2.2.2.2.2.2.2.2.2.2.2.2.2.2.2
set_option maxRecDepth 100000 in
theorem dg_cL_law_9 : (decode cL_law 368 = .ok (.aload_n 0, 1)) ∧ (decode cL_law 369 = .ok (.iload_n 3, 1)) ∧ (decode cL_law 370 = .ok (.iconst 2, 1)) ∧ (decode cL_law 371 = .ok (.iadd, 1)) ∧ (decode cL_law 372 = .ok (.iaload, 1)) ∧ (decode cL_law 373 = .ok (.invokevirtual 43, 3)) ∧ (decode cL_law 376 = .ok (.pop, 1)) ∧ (decode cL_law 377 = .ok (.aload_n 2, 1)) ∧ (decode cL_law 378 = .ok (.aload_n 0, 1)) ∧ (decode cL_law 379 = .ok (.iload_n 3, 1)) ∧ (decode cL_law 380 = .ok (.iconst 1, 1)) ∧ (decode cL_law 381 = .ok (.iadd, 1)) ∧ (decode cL_law 382 = .ok (.iaload, 1)) ∧ (decode cL_law 383 = .ok (.aload_n 0, 1)) ∧ (decode cL_law 384 = .ok (.iload_n 3, 1)) ∧ (decode cL_law 385 = .ok (.iconst 2, 1)) := by decide +kernel
theorem dL_law_368 : decode cL_law 368 = .ok (.aload_n 0, 1) := dg_cL_law_9.1
theorem dL_law_369 : decode cL_law 369 = .ok (.iload_n 3, 1) := dg_cL_law_9.2.1
theorem dL_law_370 : decode cL_law 370 = .ok (.iconst 2, 1) := dg_cL_law_9.2.2.1
theorem dL_law_371 : decode cL_law 371 = .ok (.iadd, 1) := dg_cL_law_9.2.2.2.1
theorem dL_law_372 : decode cL_law 372 = .ok (.iaload, 1) := dg_cL_law_9.2.2.2.2.1
theorem dL_law_373 : decode cL_law 373 = .ok (.invokevirtual 43, 3) := dg_cL_law_9.2.2.2.2.2.1
theorem dL_law_376 : decode cL_law 376 = .ok (.pop, 1) := dg_cL_law_9.2.2.2.2.2.2.1
theorem dL_law_377 : decode cL_law 377 = .ok (.aload_n 2, 1) := dg_cL_law_9.2.2.2.2.2.2.2.1
theorem dL_law_378 : decode cL_law 378 = .ok (.aload_n 0, 1) := dg_cL_law_9.2.2.2.2.2.2.2.2.1
theorem dL_law_379 : decode cL_law 379 = .ok (.iload_n 3, 1) := dg_cL_law_9.2.2.2.2.2.2.2.2.2.1
theorem dL_law_380 : decode cL_law 380 = .ok (.iconst 1, 1) := dg_cL_law_9.2.2.2.2.2.2.2.2.2.2.1
theorem dL_law_381 : decode cL_law 381 = .ok (.iadd, 1) := dg_cL_law_9.2.2.2.2.2.2.2.2.2.2.2.1
theorem dL_law_382 : decode cL_law 382 = .ok (.iaload, 1) := dg_cL_law_9.2.2.2.2.2.2.2.2.2.2.2.2.1
theorem dL_law_383 : decode cL_law 383 = .ok (.aload_n 0, 1) := dg_cL_law_9.2.2.2.2.2.2.2.2.2.2.2.2.2.1
theorem dL_law_384 : decode cL_law 384 = .ok (.iload_n 3, 1) := dg_cL_law_9.2.2.2.2.2.2.2.2.2.2.2.2.2.2.1
theorem dL_law_385 : decode cL_law 385 = .ok (.iconst 2, 1) := dg_cL_law_9.2.2.2.2.2.2.2.2.2.2.2.2.2.2.2
set_option maxRecDepth 100000 in
theorem dg_cL_law_10 : (decode cL_law 386 = .ok (.iadd, 1)) ∧ (decode cL_law 387 = .ok (.iaload, 1)) ∧ (decode cL_law 388 = .ok (.invokevirtual 46, 3)) ∧ (decode cL_law 391 = .ok (.pop, 1)) ∧ (decode cL_law 392 = .ok (.goto 971, 3)) ∧ (decode cL_law 395 = .ok (.aload_n 1, 1)) ∧ (decode cL_law 396 = .ok (.aload_n 0, 1)) ∧ (decode cL_law 397 = .ok (.iload_n 3, 1)) ∧ (decode cL_law 398 = .ok (.iconst 1, 1)) ∧ (decode cL_law 399 = .ok (.iadd, 1)) ∧ (decode cL_law 400 = .ok (.iaload, 1)) ∧ (decode cL_law 401 = .ok (.invokevirtual 47, 3)) ∧ (decode cL_law 404 = .ok (.pop, 1)) ∧ (decode cL_law 405 = .ok (.aload_n 2, 1)) ∧ (decode cL_law 406 = .ok (.aload_n 0, 1)) ∧ (decode cL_law 407 = .ok (.iload_n 3, 1)) := by decide +kernel
theorem dL_law_386 : decode cL_law 386 = .ok (.iadd, 1) := dg_cL_law_10.1
theorem dL_law_387 : decode cL_law 387 = .ok (.iaload, 1) := dg_cL_law_10.2.1
theorem dL_law_388 : decode cL_law 388 = .ok (.invokevirtual 46, 3) := dg_cL_law_10.2.2.1
theorem dL_law_391 : decode cL_law 391 = .ok (.pop, 1) := dg_cL_law_10.2.2.2.1
theorem dL_law_392 : decode cL_law 392 = .ok (.goto 971, 3) := dg_cL_law_10.2.2.2.2.1
theorem dL_law_395 : decode cL_law 395 = .ok (.aload_n 1, 1) := dg_cL_law_10.2.2.2.2.2.1
theorem dL_law_396 : decode cL_law 396 = .ok (.aload_n 0, 1) := dg_cL_law_10.2.2.2.2.2.2.1
theorem dL_law_397 : decode cL_law 397 = .ok (.iload_n 3, 1) := dg_cL_law_10.2.2.2.2.2.2.2.1
theorem dL_law_398 : decode cL_law 398 = .ok (.iconst 1, 1) := dg_cL_law_10.2.2.2.2.2.2.2.2.1
theorem dL_law_399 : decode cL_law 399 = .ok (.iadd, 1) := dg_cL_law_10.2.2.2.2.2.2.2.2.2.1
theorem dL_law_400 : decode cL_law 400 = .ok (.iaload, 1) := dg_cL_law_10.2.2.2.2.2.2.2.2.2.2.1
theorem dL_law_401 : decode cL_law 401 = .ok (.invokevirtual 47, 3) := dg_cL_law_10.2.2.2.2.2.2.2.2.2.2.2.1
theorem dL_law_404 : decode cL_law 404 = .ok (.pop, 1) := dg_cL_law_10.2.2.2.2.2.2.2.2.2.2.2.2.1
theorem dL_law_405 : decode cL_law 405 = .ok (.aload_n 2, 1) := dg_cL_law_10.2.2.2.2.2.2.2.2.2.2.2.2.2.1
theorem dL_law_406 : decode cL_law 406 = .ok (.aload_n 0, 1) := dg_cL_law_10.2.2.2.2.2.2.2.2.2.2.2.2.2.2.1
theorem dL_law_407 : decode cL_law 407 = .ok (.iload_n 3, 1) := dg_cL_law_10.2.2.2.2.2.2.2.2.2.2.2.2.2.2.2
set_option maxRecDepth 100000 in
theorem dg_cL_law_11 : (decode cL_law 408 = .ok (.iconst 1, 1)) ∧ (decode cL_law 409 = .ok (.iadd, 1)) ∧ (decode cL_law 410 = .ok (.iaload, 1)) ∧ (decode cL_law 411 = .ok (.invokevirtual 50, 3)) ∧ (decode cL_law 414 = .ok (.pop, 1)) ∧ (decode cL_law 415 = .ok (.goto 948, 3)) ∧ (decode cL_law 418 = .ok (.aload_n 1, 1)) ∧ (decode cL_law 419 = .ok (.aload_n 0, 1)) ∧ (decode cL_law 420 = .ok (.iload_n 3, 1)) ∧ (decode cL_law 421 = .ok (.iconst 1, 1)) ∧ (decode cL_law 422 = .ok (.iadd, 1)) ∧ (decode cL_law 423 = .ok (.iaload, 1)) ∧ (decode cL_law 424 = .ok (.aload_n 0, 1)) ∧ (decode cL_law 425 = .ok (.iload_n 3, 1)) ∧ (decode cL_law 426 = .ok (.iconst 2, 1)) ∧ (decode cL_law 427 = .ok (.iadd, 1)) := by decide +kernel
theorem dL_law_408 : decode cL_law 408 = .ok (.iconst 1, 1) := dg_cL_law_11.1
theorem dL_law_409 : decode cL_law 409 = .ok (.iadd, 1) := dg_cL_law_11.2.1
theorem dL_law_410 : decode cL_law 410 = .ok (.iaload, 1) := dg_cL_law_11.2.2.1
theorem dL_law_411 : decode cL_law 411 = .ok (.invokevirtual 50, 3) := dg_cL_law_11.2.2.2.1
theorem dL_law_414 : decode cL_law 414 = .ok (.pop, 1) := dg_cL_law_11.2.2.2.2.1
theorem dL_law_415 : decode cL_law 415 = .ok (.goto 948, 3) := dg_cL_law_11.2.2.2.2.2.1
theorem dL_law_418 : decode cL_law 418 = .ok (.aload_n 1, 1) := dg_cL_law_11.2.2.2.2.2.2.1
theorem dL_law_419 : decode cL_law 419 = .ok (.aload_n 0, 1) := dg_cL_law_11.2.2.2.2.2.2.2.1
theorem dL_law_420 : decode cL_law 420 = .ok (.iload_n 3, 1) := dg_cL_law_11.2.2.2.2.2.2.2.2.1
theorem dL_law_421 : decode cL_law 421 = .ok (.iconst 1, 1) := dg_cL_law_11.2.2.2.2.2.2.2.2.2.1
theorem dL_law_422 : decode cL_law 422 = .ok (.iadd, 1) := dg_cL_law_11.2.2.2.2.2.2.2.2.2.2.1
theorem dL_law_423 : decode cL_law 423 = .ok (.iaload, 1) := dg_cL_law_11.2.2.2.2.2.2.2.2.2.2.2.1
theorem dL_law_424 : decode cL_law 424 = .ok (.aload_n 0, 1) := dg_cL_law_11.2.2.2.2.2.2.2.2.2.2.2.2.1
theorem dL_law_425 : decode cL_law 425 = .ok (.iload_n 3, 1) := dg_cL_law_11.2.2.2.2.2.2.2.2.2.2.2.2.2.1
theorem dL_law_426 : decode cL_law 426 = .ok (.iconst 2, 1) := dg_cL_law_11.2.2.2.2.2.2.2.2.2.2.2.2.2.2.1
theorem dL_law_427 : decode cL_law 427 = .ok (.iadd, 1) := dg_cL_law_11.2.2.2.2.2.2.2.2.2.2.2.2.2.2.2
set_option maxRecDepth 100000 in
theorem dg_cL_law_12 : (decode cL_law 428 = .ok (.iaload, 1)) ∧ (decode cL_law 429 = .ok (.invokevirtual 51, 3)) ∧ (decode cL_law 432 = .ok (.pop, 1)) ∧ (decode cL_law 433 = .ok (.aload_n 2, 1)) ∧ (decode cL_law 434 = .ok (.aload_n 0, 1)) ∧ (decode cL_law 435 = .ok (.iload_n 3, 1)) ∧ (decode cL_law 436 = .ok (.iconst 1, 1)) ∧ (decode cL_law 437 = .ok (.iadd, 1)) ∧ (decode cL_law 438 = .ok (.iaload, 1)) ∧ (decode cL_law 439 = .ok (.aload_n 0, 1)) ∧ (decode cL_law 440 = .ok (.iload_n 3, 1)) ∧ (decode cL_law 441 = .ok (.iconst 2, 1)) ∧ (decode cL_law 442 = .ok (.iadd, 1)) ∧ (decode cL_law 443 = .ok (.iaload, 1)) ∧ (decode cL_law 444 = .ok (.invokevirtual 54, 3)) ∧ (decode cL_law 447 = .ok (.pop, 1)) := by decide +kernel
theorem dL_law_428 : decode cL_law 428 = .ok (.iaload, 1) := dg_cL_law_12.1
theorem dL_law_429 : decode cL_law 429 = .ok (.invokevirtual 51, 3) := dg_cL_law_12.2.1
theorem dL_law_432 : decode cL_law 432 = .ok (.pop, 1) := dg_cL_law_12.2.2.1
theorem dL_law_433 : decode cL_law 433 = .ok (.aload_n 2, 1) := dg_cL_law_12.2.2.2.1
theorem dL_law_434 : decode cL_law 434 = .ok (.aload_n 0, 1) := dg_cL_law_12.2.2.2.2.1
theorem dL_law_435 : decode cL_law 435 = .ok (.iload_n 3, 1) := dg_cL_law_12.2.2.2.2.2.1
theorem dL_law_436 : decode cL_law 436 = .ok (.iconst 1, 1) := dg_cL_law_12.2.2.2.2.2.2.1
theorem dL_law_437 : decode cL_law 437 = .ok (.iadd, 1) := dg_cL_law_12.2.2.2.2.2.2.2.1
theorem dL_law_438 : decode cL_law 438 = .ok (.iaload, 1) := dg_cL_law_12.2.2.2.2.2.2.2.2.1
theorem dL_law_439 : decode cL_law 439 = .ok (.aload_n 0, 1) := dg_cL_law_12.2.2.2.2.2.2.2.2.2.1
theorem dL_law_440 : decode cL_law 440 = .ok (.iload_n 3, 1) := dg_cL_law_12.2.2.2.2.2.2.2.2.2.2.1
theorem dL_law_441 : decode cL_law 441 = .ok (.iconst 2, 1) := dg_cL_law_12.2.2.2.2.2.2.2.2.2.2.2.1
theorem dL_law_442 : decode cL_law 442 = .ok (.iadd, 1) := dg_cL_law_12.2.2.2.2.2.2.2.2.2.2.2.2.1
theorem dL_law_443 : decode cL_law 443 = .ok (.iaload, 1) := dg_cL_law_12.2.2.2.2.2.2.2.2.2.2.2.2.2.1
theorem dL_law_444 : decode cL_law 444 = .ok (.invokevirtual 54, 3) := dg_cL_law_12.2.2.2.2.2.2.2.2.2.2.2.2.2.2.1
theorem dL_law_447 : decode cL_law 447 = .ok (.pop, 1) := dg_cL_law_12.2.2.2.2.2.2.2.2.2.2.2.2.2.2.2
set_option maxRecDepth 100000 in
theorem dg_cL_law_13 : (decode cL_law 448 = .ok (.goto 915, 3)) ∧ (decode cL_law 451 = .ok (.aload_n 1, 1)) ∧ (decode cL_law 452 = .ok (.aload_n 0, 1)) ∧ (decode cL_law 453 = .ok (.iload_n 3, 1)) ∧ (decode cL_law 454 = .ok (.iconst 1, 1)) ∧ (decode cL_law 455 = .ok (.iadd, 1)) ∧ (decode cL_law 456 = .ok (.iaload, 1)) ∧ (decode cL_law 457 = .ok (.aload_n 0, 1)) ∧ (decode cL_law 458 = .ok (.iload_n 3, 1)) ∧ (decode cL_law 459 = .ok (.iconst 2, 1)) ∧ (decode cL_law 460 = .ok (.iadd, 1)) ∧ (decode cL_law 461 = .ok (.iaload, 1)) ∧ (decode cL_law 462 = .ok (.ifCond .eq 7, 3)) ∧ (decode cL_law 465 = .ok (.iconst 1, 1)) ∧ (decode cL_law 466 = .ok (.goto 4, 3)) ∧ (decode cL_law 469 = .ok (.iconst 0, 1)) := by decide +kernel
theorem dL_law_448 : decode cL_law 448 = .ok (.goto 915, 3) := dg_cL_law_13.1
theorem dL_law_451 : decode cL_law 451 = .ok (.aload_n 1, 1) := dg_cL_law_13.2.1
theorem dL_law_452 : decode cL_law 452 = .ok (.aload_n 0, 1) := dg_cL_law_13.2.2.1
theorem dL_law_453 : decode cL_law 453 = .ok (.iload_n 3, 1) := dg_cL_law_13.2.2.2.1
theorem dL_law_454 : decode cL_law 454 = .ok (.iconst 1, 1) := dg_cL_law_13.2.2.2.2.1
theorem dL_law_455 : decode cL_law 455 = .ok (.iadd, 1) := dg_cL_law_13.2.2.2.2.2.1
theorem dL_law_456 : decode cL_law 456 = .ok (.iaload, 1) := dg_cL_law_13.2.2.2.2.2.2.1
theorem dL_law_457 : decode cL_law 457 = .ok (.aload_n 0, 1) := dg_cL_law_13.2.2.2.2.2.2.2.1
theorem dL_law_458 : decode cL_law 458 = .ok (.iload_n 3, 1) := dg_cL_law_13.2.2.2.2.2.2.2.2.1
theorem dL_law_459 : decode cL_law 459 = .ok (.iconst 2, 1) := dg_cL_law_13.2.2.2.2.2.2.2.2.2.1
theorem dL_law_460 : decode cL_law 460 = .ok (.iadd, 1) := dg_cL_law_13.2.2.2.2.2.2.2.2.2.2.1
theorem dL_law_461 : decode cL_law 461 = .ok (.iaload, 1) := dg_cL_law_13.2.2.2.2.2.2.2.2.2.2.2.1
theorem dL_law_462 : decode cL_law 462 = .ok (.ifCond .eq 7, 3) := dg_cL_law_13.2.2.2.2.2.2.2.2.2.2.2.2.1
theorem dL_law_465 : decode cL_law 465 = .ok (.iconst 1, 1) := dg_cL_law_13.2.2.2.2.2.2.2.2.2.2.2.2.2.1
theorem dL_law_466 : decode cL_law 466 = .ok (.goto 4, 3) := dg_cL_law_13.2.2.2.2.2.2.2.2.2.2.2.2.2.2.1
theorem dL_law_469 : decode cL_law 469 = .ok (.iconst 0, 1) := dg_cL_law_13.2.2.2.2.2.2.2.2.2.2.2.2.2.2.2
set_option maxRecDepth 100000 in
theorem dg_cL_law_14 : (decode cL_law 470 = .ok (.invokevirtual 55, 3)) ∧ (decode cL_law 473 = .ok (.pop, 1)) ∧ (decode cL_law 474 = .ok (.aload_n 2, 1)) ∧ (decode cL_law 475 = .ok (.aload_n 0, 1)) ∧ (decode cL_law 476 = .ok (.iload_n 3, 1)) ∧ (decode cL_law 477 = .ok (.iconst 1, 1)) ∧ (decode cL_law 478 = .ok (.iadd, 1)) ∧ (decode cL_law 479 = .ok (.iaload, 1)) ∧ (decode cL_law 480 = .ok (.aload_n 0, 1)) ∧ (decode cL_law 481 = .ok (.iload_n 3, 1)) ∧ (decode cL_law 482 = .ok (.iconst 2, 1)) ∧ (decode cL_law 483 = .ok (.iadd, 1)) ∧ (decode cL_law 484 = .ok (.iaload, 1)) ∧ (decode cL_law 485 = .ok (.ifCond .eq 7, 3)) ∧ (decode cL_law 488 = .ok (.iconst 1, 1)) ∧ (decode cL_law 489 = .ok (.goto 4, 3)) := by decide +kernel
theorem dL_law_470 : decode cL_law 470 = .ok (.invokevirtual 55, 3) := dg_cL_law_14.1
theorem dL_law_473 : decode cL_law 473 = .ok (.pop, 1) := dg_cL_law_14.2.1
theorem dL_law_474 : decode cL_law 474 = .ok (.aload_n 2, 1) := dg_cL_law_14.2.2.1
theorem dL_law_475 : decode cL_law 475 = .ok (.aload_n 0, 1) := dg_cL_law_14.2.2.2.1
theorem dL_law_476 : decode cL_law 476 = .ok (.iload_n 3, 1) := dg_cL_law_14.2.2.2.2.1
theorem dL_law_477 : decode cL_law 477 = .ok (.iconst 1, 1) := dg_cL_law_14.2.2.2.2.2.1
theorem dL_law_478 : decode cL_law 478 = .ok (.iadd, 1) := dg_cL_law_14.2.2.2.2.2.2.1
theorem dL_law_479 : decode cL_law 479 = .ok (.iaload, 1) := dg_cL_law_14.2.2.2.2.2.2.2.1
theorem dL_law_480 : decode cL_law 480 = .ok (.aload_n 0, 1) := dg_cL_law_14.2.2.2.2.2.2.2.2.1
theorem dL_law_481 : decode cL_law 481 = .ok (.iload_n 3, 1) := dg_cL_law_14.2.2.2.2.2.2.2.2.2.1
theorem dL_law_482 : decode cL_law 482 = .ok (.iconst 2, 1) := dg_cL_law_14.2.2.2.2.2.2.2.2.2.2.1
theorem dL_law_483 : decode cL_law 483 = .ok (.iadd, 1) := dg_cL_law_14.2.2.2.2.2.2.2.2.2.2.2.1
theorem dL_law_484 : decode cL_law 484 = .ok (.iaload, 1) := dg_cL_law_14.2.2.2.2.2.2.2.2.2.2.2.2.1
theorem dL_law_485 : decode cL_law 485 = .ok (.ifCond .eq 7, 3) := dg_cL_law_14.2.2.2.2.2.2.2.2.2.2.2.2.2.1
theorem dL_law_488 : decode cL_law 488 = .ok (.iconst 1, 1) := dg_cL_law_14.2.2.2.2.2.2.2.2.2.2.2.2.2.2.1
theorem dL_law_489 : decode cL_law 489 = .ok (.goto 4, 3) := dg_cL_law_14.2.2.2.2.2.2.2.2.2.2.2.2.2.2.2
set_option maxRecDepth 100000 in
theorem dg_cL_law_15 : (decode cL_law 492 = .ok (.iconst 0, 1)) ∧ (decode cL_law 493 = .ok (.invokevirtual 59, 3)) ∧ (decode cL_law 496 = .ok (.pop, 1)) ∧ (decode cL_law 497 = .ok (.goto 866, 3)) ∧ (decode cL_law 500 = .ok (.aload_n 1, 1)) ∧ (decode cL_law 501 = .ok (.aload_n 0, 1)) ∧ (decode cL_law 502 = .ok (.iload_n 3, 1)) ∧ (decode cL_law 503 = .ok (.iconst 1, 1)) ∧ (decode cL_law 504 = .ok (.iadd, 1)) ∧ (decode cL_law 505 = .ok (.iaload, 1)) ∧ (decode cL_law 506 = .ok (.aload_n 0, 1)) ∧ (decode cL_law 507 = .ok (.iload_n 3, 1)) ∧ (decode cL_law 508 = .ok (.iconst 2, 1)) ∧ (decode cL_law 509 = .ok (.iadd, 1)) ∧ (decode cL_law 510 = .ok (.iaload, 1)) ∧ (decode cL_law 511 = .ok (.invokevirtual 60, 3)) := by decide +kernel
theorem dL_law_492 : decode cL_law 492 = .ok (.iconst 0, 1) := dg_cL_law_15.1
theorem dL_law_493 : decode cL_law 493 = .ok (.invokevirtual 59, 3) := dg_cL_law_15.2.1
theorem dL_law_496 : decode cL_law 496 = .ok (.pop, 1) := dg_cL_law_15.2.2.1
theorem dL_law_497 : decode cL_law 497 = .ok (.goto 866, 3) := dg_cL_law_15.2.2.2.1
theorem dL_law_500 : decode cL_law 500 = .ok (.aload_n 1, 1) := dg_cL_law_15.2.2.2.2.1
theorem dL_law_501 : decode cL_law 501 = .ok (.aload_n 0, 1) := dg_cL_law_15.2.2.2.2.2.1
theorem dL_law_502 : decode cL_law 502 = .ok (.iload_n 3, 1) := dg_cL_law_15.2.2.2.2.2.2.1
theorem dL_law_503 : decode cL_law 503 = .ok (.iconst 1, 1) := dg_cL_law_15.2.2.2.2.2.2.2.1
theorem dL_law_504 : decode cL_law 504 = .ok (.iadd, 1) := dg_cL_law_15.2.2.2.2.2.2.2.2.1
theorem dL_law_505 : decode cL_law 505 = .ok (.iaload, 1) := dg_cL_law_15.2.2.2.2.2.2.2.2.2.1
theorem dL_law_506 : decode cL_law 506 = .ok (.aload_n 0, 1) := dg_cL_law_15.2.2.2.2.2.2.2.2.2.2.1
theorem dL_law_507 : decode cL_law 507 = .ok (.iload_n 3, 1) := dg_cL_law_15.2.2.2.2.2.2.2.2.2.2.2.1
theorem dL_law_508 : decode cL_law 508 = .ok (.iconst 2, 1) := dg_cL_law_15.2.2.2.2.2.2.2.2.2.2.2.2.1
theorem dL_law_509 : decode cL_law 509 = .ok (.iadd, 1) := dg_cL_law_15.2.2.2.2.2.2.2.2.2.2.2.2.2.1
theorem dL_law_510 : decode cL_law 510 = .ok (.iaload, 1) := dg_cL_law_15.2.2.2.2.2.2.2.2.2.2.2.2.2.2.1
theorem dL_law_511 : decode cL_law 511 = .ok (.invokevirtual 60, 3) := dg_cL_law_15.2.2.2.2.2.2.2.2.2.2.2.2.2.2.2
set_option maxRecDepth 100000 in
theorem dg_cL_law_16 : (decode cL_law 514 = .ok (.pop, 1)) ∧ (decode cL_law 515 = .ok (.aload_n 2, 1)) ∧ (decode cL_law 516 = .ok (.aload_n 0, 1)) ∧ (decode cL_law 517 = .ok (.iload_n 3, 1)) ∧ (decode cL_law 518 = .ok (.iconst 1, 1)) ∧ (decode cL_law 519 = .ok (.iadd, 1)) ∧ (decode cL_law 520 = .ok (.iaload, 1)) ∧ (decode cL_law 521 = .ok (.aload_n 0, 1)) ∧ (decode cL_law 522 = .ok (.iload_n 3, 1)) ∧ (decode cL_law 523 = .ok (.iconst 2, 1)) ∧ (decode cL_law 524 = .ok (.iadd, 1)) ∧ (decode cL_law 525 = .ok (.iaload, 1)) ∧ (decode cL_law 526 = .ok (.invokevirtual 63, 3)) ∧ (decode cL_law 529 = .ok (.pop, 1)) ∧ (decode cL_law 530 = .ok (.goto 833, 3)) ∧ (decode cL_law 533 = .ok (.aload_n 1, 1)) := by decide +kernel
theorem dL_law_514 : decode cL_law 514 = .ok (.pop, 1) := dg_cL_law_16.1
theorem dL_law_515 : decode cL_law 515 = .ok (.aload_n 2, 1) := dg_cL_law_16.2.1
theorem dL_law_516 : decode cL_law 516 = .ok (.aload_n 0, 1) := dg_cL_law_16.2.2.1
theorem dL_law_517 : decode cL_law 517 = .ok (.iload_n 3, 1) := dg_cL_law_16.2.2.2.1
theorem dL_law_518 : decode cL_law 518 = .ok (.iconst 1, 1) := dg_cL_law_16.2.2.2.2.1
theorem dL_law_519 : decode cL_law 519 = .ok (.iadd, 1) := dg_cL_law_16.2.2.2.2.2.1
theorem dL_law_520 : decode cL_law 520 = .ok (.iaload, 1) := dg_cL_law_16.2.2.2.2.2.2.1
theorem dL_law_521 : decode cL_law 521 = .ok (.aload_n 0, 1) := dg_cL_law_16.2.2.2.2.2.2.2.1
theorem dL_law_522 : decode cL_law 522 = .ok (.iload_n 3, 1) := dg_cL_law_16.2.2.2.2.2.2.2.2.1
theorem dL_law_523 : decode cL_law 523 = .ok (.iconst 2, 1) := dg_cL_law_16.2.2.2.2.2.2.2.2.2.1
theorem dL_law_524 : decode cL_law 524 = .ok (.iadd, 1) := dg_cL_law_16.2.2.2.2.2.2.2.2.2.2.1
theorem dL_law_525 : decode cL_law 525 = .ok (.iaload, 1) := dg_cL_law_16.2.2.2.2.2.2.2.2.2.2.2.1
theorem dL_law_526 : decode cL_law 526 = .ok (.invokevirtual 63, 3) := dg_cL_law_16.2.2.2.2.2.2.2.2.2.2.2.2.1
theorem dL_law_529 : decode cL_law 529 = .ok (.pop, 1) := dg_cL_law_16.2.2.2.2.2.2.2.2.2.2.2.2.2.1
theorem dL_law_530 : decode cL_law 530 = .ok (.goto 833, 3) := dg_cL_law_16.2.2.2.2.2.2.2.2.2.2.2.2.2.2.1
theorem dL_law_533 : decode cL_law 533 = .ok (.aload_n 1, 1) := dg_cL_law_16.2.2.2.2.2.2.2.2.2.2.2.2.2.2.2
set_option maxRecDepth 100000 in
theorem dg_cL_law_17 : (decode cL_law 534 = .ok (.aload_n 0, 1)) ∧ (decode cL_law 535 = .ok (.iload_n 3, 1)) ∧ (decode cL_law 536 = .ok (.iconst 1, 1)) ∧ (decode cL_law 537 = .ok (.iadd, 1)) ∧ (decode cL_law 538 = .ok (.iaload, 1)) ∧ (decode cL_law 539 = .ok (.aload_n 0, 1)) ∧ (decode cL_law 540 = .ok (.iload_n 3, 1)) ∧ (decode cL_law 541 = .ok (.iconst 2, 1)) ∧ (decode cL_law 542 = .ok (.iadd, 1)) ∧ (decode cL_law 543 = .ok (.iaload, 1)) ∧ (decode cL_law 544 = .ok (.invokevirtual 64, 3)) ∧ (decode cL_law 547 = .ok (.pop, 1)) ∧ (decode cL_law 548 = .ok (.aload_n 2, 1)) ∧ (decode cL_law 549 = .ok (.aload_n 0, 1)) ∧ (decode cL_law 550 = .ok (.iload_n 3, 1)) ∧ (decode cL_law 551 = .ok (.iconst 1, 1)) := by decide +kernel
theorem dL_law_534 : decode cL_law 534 = .ok (.aload_n 0, 1) := dg_cL_law_17.1
theorem dL_law_535 : decode cL_law 535 = .ok (.iload_n 3, 1) := dg_cL_law_17.2.1
theorem dL_law_536 : decode cL_law 536 = .ok (.iconst 1, 1) := dg_cL_law_17.2.2.1
theorem dL_law_537 : decode cL_law 537 = .ok (.iadd, 1) := dg_cL_law_17.2.2.2.1
theorem dL_law_538 : decode cL_law 538 = .ok (.iaload, 1) := dg_cL_law_17.2.2.2.2.1
theorem dL_law_539 : decode cL_law 539 = .ok (.aload_n 0, 1) := dg_cL_law_17.2.2.2.2.2.1
theorem dL_law_540 : decode cL_law 540 = .ok (.iload_n 3, 1) := dg_cL_law_17.2.2.2.2.2.2.1
theorem dL_law_541 : decode cL_law 541 = .ok (.iconst 2, 1) := dg_cL_law_17.2.2.2.2.2.2.2.1
theorem dL_law_542 : decode cL_law 542 = .ok (.iadd, 1) := dg_cL_law_17.2.2.2.2.2.2.2.2.1
theorem dL_law_543 : decode cL_law 543 = .ok (.iaload, 1) := dg_cL_law_17.2.2.2.2.2.2.2.2.2.1
theorem dL_law_544 : decode cL_law 544 = .ok (.invokevirtual 64, 3) := dg_cL_law_17.2.2.2.2.2.2.2.2.2.2.1
theorem dL_law_547 : decode cL_law 547 = .ok (.pop, 1) := dg_cL_law_17.2.2.2.2.2.2.2.2.2.2.2.1
theorem dL_law_548 : decode cL_law 548 = .ok (.aload_n 2, 1) := dg_cL_law_17.2.2.2.2.2.2.2.2.2.2.2.2.1
theorem dL_law_549 : decode cL_law 549 = .ok (.aload_n 0, 1) := dg_cL_law_17.2.2.2.2.2.2.2.2.2.2.2.2.2.1
theorem dL_law_550 : decode cL_law 550 = .ok (.iload_n 3, 1) := dg_cL_law_17.2.2.2.2.2.2.2.2.2.2.2.2.2.2.1
theorem dL_law_551 : decode cL_law 551 = .ok (.iconst 1, 1) := dg_cL_law_17.2.2.2.2.2.2.2.2.2.2.2.2.2.2.2
set_option maxRecDepth 100000 in
theorem dg_cL_law_18 : (decode cL_law 552 = .ok (.iadd, 1)) ∧ (decode cL_law 553 = .ok (.iaload, 1)) ∧ (decode cL_law 554 = .ok (.aload_n 0, 1)) ∧ (decode cL_law 555 = .ok (.iload_n 3, 1)) ∧ (decode cL_law 556 = .ok (.iconst 2, 1)) ∧ (decode cL_law 557 = .ok (.iadd, 1)) ∧ (decode cL_law 558 = .ok (.iaload, 1)) ∧ (decode cL_law 559 = .ok (.invokevirtual 67, 3)) ∧ (decode cL_law 562 = .ok (.pop, 1)) ∧ (decode cL_law 563 = .ok (.goto 800, 3)) ∧ (decode cL_law 566 = .ok (.aload_n 1, 1)) ∧ (decode cL_law 567 = .ok (.aload_n 0, 1)) ∧ (decode cL_law 568 = .ok (.iload_n 3, 1)) ∧ (decode cL_law 569 = .ok (.iconst 1, 1)) ∧ (decode cL_law 570 = .ok (.iadd, 1)) ∧ (decode cL_law 571 = .ok (.iaload, 1)) := by decide +kernel
theorem dL_law_552 : decode cL_law 552 = .ok (.iadd, 1) := dg_cL_law_18.1
theorem dL_law_553 : decode cL_law 553 = .ok (.iaload, 1) := dg_cL_law_18.2.1
theorem dL_law_554 : decode cL_law 554 = .ok (.aload_n 0, 1) := dg_cL_law_18.2.2.1
theorem dL_law_555 : decode cL_law 555 = .ok (.iload_n 3, 1) := dg_cL_law_18.2.2.2.1
theorem dL_law_556 : decode cL_law 556 = .ok (.iconst 2, 1) := dg_cL_law_18.2.2.2.2.1
theorem dL_law_557 : decode cL_law 557 = .ok (.iadd, 1) := dg_cL_law_18.2.2.2.2.2.1
theorem dL_law_558 : decode cL_law 558 = .ok (.iaload, 1) := dg_cL_law_18.2.2.2.2.2.2.1
theorem dL_law_559 : decode cL_law 559 = .ok (.invokevirtual 67, 3) := dg_cL_law_18.2.2.2.2.2.2.2.1
theorem dL_law_562 : decode cL_law 562 = .ok (.pop, 1) := dg_cL_law_18.2.2.2.2.2.2.2.2.1
theorem dL_law_563 : decode cL_law 563 = .ok (.goto 800, 3) := dg_cL_law_18.2.2.2.2.2.2.2.2.2.1
theorem dL_law_566 : decode cL_law 566 = .ok (.aload_n 1, 1) := dg_cL_law_18.2.2.2.2.2.2.2.2.2.2.1
theorem dL_law_567 : decode cL_law 567 = .ok (.aload_n 0, 1) := dg_cL_law_18.2.2.2.2.2.2.2.2.2.2.2.1
theorem dL_law_568 : decode cL_law 568 = .ok (.iload_n 3, 1) := dg_cL_law_18.2.2.2.2.2.2.2.2.2.2.2.2.1
theorem dL_law_569 : decode cL_law 569 = .ok (.iconst 1, 1) := dg_cL_law_18.2.2.2.2.2.2.2.2.2.2.2.2.2.1
theorem dL_law_570 : decode cL_law 570 = .ok (.iadd, 1) := dg_cL_law_18.2.2.2.2.2.2.2.2.2.2.2.2.2.2.1
theorem dL_law_571 : decode cL_law 571 = .ok (.iaload, 1) := dg_cL_law_18.2.2.2.2.2.2.2.2.2.2.2.2.2.2.2
set_option maxRecDepth 100000 in
theorem dg_cL_law_19 : (decode cL_law 572 = .ok (.aload_n 0, 1)) ∧ (decode cL_law 573 = .ok (.iload_n 3, 1)) ∧ (decode cL_law 574 = .ok (.iconst 2, 1)) ∧ (decode cL_law 575 = .ok (.iadd, 1)) ∧ (decode cL_law 576 = .ok (.iaload, 1)) ∧ (decode cL_law 577 = .ok (.aload_n 0, 1)) ∧ (decode cL_law 578 = .ok (.iload_n 3, 1)) ∧ (decode cL_law 579 = .ok (.iconst 3, 1)) ∧ (decode cL_law 580 = .ok (.iadd, 1)) ∧ (decode cL_law 581 = .ok (.iaload, 1)) ∧ (decode cL_law 582 = .ok (.ifCond .eq 7, 3)) ∧ (decode cL_law 585 = .ok (.iconst 1, 1)) ∧ (decode cL_law 586 = .ok (.goto 4, 3)) ∧ (decode cL_law 589 = .ok (.iconst 0, 1)) ∧ (decode cL_law 590 = .ok (.invokevirtual 68, 3)) ∧ (decode cL_law 593 = .ok (.pop, 1)) := by decide +kernel
theorem dL_law_572 : decode cL_law 572 = .ok (.aload_n 0, 1) := dg_cL_law_19.1
theorem dL_law_573 : decode cL_law 573 = .ok (.iload_n 3, 1) := dg_cL_law_19.2.1
theorem dL_law_574 : decode cL_law 574 = .ok (.iconst 2, 1) := dg_cL_law_19.2.2.1
theorem dL_law_575 : decode cL_law 575 = .ok (.iadd, 1) := dg_cL_law_19.2.2.2.1
theorem dL_law_576 : decode cL_law 576 = .ok (.iaload, 1) := dg_cL_law_19.2.2.2.2.1
theorem dL_law_577 : decode cL_law 577 = .ok (.aload_n 0, 1) := dg_cL_law_19.2.2.2.2.2.1
theorem dL_law_578 : decode cL_law 578 = .ok (.iload_n 3, 1) := dg_cL_law_19.2.2.2.2.2.2.1
theorem dL_law_579 : decode cL_law 579 = .ok (.iconst 3, 1) := dg_cL_law_19.2.2.2.2.2.2.2.1
theorem dL_law_580 : decode cL_law 580 = .ok (.iadd, 1) := dg_cL_law_19.2.2.2.2.2.2.2.2.1
theorem dL_law_581 : decode cL_law 581 = .ok (.iaload, 1) := dg_cL_law_19.2.2.2.2.2.2.2.2.2.1
theorem dL_law_582 : decode cL_law 582 = .ok (.ifCond .eq 7, 3) := dg_cL_law_19.2.2.2.2.2.2.2.2.2.2.1
theorem dL_law_585 : decode cL_law 585 = .ok (.iconst 1, 1) := dg_cL_law_19.2.2.2.2.2.2.2.2.2.2.2.1
theorem dL_law_586 : decode cL_law 586 = .ok (.goto 4, 3) := dg_cL_law_19.2.2.2.2.2.2.2.2.2.2.2.2.1
theorem dL_law_589 : decode cL_law 589 = .ok (.iconst 0, 1) := dg_cL_law_19.2.2.2.2.2.2.2.2.2.2.2.2.2.1
theorem dL_law_590 : decode cL_law 590 = .ok (.invokevirtual 68, 3) := dg_cL_law_19.2.2.2.2.2.2.2.2.2.2.2.2.2.2.1
theorem dL_law_593 : decode cL_law 593 = .ok (.pop, 1) := dg_cL_law_19.2.2.2.2.2.2.2.2.2.2.2.2.2.2.2
set_option maxRecDepth 100000 in
theorem dg_cL_law_20 : (decode cL_law 594 = .ok (.aload_n 2, 1)) ∧ (decode cL_law 595 = .ok (.aload_n 0, 1)) ∧ (decode cL_law 596 = .ok (.iload_n 3, 1)) ∧ (decode cL_law 597 = .ok (.iconst 1, 1)) ∧ (decode cL_law 598 = .ok (.iadd, 1)) ∧ (decode cL_law 599 = .ok (.iaload, 1)) ∧ (decode cL_law 600 = .ok (.aload_n 0, 1)) ∧ (decode cL_law 601 = .ok (.iload_n 3, 1)) ∧ (decode cL_law 602 = .ok (.iconst 2, 1)) ∧ (decode cL_law 603 = .ok (.iadd, 1)) ∧ (decode cL_law 604 = .ok (.iaload, 1)) ∧ (decode cL_law 605 = .ok (.aload_n 0, 1)) ∧ (decode cL_law 606 = .ok (.iload_n 3, 1)) ∧ (decode cL_law 607 = .ok (.iconst 3, 1)) ∧ (decode cL_law 608 = .ok (.iadd, 1)) ∧ (decode cL_law 609 = .ok (.iaload, 1)) := by decide +kernel
theorem dL_law_594 : decode cL_law 594 = .ok (.aload_n 2, 1) := dg_cL_law_20.1
theorem dL_law_595 : decode cL_law 595 = .ok (.aload_n 0, 1) := dg_cL_law_20.2.1
theorem dL_law_596 : decode cL_law 596 = .ok (.iload_n 3, 1) := dg_cL_law_20.2.2.1
theorem dL_law_597 : decode cL_law 597 = .ok (.iconst 1, 1) := dg_cL_law_20.2.2.2.1
theorem dL_law_598 : decode cL_law 598 = .ok (.iadd, 1) := dg_cL_law_20.2.2.2.2.1
theorem dL_law_599 : decode cL_law 599 = .ok (.iaload, 1) := dg_cL_law_20.2.2.2.2.2.1
theorem dL_law_600 : decode cL_law 600 = .ok (.aload_n 0, 1) := dg_cL_law_20.2.2.2.2.2.2.1
theorem dL_law_601 : decode cL_law 601 = .ok (.iload_n 3, 1) := dg_cL_law_20.2.2.2.2.2.2.2.1
theorem dL_law_602 : decode cL_law 602 = .ok (.iconst 2, 1) := dg_cL_law_20.2.2.2.2.2.2.2.2.1
theorem dL_law_603 : decode cL_law 603 = .ok (.iadd, 1) := dg_cL_law_20.2.2.2.2.2.2.2.2.2.1
theorem dL_law_604 : decode cL_law 604 = .ok (.iaload, 1) := dg_cL_law_20.2.2.2.2.2.2.2.2.2.2.1
theorem dL_law_605 : decode cL_law 605 = .ok (.aload_n 0, 1) := dg_cL_law_20.2.2.2.2.2.2.2.2.2.2.2.1
theorem dL_law_606 : decode cL_law 606 = .ok (.iload_n 3, 1) := dg_cL_law_20.2.2.2.2.2.2.2.2.2.2.2.2.1
theorem dL_law_607 : decode cL_law 607 = .ok (.iconst 3, 1) := dg_cL_law_20.2.2.2.2.2.2.2.2.2.2.2.2.2.1
theorem dL_law_608 : decode cL_law 608 = .ok (.iadd, 1) := dg_cL_law_20.2.2.2.2.2.2.2.2.2.2.2.2.2.2.1
theorem dL_law_609 : decode cL_law 609 = .ok (.iaload, 1) := dg_cL_law_20.2.2.2.2.2.2.2.2.2.2.2.2.2.2.2
set_option maxRecDepth 100000 in
theorem dg_cL_law_21 : (decode cL_law 610 = .ok (.ifCond .eq 7, 3)) ∧ (decode cL_law 613 = .ok (.iconst 1, 1)) ∧ (decode cL_law 614 = .ok (.goto 4, 3)) ∧ (decode cL_law 617 = .ok (.iconst 0, 1)) ∧ (decode cL_law 618 = .ok (.invokevirtual 72, 3)) ∧ (decode cL_law 621 = .ok (.pop, 1)) ∧ (decode cL_law 622 = .ok (.goto 741, 3)) ∧ (decode cL_law 625 = .ok (.aload_n 1, 1)) ∧ (decode cL_law 626 = .ok (.aload_n 0, 1)) ∧ (decode cL_law 627 = .ok (.iload_n 3, 1)) ∧ (decode cL_law 628 = .ok (.iconst 1, 1)) ∧ (decode cL_law 629 = .ok (.iadd, 1)) ∧ (decode cL_law 630 = .ok (.iaload, 1)) ∧ (decode cL_law 631 = .ok (.invokevirtual 73, 3)) ∧ (decode cL_law 634 = .ok (.pop, 1)) ∧ (decode cL_law 635 = .ok (.aload_n 2, 1)) := by decide +kernel
theorem dL_law_610 : decode cL_law 610 = .ok (.ifCond .eq 7, 3) := dg_cL_law_21.1
theorem dL_law_613 : decode cL_law 613 = .ok (.iconst 1, 1) := dg_cL_law_21.2.1
theorem dL_law_614 : decode cL_law 614 = .ok (.goto 4, 3) := dg_cL_law_21.2.2.1
theorem dL_law_617 : decode cL_law 617 = .ok (.iconst 0, 1) := dg_cL_law_21.2.2.2.1
theorem dL_law_618 : decode cL_law 618 = .ok (.invokevirtual 72, 3) := dg_cL_law_21.2.2.2.2.1
theorem dL_law_621 : decode cL_law 621 = .ok (.pop, 1) := dg_cL_law_21.2.2.2.2.2.1
theorem dL_law_622 : decode cL_law 622 = .ok (.goto 741, 3) := dg_cL_law_21.2.2.2.2.2.2.1
theorem dL_law_625 : decode cL_law 625 = .ok (.aload_n 1, 1) := dg_cL_law_21.2.2.2.2.2.2.2.1
theorem dL_law_626 : decode cL_law 626 = .ok (.aload_n 0, 1) := dg_cL_law_21.2.2.2.2.2.2.2.2.1
theorem dL_law_627 : decode cL_law 627 = .ok (.iload_n 3, 1) := dg_cL_law_21.2.2.2.2.2.2.2.2.2.1
theorem dL_law_628 : decode cL_law 628 = .ok (.iconst 1, 1) := dg_cL_law_21.2.2.2.2.2.2.2.2.2.2.1
theorem dL_law_629 : decode cL_law 629 = .ok (.iadd, 1) := dg_cL_law_21.2.2.2.2.2.2.2.2.2.2.2.1
theorem dL_law_630 : decode cL_law 630 = .ok (.iaload, 1) := dg_cL_law_21.2.2.2.2.2.2.2.2.2.2.2.2.1
theorem dL_law_631 : decode cL_law 631 = .ok (.invokevirtual 73, 3) := dg_cL_law_21.2.2.2.2.2.2.2.2.2.2.2.2.2.1
theorem dL_law_634 : decode cL_law 634 = .ok (.pop, 1) := dg_cL_law_21.2.2.2.2.2.2.2.2.2.2.2.2.2.2.1
theorem dL_law_635 : decode cL_law 635 = .ok (.aload_n 2, 1) := dg_cL_law_21.2.2.2.2.2.2.2.2.2.2.2.2.2.2.2
set_option maxRecDepth 100000 in
theorem dg_cL_law_22 : (decode cL_law 636 = .ok (.aload_n 0, 1)) ∧ (decode cL_law 637 = .ok (.iload_n 3, 1)) ∧ (decode cL_law 638 = .ok (.iconst 1, 1)) ∧ (decode cL_law 639 = .ok (.iadd, 1)) ∧ (decode cL_law 640 = .ok (.iaload, 1)) ∧ (decode cL_law 641 = .ok (.invokevirtual 76, 3)) ∧ (decode cL_law 644 = .ok (.pop, 1)) ∧ (decode cL_law 645 = .ok (.goto 718, 3)) ∧ (decode cL_law 648 = .ok (.aload_n 1, 1)) ∧ (decode cL_law 649 = .ok (.aload_n 0, 1)) ∧ (decode cL_law 650 = .ok (.iload_n 3, 1)) ∧ (decode cL_law 651 = .ok (.iconst 1, 1)) ∧ (decode cL_law 652 = .ok (.iadd, 1)) ∧ (decode cL_law 653 = .ok (.iaload, 1)) ∧ (decode cL_law 654 = .ok (.aload_n 0, 1)) ∧ (decode cL_law 655 = .ok (.iload_n 3, 1)) := by decide +kernel
theorem dL_law_636 : decode cL_law 636 = .ok (.aload_n 0, 1) := dg_cL_law_22.1
theorem dL_law_637 : decode cL_law 637 = .ok (.iload_n 3, 1) := dg_cL_law_22.2.1
theorem dL_law_638 : decode cL_law 638 = .ok (.iconst 1, 1) := dg_cL_law_22.2.2.1
theorem dL_law_639 : decode cL_law 639 = .ok (.iadd, 1) := dg_cL_law_22.2.2.2.1
theorem dL_law_640 : decode cL_law 640 = .ok (.iaload, 1) := dg_cL_law_22.2.2.2.2.1
theorem dL_law_641 : decode cL_law 641 = .ok (.invokevirtual 76, 3) := dg_cL_law_22.2.2.2.2.2.1
theorem dL_law_644 : decode cL_law 644 = .ok (.pop, 1) := dg_cL_law_22.2.2.2.2.2.2.1
theorem dL_law_645 : decode cL_law 645 = .ok (.goto 718, 3) := dg_cL_law_22.2.2.2.2.2.2.2.1
theorem dL_law_648 : decode cL_law 648 = .ok (.aload_n 1, 1) := dg_cL_law_22.2.2.2.2.2.2.2.2.1
theorem dL_law_649 : decode cL_law 649 = .ok (.aload_n 0, 1) := dg_cL_law_22.2.2.2.2.2.2.2.2.2.1
theorem dL_law_650 : decode cL_law 650 = .ok (.iload_n 3, 1) := dg_cL_law_22.2.2.2.2.2.2.2.2.2.2.1
theorem dL_law_651 : decode cL_law 651 = .ok (.iconst 1, 1) := dg_cL_law_22.2.2.2.2.2.2.2.2.2.2.2.1
theorem dL_law_652 : decode cL_law 652 = .ok (.iadd, 1) := dg_cL_law_22.2.2.2.2.2.2.2.2.2.2.2.2.1
theorem dL_law_653 : decode cL_law 653 = .ok (.iaload, 1) := dg_cL_law_22.2.2.2.2.2.2.2.2.2.2.2.2.2.1
theorem dL_law_654 : decode cL_law 654 = .ok (.aload_n 0, 1) := dg_cL_law_22.2.2.2.2.2.2.2.2.2.2.2.2.2.2.1
theorem dL_law_655 : decode cL_law 655 = .ok (.iload_n 3, 1) := dg_cL_law_22.2.2.2.2.2.2.2.2.2.2.2.2.2.2.2
set_option maxRecDepth 100000 in
theorem dg_cL_law_23 : (decode cL_law 656 = .ok (.iconst 2, 1)) ∧ (decode cL_law 657 = .ok (.iadd, 1)) ∧ (decode cL_law 658 = .ok (.iaload, 1)) ∧ (decode cL_law 659 = .ok (.invokevirtual 77, 3)) ∧ (decode cL_law 662 = .ok (.pop, 1)) ∧ (decode cL_law 663 = .ok (.aload_n 2, 1)) ∧ (decode cL_law 664 = .ok (.aload_n 0, 1)) ∧ (decode cL_law 665 = .ok (.iload_n 3, 1)) ∧ (decode cL_law 666 = .ok (.iconst 1, 1)) ∧ (decode cL_law 667 = .ok (.iadd, 1)) ∧ (decode cL_law 668 = .ok (.iaload, 1)) ∧ (decode cL_law 669 = .ok (.aload_n 0, 1)) ∧ (decode cL_law 670 = .ok (.iload_n 3, 1)) ∧ (decode cL_law 671 = .ok (.iconst 2, 1)) ∧ (decode cL_law 672 = .ok (.iadd, 1)) ∧ (decode cL_law 673 = .ok (.iaload, 1)) := by decide +kernel
theorem dL_law_656 : decode cL_law 656 = .ok (.iconst 2, 1) := dg_cL_law_23.1
theorem dL_law_657 : decode cL_law 657 = .ok (.iadd, 1) := dg_cL_law_23.2.1
theorem dL_law_658 : decode cL_law 658 = .ok (.iaload, 1) := dg_cL_law_23.2.2.1
theorem dL_law_659 : decode cL_law 659 = .ok (.invokevirtual 77, 3) := dg_cL_law_23.2.2.2.1
theorem dL_law_662 : decode cL_law 662 = .ok (.pop, 1) := dg_cL_law_23.2.2.2.2.1
theorem dL_law_663 : decode cL_law 663 = .ok (.aload_n 2, 1) := dg_cL_law_23.2.2.2.2.2.1
theorem dL_law_664 : decode cL_law 664 = .ok (.aload_n 0, 1) := dg_cL_law_23.2.2.2.2.2.2.1
theorem dL_law_665 : decode cL_law 665 = .ok (.iload_n 3, 1) := dg_cL_law_23.2.2.2.2.2.2.2.1
theorem dL_law_666 : decode cL_law 666 = .ok (.iconst 1, 1) := dg_cL_law_23.2.2.2.2.2.2.2.2.1
theorem dL_law_667 : decode cL_law 667 = .ok (.iadd, 1) := dg_cL_law_23.2.2.2.2.2.2.2.2.2.1
theorem dL_law_668 : decode cL_law 668 = .ok (.iaload, 1) := dg_cL_law_23.2.2.2.2.2.2.2.2.2.2.1
theorem dL_law_669 : decode cL_law 669 = .ok (.aload_n 0, 1) := dg_cL_law_23.2.2.2.2.2.2.2.2.2.2.2.1
theorem dL_law_670 : decode cL_law 670 = .ok (.iload_n 3, 1) := dg_cL_law_23.2.2.2.2.2.2.2.2.2.2.2.2.1
theorem dL_law_671 : decode cL_law 671 = .ok (.iconst 2, 1) := dg_cL_law_23.2.2.2.2.2.2.2.2.2.2.2.2.2.1
theorem dL_law_672 : decode cL_law 672 = .ok (.iadd, 1) := dg_cL_law_23.2.2.2.2.2.2.2.2.2.2.2.2.2.2.1
theorem dL_law_673 : decode cL_law 673 = .ok (.iaload, 1) := dg_cL_law_23.2.2.2.2.2.2.2.2.2.2.2.2.2.2.2
set_option maxRecDepth 100000 in
theorem dg_cL_law_24 : (decode cL_law 674 = .ok (.invokevirtual 80, 3)) ∧ (decode cL_law 677 = .ok (.pop, 1)) ∧ (decode cL_law 678 = .ok (.goto 685, 3)) ∧ (decode cL_law 681 = .ok (.aload_n 1, 1)) ∧ (decode cL_law 682 = .ok (.invokevirtual 81, 3)) ∧ (decode cL_law 685 = .ok (.pop, 1)) ∧ (decode cL_law 686 = .ok (.aload_n 2, 1)) ∧ (decode cL_law 687 = .ok (.invokevirtual 84, 3)) ∧ (decode cL_law 690 = .ok (.pop, 1)) ∧ (decode cL_law 691 = .ok (.goto 672, 3)) ∧ (decode cL_law 694 = .ok (.aload_n 1, 1)) ∧ (decode cL_law 695 = .ok (.aload_n 0, 1)) ∧ (decode cL_law 696 = .ok (.iload_n 3, 1)) ∧ (decode cL_law 697 = .ok (.iconst 1, 1)) ∧ (decode cL_law 698 = .ok (.iadd, 1)) ∧ (decode cL_law 699 = .ok (.iaload, 1)) := by decide +kernel
theorem dL_law_674 : decode cL_law 674 = .ok (.invokevirtual 80, 3) := dg_cL_law_24.1
theorem dL_law_677 : decode cL_law 677 = .ok (.pop, 1) := dg_cL_law_24.2.1
theorem dL_law_678 : decode cL_law 678 = .ok (.goto 685, 3) := dg_cL_law_24.2.2.1
theorem dL_law_681 : decode cL_law 681 = .ok (.aload_n 1, 1) := dg_cL_law_24.2.2.2.1
theorem dL_law_682 : decode cL_law 682 = .ok (.invokevirtual 81, 3) := dg_cL_law_24.2.2.2.2.1
theorem dL_law_685 : decode cL_law 685 = .ok (.pop, 1) := dg_cL_law_24.2.2.2.2.2.1
theorem dL_law_686 : decode cL_law 686 = .ok (.aload_n 2, 1) := dg_cL_law_24.2.2.2.2.2.2.1
theorem dL_law_687 : decode cL_law 687 = .ok (.invokevirtual 84, 3) := dg_cL_law_24.2.2.2.2.2.2.2.1
theorem dL_law_690 : decode cL_law 690 = .ok (.pop, 1) := dg_cL_law_24.2.2.2.2.2.2.2.2.1
theorem dL_law_691 : decode cL_law 691 = .ok (.goto 672, 3) := dg_cL_law_24.2.2.2.2.2.2.2.2.2.1
theorem dL_law_694 : decode cL_law 694 = .ok (.aload_n 1, 1) := dg_cL_law_24.2.2.2.2.2.2.2.2.2.2.1
theorem dL_law_695 : decode cL_law 695 = .ok (.aload_n 0, 1) := dg_cL_law_24.2.2.2.2.2.2.2.2.2.2.2.1
theorem dL_law_696 : decode cL_law 696 = .ok (.iload_n 3, 1) := dg_cL_law_24.2.2.2.2.2.2.2.2.2.2.2.2.1
theorem dL_law_697 : decode cL_law 697 = .ok (.iconst 1, 1) := dg_cL_law_24.2.2.2.2.2.2.2.2.2.2.2.2.2.1
theorem dL_law_698 : decode cL_law 698 = .ok (.iadd, 1) := dg_cL_law_24.2.2.2.2.2.2.2.2.2.2.2.2.2.2.1
theorem dL_law_699 : decode cL_law 699 = .ok (.iaload, 1) := dg_cL_law_24.2.2.2.2.2.2.2.2.2.2.2.2.2.2.2
set_option maxRecDepth 100000 in
theorem dg_cL_law_25 : (decode cL_law 700 = .ok (.aload_n 0, 1)) ∧ (decode cL_law 701 = .ok (.iload_n 3, 1)) ∧ (decode cL_law 702 = .ok (.iconst 2, 1)) ∧ (decode cL_law 703 = .ok (.iadd, 1)) ∧ (decode cL_law 704 = .ok (.iaload, 1)) ∧ (decode cL_law 705 = .ok (.invokevirtual 85, 3)) ∧ (decode cL_law 708 = .ok (.pop, 1)) ∧ (decode cL_law 709 = .ok (.aload_n 2, 1)) ∧ (decode cL_law 710 = .ok (.aload_n 0, 1)) ∧ (decode cL_law 711 = .ok (.iload_n 3, 1)) ∧ (decode cL_law 712 = .ok (.iconst 1, 1)) ∧ (decode cL_law 713 = .ok (.iadd, 1)) ∧ (decode cL_law 714 = .ok (.iaload, 1)) ∧ (decode cL_law 715 = .ok (.aload_n 0, 1)) ∧ (decode cL_law 716 = .ok (.iload_n 3, 1)) ∧ (decode cL_law 717 = .ok (.iconst 2, 1)) := by decide +kernel
theorem dL_law_700 : decode cL_law 700 = .ok (.aload_n 0, 1) := dg_cL_law_25.1
theorem dL_law_701 : decode cL_law 701 = .ok (.iload_n 3, 1) := dg_cL_law_25.2.1
theorem dL_law_702 : decode cL_law 702 = .ok (.iconst 2, 1) := dg_cL_law_25.2.2.1
theorem dL_law_703 : decode cL_law 703 = .ok (.iadd, 1) := dg_cL_law_25.2.2.2.1
theorem dL_law_704 : decode cL_law 704 = .ok (.iaload, 1) := dg_cL_law_25.2.2.2.2.1
theorem dL_law_705 : decode cL_law 705 = .ok (.invokevirtual 85, 3) := dg_cL_law_25.2.2.2.2.2.1
theorem dL_law_708 : decode cL_law 708 = .ok (.pop, 1) := dg_cL_law_25.2.2.2.2.2.2.1
theorem dL_law_709 : decode cL_law 709 = .ok (.aload_n 2, 1) := dg_cL_law_25.2.2.2.2.2.2.2.1
theorem dL_law_710 : decode cL_law 710 = .ok (.aload_n 0, 1) := dg_cL_law_25.2.2.2.2.2.2.2.2.1
theorem dL_law_711 : decode cL_law 711 = .ok (.iload_n 3, 1) := dg_cL_law_25.2.2.2.2.2.2.2.2.2.1
theorem dL_law_712 : decode cL_law 712 = .ok (.iconst 1, 1) := dg_cL_law_25.2.2.2.2.2.2.2.2.2.2.1
theorem dL_law_713 : decode cL_law 713 = .ok (.iadd, 1) := dg_cL_law_25.2.2.2.2.2.2.2.2.2.2.2.1
theorem dL_law_714 : decode cL_law 714 = .ok (.iaload, 1) := dg_cL_law_25.2.2.2.2.2.2.2.2.2.2.2.2.1
theorem dL_law_715 : decode cL_law 715 = .ok (.aload_n 0, 1) := dg_cL_law_25.2.2.2.2.2.2.2.2.2.2.2.2.2.1
theorem dL_law_716 : decode cL_law 716 = .ok (.iload_n 3, 1) := dg_cL_law_25.2.2.2.2.2.2.2.2.2.2.2.2.2.2.1
theorem dL_law_717 : decode cL_law 717 = .ok (.iconst 2, 1) := dg_cL_law_25.2.2.2.2.2.2.2.2.2.2.2.2.2.2.2
set_option maxRecDepth 100000 in
theorem dg_cL_law_26 : (decode cL_law 718 = .ok (.iadd, 1)) ∧ (decode cL_law 719 = .ok (.iaload, 1)) ∧ (decode cL_law 720 = .ok (.invokevirtual 88, 3)) ∧ (decode cL_law 723 = .ok (.pop, 1)) ∧ (decode cL_law 724 = .ok (.goto 639, 3)) ∧ (decode cL_law 727 = .ok (.aload_n 1, 1)) ∧ (decode cL_law 728 = .ok (.aload_n 0, 1)) ∧ (decode cL_law 729 = .ok (.iload_n 3, 1)) ∧ (decode cL_law 730 = .ok (.iconst 1, 1)) ∧ (decode cL_law 731 = .ok (.iadd, 1)) ∧ (decode cL_law 732 = .ok (.iaload, 1)) ∧ (decode cL_law 733 = .ok (.invokevirtual 89, 3)) ∧ (decode cL_law 736 = .ok (.pop, 1)) ∧ (decode cL_law 737 = .ok (.aload_n 2, 1)) ∧ (decode cL_law 738 = .ok (.aload_n 0, 1)) ∧ (decode cL_law 739 = .ok (.iload_n 3, 1)) := by decide +kernel
theorem dL_law_718 : decode cL_law 718 = .ok (.iadd, 1) := dg_cL_law_26.1
theorem dL_law_719 : decode cL_law 719 = .ok (.iaload, 1) := dg_cL_law_26.2.1
theorem dL_law_720 : decode cL_law 720 = .ok (.invokevirtual 88, 3) := dg_cL_law_26.2.2.1
theorem dL_law_723 : decode cL_law 723 = .ok (.pop, 1) := dg_cL_law_26.2.2.2.1
theorem dL_law_724 : decode cL_law 724 = .ok (.goto 639, 3) := dg_cL_law_26.2.2.2.2.1
theorem dL_law_727 : decode cL_law 727 = .ok (.aload_n 1, 1) := dg_cL_law_26.2.2.2.2.2.1
theorem dL_law_728 : decode cL_law 728 = .ok (.aload_n 0, 1) := dg_cL_law_26.2.2.2.2.2.2.1
theorem dL_law_729 : decode cL_law 729 = .ok (.iload_n 3, 1) := dg_cL_law_26.2.2.2.2.2.2.2.1
theorem dL_law_730 : decode cL_law 730 = .ok (.iconst 1, 1) := dg_cL_law_26.2.2.2.2.2.2.2.2.1
theorem dL_law_731 : decode cL_law 731 = .ok (.iadd, 1) := dg_cL_law_26.2.2.2.2.2.2.2.2.2.1
theorem dL_law_732 : decode cL_law 732 = .ok (.iaload, 1) := dg_cL_law_26.2.2.2.2.2.2.2.2.2.2.1
theorem dL_law_733 : decode cL_law 733 = .ok (.invokevirtual 89, 3) := dg_cL_law_26.2.2.2.2.2.2.2.2.2.2.2.1
theorem dL_law_736 : decode cL_law 736 = .ok (.pop, 1) := dg_cL_law_26.2.2.2.2.2.2.2.2.2.2.2.2.1
theorem dL_law_737 : decode cL_law 737 = .ok (.aload_n 2, 1) := dg_cL_law_26.2.2.2.2.2.2.2.2.2.2.2.2.2.1
theorem dL_law_738 : decode cL_law 738 = .ok (.aload_n 0, 1) := dg_cL_law_26.2.2.2.2.2.2.2.2.2.2.2.2.2.2.1
theorem dL_law_739 : decode cL_law 739 = .ok (.iload_n 3, 1) := dg_cL_law_26.2.2.2.2.2.2.2.2.2.2.2.2.2.2.2
set_option maxRecDepth 100000 in
theorem dg_cL_law_27 : (decode cL_law 740 = .ok (.iconst 1, 1)) ∧ (decode cL_law 741 = .ok (.iadd, 1)) ∧ (decode cL_law 742 = .ok (.iaload, 1)) ∧ (decode cL_law 743 = .ok (.invokevirtual 92, 3)) ∧ (decode cL_law 746 = .ok (.pop, 1)) ∧ (decode cL_law 747 = .ok (.goto 616, 3)) ∧ (decode cL_law 750 = .ok (.aload_n 1, 1)) ∧ (decode cL_law 751 = .ok (.aload_n 0, 1)) ∧ (decode cL_law 752 = .ok (.iload_n 3, 1)) ∧ (decode cL_law 753 = .ok (.iconst 1, 1)) ∧ (decode cL_law 754 = .ok (.iadd, 1)) ∧ (decode cL_law 755 = .ok (.iaload, 1)) ∧ (decode cL_law 756 = .ok (.aload_n 0, 1)) ∧ (decode cL_law 757 = .ok (.iload_n 3, 1)) ∧ (decode cL_law 758 = .ok (.iconst 2, 1)) ∧ (decode cL_law 759 = .ok (.iadd, 1)) := by decide +kernel
theorem dL_law_740 : decode cL_law 740 = .ok (.iconst 1, 1) := dg_cL_law_27.1
theorem dL_law_741 : decode cL_law 741 = .ok (.iadd, 1) := dg_cL_law_27.2.1
theorem dL_law_742 : decode cL_law 742 = .ok (.iaload, 1) := dg_cL_law_27.2.2.1
theorem dL_law_743 : decode cL_law 743 = .ok (.invokevirtual 92, 3) := dg_cL_law_27.2.2.2.1
theorem dL_law_746 : decode cL_law 746 = .ok (.pop, 1) := dg_cL_law_27.2.2.2.2.1
theorem dL_law_747 : decode cL_law 747 = .ok (.goto 616, 3) := dg_cL_law_27.2.2.2.2.2.1
theorem dL_law_750 : decode cL_law 750 = .ok (.aload_n 1, 1) := dg_cL_law_27.2.2.2.2.2.2.1
theorem dL_law_751 : decode cL_law 751 = .ok (.aload_n 0, 1) := dg_cL_law_27.2.2.2.2.2.2.2.1
theorem dL_law_752 : decode cL_law 752 = .ok (.iload_n 3, 1) := dg_cL_law_27.2.2.2.2.2.2.2.2.1
theorem dL_law_753 : decode cL_law 753 = .ok (.iconst 1, 1) := dg_cL_law_27.2.2.2.2.2.2.2.2.2.1
theorem dL_law_754 : decode cL_law 754 = .ok (.iadd, 1) := dg_cL_law_27.2.2.2.2.2.2.2.2.2.2.1
theorem dL_law_755 : decode cL_law 755 = .ok (.iaload, 1) := dg_cL_law_27.2.2.2.2.2.2.2.2.2.2.2.1
theorem dL_law_756 : decode cL_law 756 = .ok (.aload_n 0, 1) := dg_cL_law_27.2.2.2.2.2.2.2.2.2.2.2.2.1
theorem dL_law_757 : decode cL_law 757 = .ok (.iload_n 3, 1) := dg_cL_law_27.2.2.2.2.2.2.2.2.2.2.2.2.2.1
theorem dL_law_758 : decode cL_law 758 = .ok (.iconst 2, 1) := dg_cL_law_27.2.2.2.2.2.2.2.2.2.2.2.2.2.2.1
theorem dL_law_759 : decode cL_law 759 = .ok (.iadd, 1) := dg_cL_law_27.2.2.2.2.2.2.2.2.2.2.2.2.2.2.2
set_option maxRecDepth 100000 in
theorem dg_cL_law_28 : (decode cL_law 760 = .ok (.iaload, 1)) ∧ (decode cL_law 761 = .ok (.invokevirtual 93, 3)) ∧ (decode cL_law 764 = .ok (.pop, 1)) ∧ (decode cL_law 765 = .ok (.aload_n 2, 1)) ∧ (decode cL_law 766 = .ok (.aload_n 0, 1)) ∧ (decode cL_law 767 = .ok (.iload_n 3, 1)) ∧ (decode cL_law 768 = .ok (.iconst 1, 1)) ∧ (decode cL_law 769 = .ok (.iadd, 1)) ∧ (decode cL_law 770 = .ok (.iaload, 1)) ∧ (decode cL_law 771 = .ok (.aload_n 0, 1)) ∧ (decode cL_law 772 = .ok (.iload_n 3, 1)) ∧ (decode cL_law 773 = .ok (.iconst 2, 1)) ∧ (decode cL_law 774 = .ok (.iadd, 1)) ∧ (decode cL_law 775 = .ok (.iaload, 1)) ∧ (decode cL_law 776 = .ok (.invokevirtual 96, 3)) ∧ (decode cL_law 779 = .ok (.pop, 1)) := by decide +kernel
theorem dL_law_760 : decode cL_law 760 = .ok (.iaload, 1) := dg_cL_law_28.1
theorem dL_law_761 : decode cL_law 761 = .ok (.invokevirtual 93, 3) := dg_cL_law_28.2.1
theorem dL_law_764 : decode cL_law 764 = .ok (.pop, 1) := dg_cL_law_28.2.2.1
theorem dL_law_765 : decode cL_law 765 = .ok (.aload_n 2, 1) := dg_cL_law_28.2.2.2.1
theorem dL_law_766 : decode cL_law 766 = .ok (.aload_n 0, 1) := dg_cL_law_28.2.2.2.2.1
theorem dL_law_767 : decode cL_law 767 = .ok (.iload_n 3, 1) := dg_cL_law_28.2.2.2.2.2.1
theorem dL_law_768 : decode cL_law 768 = .ok (.iconst 1, 1) := dg_cL_law_28.2.2.2.2.2.2.1
theorem dL_law_769 : decode cL_law 769 = .ok (.iadd, 1) := dg_cL_law_28.2.2.2.2.2.2.2.1
theorem dL_law_770 : decode cL_law 770 = .ok (.iaload, 1) := dg_cL_law_28.2.2.2.2.2.2.2.2.1
theorem dL_law_771 : decode cL_law 771 = .ok (.aload_n 0, 1) := dg_cL_law_28.2.2.2.2.2.2.2.2.2.1
theorem dL_law_772 : decode cL_law 772 = .ok (.iload_n 3, 1) := dg_cL_law_28.2.2.2.2.2.2.2.2.2.2.1
theorem dL_law_773 : decode cL_law 773 = .ok (.iconst 2, 1) := dg_cL_law_28.2.2.2.2.2.2.2.2.2.2.2.1
theorem dL_law_774 : decode cL_law 774 = .ok (.iadd, 1) := dg_cL_law_28.2.2.2.2.2.2.2.2.2.2.2.2.1
theorem dL_law_775 : decode cL_law 775 = .ok (.iaload, 1) := dg_cL_law_28.2.2.2.2.2.2.2.2.2.2.2.2.2.1
theorem dL_law_776 : decode cL_law 776 = .ok (.invokevirtual 96, 3) := dg_cL_law_28.2.2.2.2.2.2.2.2.2.2.2.2.2.2.1
theorem dL_law_779 : decode cL_law 779 = .ok (.pop, 1) := dg_cL_law_28.2.2.2.2.2.2.2.2.2.2.2.2.2.2.2
set_option maxRecDepth 100000 in
theorem dg_cL_law_29 : (decode cL_law 780 = .ok (.goto 583, 3)) ∧ (decode cL_law 783 = .ok (.aload_n 1, 1)) ∧ (decode cL_law 784 = .ok (.aload_n 0, 1)) ∧ (decode cL_law 785 = .ok (.iload_n 3, 1)) ∧ (decode cL_law 786 = .ok (.iconst 1, 1)) ∧ (decode cL_law 787 = .ok (.iadd, 1)) ∧ (decode cL_law 788 = .ok (.iaload, 1)) ∧ (decode cL_law 789 = .ok (.aload_n 0, 1)) ∧ (decode cL_law 790 = .ok (.iload_n 3, 1)) ∧ (decode cL_law 791 = .ok (.iconst 2, 1)) ∧ (decode cL_law 792 = .ok (.iadd, 1)) ∧ (decode cL_law 793 = .ok (.iaload, 1)) ∧ (decode cL_law 794 = .ok (.invokevirtual 97, 3)) ∧ (decode cL_law 797 = .ok (.pop, 1)) ∧ (decode cL_law 798 = .ok (.aload_n 2, 1)) ∧ (decode cL_law 799 = .ok (.aload_n 0, 1)) := by decide +kernel
theorem dL_law_780 : decode cL_law 780 = .ok (.goto 583, 3) := dg_cL_law_29.1
theorem dL_law_783 : decode cL_law 783 = .ok (.aload_n 1, 1) := dg_cL_law_29.2.1
theorem dL_law_784 : decode cL_law 784 = .ok (.aload_n 0, 1) := dg_cL_law_29.2.2.1
theorem dL_law_785 : decode cL_law 785 = .ok (.iload_n 3, 1) := dg_cL_law_29.2.2.2.1
theorem dL_law_786 : decode cL_law 786 = .ok (.iconst 1, 1) := dg_cL_law_29.2.2.2.2.1
theorem dL_law_787 : decode cL_law 787 = .ok (.iadd, 1) := dg_cL_law_29.2.2.2.2.2.1
theorem dL_law_788 : decode cL_law 788 = .ok (.iaload, 1) := dg_cL_law_29.2.2.2.2.2.2.1
theorem dL_law_789 : decode cL_law 789 = .ok (.aload_n 0, 1) := dg_cL_law_29.2.2.2.2.2.2.2.1
theorem dL_law_790 : decode cL_law 790 = .ok (.iload_n 3, 1) := dg_cL_law_29.2.2.2.2.2.2.2.2.1
theorem dL_law_791 : decode cL_law 791 = .ok (.iconst 2, 1) := dg_cL_law_29.2.2.2.2.2.2.2.2.2.1
theorem dL_law_792 : decode cL_law 792 = .ok (.iadd, 1) := dg_cL_law_29.2.2.2.2.2.2.2.2.2.2.1
theorem dL_law_793 : decode cL_law 793 = .ok (.iaload, 1) := dg_cL_law_29.2.2.2.2.2.2.2.2.2.2.2.1
theorem dL_law_794 : decode cL_law 794 = .ok (.invokevirtual 97, 3) := dg_cL_law_29.2.2.2.2.2.2.2.2.2.2.2.2.1
theorem dL_law_797 : decode cL_law 797 = .ok (.pop, 1) := dg_cL_law_29.2.2.2.2.2.2.2.2.2.2.2.2.2.1
theorem dL_law_798 : decode cL_law 798 = .ok (.aload_n 2, 1) := dg_cL_law_29.2.2.2.2.2.2.2.2.2.2.2.2.2.2.1
theorem dL_law_799 : decode cL_law 799 = .ok (.aload_n 0, 1) := dg_cL_law_29.2.2.2.2.2.2.2.2.2.2.2.2.2.2.2
set_option maxRecDepth 100000 in
theorem dg_cL_law_30 : (decode cL_law 800 = .ok (.iload_n 3, 1)) ∧ (decode cL_law 801 = .ok (.iconst 1, 1)) ∧ (decode cL_law 802 = .ok (.iadd, 1)) ∧ (decode cL_law 803 = .ok (.iaload, 1)) ∧ (decode cL_law 804 = .ok (.aload_n 0, 1)) ∧ (decode cL_law 805 = .ok (.iload_n 3, 1)) ∧ (decode cL_law 806 = .ok (.iconst 2, 1)) ∧ (decode cL_law 807 = .ok (.iadd, 1)) ∧ (decode cL_law 808 = .ok (.iaload, 1)) ∧ (decode cL_law 809 = .ok (.invokevirtual 100, 3)) ∧ (decode cL_law 812 = .ok (.pop, 1)) ∧ (decode cL_law 813 = .ok (.goto 550, 3)) ∧ (decode cL_law 816 = .ok (.aload_n 1, 1)) ∧ (decode cL_law 817 = .ok (.aload_n 0, 1)) ∧ (decode cL_law 818 = .ok (.iload_n 3, 1)) ∧ (decode cL_law 819 = .ok (.iconst 1, 1)) := by decide +kernel
theorem dL_law_800 : decode cL_law 800 = .ok (.iload_n 3, 1) := dg_cL_law_30.1
theorem dL_law_801 : decode cL_law 801 = .ok (.iconst 1, 1) := dg_cL_law_30.2.1
theorem dL_law_802 : decode cL_law 802 = .ok (.iadd, 1) := dg_cL_law_30.2.2.1
theorem dL_law_803 : decode cL_law 803 = .ok (.iaload, 1) := dg_cL_law_30.2.2.2.1
theorem dL_law_804 : decode cL_law 804 = .ok (.aload_n 0, 1) := dg_cL_law_30.2.2.2.2.1
theorem dL_law_805 : decode cL_law 805 = .ok (.iload_n 3, 1) := dg_cL_law_30.2.2.2.2.2.1
theorem dL_law_806 : decode cL_law 806 = .ok (.iconst 2, 1) := dg_cL_law_30.2.2.2.2.2.2.1
theorem dL_law_807 : decode cL_law 807 = .ok (.iadd, 1) := dg_cL_law_30.2.2.2.2.2.2.2.1
theorem dL_law_808 : decode cL_law 808 = .ok (.iaload, 1) := dg_cL_law_30.2.2.2.2.2.2.2.2.1
theorem dL_law_809 : decode cL_law 809 = .ok (.invokevirtual 100, 3) := dg_cL_law_30.2.2.2.2.2.2.2.2.2.1
theorem dL_law_812 : decode cL_law 812 = .ok (.pop, 1) := dg_cL_law_30.2.2.2.2.2.2.2.2.2.2.1
theorem dL_law_813 : decode cL_law 813 = .ok (.goto 550, 3) := dg_cL_law_30.2.2.2.2.2.2.2.2.2.2.2.1
theorem dL_law_816 : decode cL_law 816 = .ok (.aload_n 1, 1) := dg_cL_law_30.2.2.2.2.2.2.2.2.2.2.2.2.1
theorem dL_law_817 : decode cL_law 817 = .ok (.aload_n 0, 1) := dg_cL_law_30.2.2.2.2.2.2.2.2.2.2.2.2.2.1
theorem dL_law_818 : decode cL_law 818 = .ok (.iload_n 3, 1) := dg_cL_law_30.2.2.2.2.2.2.2.2.2.2.2.2.2.2.1
theorem dL_law_819 : decode cL_law 819 = .ok (.iconst 1, 1) := dg_cL_law_30.2.2.2.2.2.2.2.2.2.2.2.2.2.2.2
set_option maxRecDepth 100000 in
theorem dg_cL_law_31 : (decode cL_law 820 = .ok (.iadd, 1)) ∧ (decode cL_law 821 = .ok (.iaload, 1)) ∧ (decode cL_law 822 = .ok (.invokevirtual 101, 3)) ∧ (decode cL_law 825 = .ok (.pop, 1)) ∧ (decode cL_law 826 = .ok (.aload_n 2, 1)) ∧ (decode cL_law 827 = .ok (.aload_n 0, 1)) ∧ (decode cL_law 828 = .ok (.iload_n 3, 1)) ∧ (decode cL_law 829 = .ok (.iconst 1, 1)) ∧ (decode cL_law 830 = .ok (.iadd, 1)) ∧ (decode cL_law 831 = .ok (.iaload, 1)) ∧ (decode cL_law 832 = .ok (.invokevirtual 104, 3)) ∧ (decode cL_law 835 = .ok (.pop, 1)) ∧ (decode cL_law 836 = .ok (.goto 527, 3)) ∧ (decode cL_law 839 = .ok (.aload_n 1, 1)) ∧ (decode cL_law 840 = .ok (.invokevirtual 105, 3)) ∧ (decode cL_law 843 = .ok (.pop, 1)) := by decide +kernel
theorem dL_law_820 : decode cL_law 820 = .ok (.iadd, 1) := dg_cL_law_31.1
theorem dL_law_821 : decode cL_law 821 = .ok (.iaload, 1) := dg_cL_law_31.2.1
theorem dL_law_822 : decode cL_law 822 = .ok (.invokevirtual 101, 3) := dg_cL_law_31.2.2.1
theorem dL_law_825 : decode cL_law 825 = .ok (.pop, 1) := dg_cL_law_31.2.2.2.1
theorem dL_law_826 : decode cL_law 826 = .ok (.aload_n 2, 1) := dg_cL_law_31.2.2.2.2.1
theorem dL_law_827 : decode cL_law 827 = .ok (.aload_n 0, 1) := dg_cL_law_31.2.2.2.2.2.1
theorem dL_law_828 : decode cL_law 828 = .ok (.iload_n 3, 1) := dg_cL_law_31.2.2.2.2.2.2.1
theorem dL_law_829 : decode cL_law 829 = .ok (.iconst 1, 1) := dg_cL_law_31.2.2.2.2.2.2.2.1
theorem dL_law_830 : decode cL_law 830 = .ok (.iadd, 1) := dg_cL_law_31.2.2.2.2.2.2.2.2.1
theorem dL_law_831 : decode cL_law 831 = .ok (.iaload, 1) := dg_cL_law_31.2.2.2.2.2.2.2.2.2.1
theorem dL_law_832 : decode cL_law 832 = .ok (.invokevirtual 104, 3) := dg_cL_law_31.2.2.2.2.2.2.2.2.2.2.1
theorem dL_law_835 : decode cL_law 835 = .ok (.pop, 1) := dg_cL_law_31.2.2.2.2.2.2.2.2.2.2.2.1
theorem dL_law_836 : decode cL_law 836 = .ok (.goto 527, 3) := dg_cL_law_31.2.2.2.2.2.2.2.2.2.2.2.2.1
theorem dL_law_839 : decode cL_law 839 = .ok (.aload_n 1, 1) := dg_cL_law_31.2.2.2.2.2.2.2.2.2.2.2.2.2.1
theorem dL_law_840 : decode cL_law 840 = .ok (.invokevirtual 105, 3) := dg_cL_law_31.2.2.2.2.2.2.2.2.2.2.2.2.2.2.1
theorem dL_law_843 : decode cL_law 843 = .ok (.pop, 1) := dg_cL_law_31.2.2.2.2.2.2.2.2.2.2.2.2.2.2.2
set_option maxRecDepth 100000 in
theorem dg_cL_law_32 : (decode cL_law 844 = .ok (.aload_n 2, 1)) ∧ (decode cL_law 845 = .ok (.invokevirtual 108, 3)) ∧ (decode cL_law 848 = .ok (.pop, 1)) ∧ (decode cL_law 849 = .ok (.goto 514, 3)) ∧ (decode cL_law 852 = .ok (.aload_n 1, 1)) ∧ (decode cL_law 853 = .ok (.aload_n 0, 1)) ∧ (decode cL_law 854 = .ok (.iload_n 3, 1)) ∧ (decode cL_law 855 = .ok (.iconst 1, 1)) ∧ (decode cL_law 856 = .ok (.iadd, 1)) ∧ (decode cL_law 857 = .ok (.iaload, 1)) ∧ (decode cL_law 858 = .ok (.aload_n 0, 1)) ∧ (decode cL_law 859 = .ok (.iload_n 3, 1)) ∧ (decode cL_law 860 = .ok (.iconst 2, 1)) ∧ (decode cL_law 861 = .ok (.iadd, 1)) ∧ (decode cL_law 862 = .ok (.iaload, 1)) ∧ (decode cL_law 863 = .ok (.invokevirtual 109, 3)) := by decide +kernel
theorem dL_law_844 : decode cL_law 844 = .ok (.aload_n 2, 1) := dg_cL_law_32.1
theorem dL_law_845 : decode cL_law 845 = .ok (.invokevirtual 108, 3) := dg_cL_law_32.2.1
theorem dL_law_848 : decode cL_law 848 = .ok (.pop, 1) := dg_cL_law_32.2.2.1
theorem dL_law_849 : decode cL_law 849 = .ok (.goto 514, 3) := dg_cL_law_32.2.2.2.1
theorem dL_law_852 : decode cL_law 852 = .ok (.aload_n 1, 1) := dg_cL_law_32.2.2.2.2.1
theorem dL_law_853 : decode cL_law 853 = .ok (.aload_n 0, 1) := dg_cL_law_32.2.2.2.2.2.1
theorem dL_law_854 : decode cL_law 854 = .ok (.iload_n 3, 1) := dg_cL_law_32.2.2.2.2.2.2.1
theorem dL_law_855 : decode cL_law 855 = .ok (.iconst 1, 1) := dg_cL_law_32.2.2.2.2.2.2.2.1
theorem dL_law_856 : decode cL_law 856 = .ok (.iadd, 1) := dg_cL_law_32.2.2.2.2.2.2.2.2.1
theorem dL_law_857 : decode cL_law 857 = .ok (.iaload, 1) := dg_cL_law_32.2.2.2.2.2.2.2.2.2.1
theorem dL_law_858 : decode cL_law 858 = .ok (.aload_n 0, 1) := dg_cL_law_32.2.2.2.2.2.2.2.2.2.2.1
theorem dL_law_859 : decode cL_law 859 = .ok (.iload_n 3, 1) := dg_cL_law_32.2.2.2.2.2.2.2.2.2.2.2.1
theorem dL_law_860 : decode cL_law 860 = .ok (.iconst 2, 1) := dg_cL_law_32.2.2.2.2.2.2.2.2.2.2.2.2.1
theorem dL_law_861 : decode cL_law 861 = .ok (.iadd, 1) := dg_cL_law_32.2.2.2.2.2.2.2.2.2.2.2.2.2.1
theorem dL_law_862 : decode cL_law 862 = .ok (.iaload, 1) := dg_cL_law_32.2.2.2.2.2.2.2.2.2.2.2.2.2.2.1
theorem dL_law_863 : decode cL_law 863 = .ok (.invokevirtual 109, 3) := dg_cL_law_32.2.2.2.2.2.2.2.2.2.2.2.2.2.2.2
set_option maxRecDepth 100000 in
theorem dg_cL_law_33 : (decode cL_law 866 = .ok (.pop, 1)) ∧ (decode cL_law 867 = .ok (.aload_n 2, 1)) ∧ (decode cL_law 868 = .ok (.aload_n 0, 1)) ∧ (decode cL_law 869 = .ok (.iload_n 3, 1)) ∧ (decode cL_law 870 = .ok (.iconst 1, 1)) ∧ (decode cL_law 871 = .ok (.iadd, 1)) ∧ (decode cL_law 872 = .ok (.iaload, 1)) ∧ (decode cL_law 873 = .ok (.aload_n 0, 1)) ∧ (decode cL_law 874 = .ok (.iload_n 3, 1)) ∧ (decode cL_law 875 = .ok (.iconst 2, 1)) ∧ (decode cL_law 876 = .ok (.iadd, 1)) ∧ (decode cL_law 877 = .ok (.iaload, 1)) ∧ (decode cL_law 878 = .ok (.invokevirtual 112, 3)) ∧ (decode cL_law 881 = .ok (.pop, 1)) ∧ (decode cL_law 882 = .ok (.goto 481, 3)) ∧ (decode cL_law 885 = .ok (.aload_n 1, 1)) := by decide +kernel
theorem dL_law_866 : decode cL_law 866 = .ok (.pop, 1) := dg_cL_law_33.1
theorem dL_law_867 : decode cL_law 867 = .ok (.aload_n 2, 1) := dg_cL_law_33.2.1
theorem dL_law_868 : decode cL_law 868 = .ok (.aload_n 0, 1) := dg_cL_law_33.2.2.1
theorem dL_law_869 : decode cL_law 869 = .ok (.iload_n 3, 1) := dg_cL_law_33.2.2.2.1
theorem dL_law_870 : decode cL_law 870 = .ok (.iconst 1, 1) := dg_cL_law_33.2.2.2.2.1
theorem dL_law_871 : decode cL_law 871 = .ok (.iadd, 1) := dg_cL_law_33.2.2.2.2.2.1
theorem dL_law_872 : decode cL_law 872 = .ok (.iaload, 1) := dg_cL_law_33.2.2.2.2.2.2.1
theorem dL_law_873 : decode cL_law 873 = .ok (.aload_n 0, 1) := dg_cL_law_33.2.2.2.2.2.2.2.1
theorem dL_law_874 : decode cL_law 874 = .ok (.iload_n 3, 1) := dg_cL_law_33.2.2.2.2.2.2.2.2.1
theorem dL_law_875 : decode cL_law 875 = .ok (.iconst 2, 1) := dg_cL_law_33.2.2.2.2.2.2.2.2.2.1
theorem dL_law_876 : decode cL_law 876 = .ok (.iadd, 1) := dg_cL_law_33.2.2.2.2.2.2.2.2.2.2.1
theorem dL_law_877 : decode cL_law 877 = .ok (.iaload, 1) := dg_cL_law_33.2.2.2.2.2.2.2.2.2.2.2.1
theorem dL_law_878 : decode cL_law 878 = .ok (.invokevirtual 112, 3) := dg_cL_law_33.2.2.2.2.2.2.2.2.2.2.2.2.1
theorem dL_law_881 : decode cL_law 881 = .ok (.pop, 1) := dg_cL_law_33.2.2.2.2.2.2.2.2.2.2.2.2.2.1
theorem dL_law_882 : decode cL_law 882 = .ok (.goto 481, 3) := dg_cL_law_33.2.2.2.2.2.2.2.2.2.2.2.2.2.2.1
theorem dL_law_885 : decode cL_law 885 = .ok (.aload_n 1, 1) := dg_cL_law_33.2.2.2.2.2.2.2.2.2.2.2.2.2.2.2
set_option maxRecDepth 100000 in
theorem dg_cL_law_34 : (decode cL_law 886 = .ok (.aload_n 0, 1)) ∧ (decode cL_law 887 = .ok (.iload_n 3, 1)) ∧ (decode cL_law 888 = .ok (.iconst 1, 1)) ∧ (decode cL_law 889 = .ok (.iadd, 1)) ∧ (decode cL_law 890 = .ok (.iaload, 1)) ∧ (decode cL_law 891 = .ok (.aload_n 0, 1)) ∧ (decode cL_law 892 = .ok (.iload_n 3, 1)) ∧ (decode cL_law 893 = .ok (.iconst 2, 1)) ∧ (decode cL_law 894 = .ok (.iadd, 1)) ∧ (decode cL_law 895 = .ok (.iaload, 1)) ∧ (decode cL_law 896 = .ok (.aload_n 0, 1)) ∧ (decode cL_law 897 = .ok (.iload_n 3, 1)) ∧ (decode cL_law 898 = .ok (.iconst 3, 1)) ∧ (decode cL_law 899 = .ok (.iadd, 1)) ∧ (decode cL_law 900 = .ok (.iaload, 1)) ∧ (decode cL_law 901 = .ok (.invokevirtual 113, 3)) := by decide +kernel
theorem dL_law_886 : decode cL_law 886 = .ok (.aload_n 0, 1) := dg_cL_law_34.1
theorem dL_law_887 : decode cL_law 887 = .ok (.iload_n 3, 1) := dg_cL_law_34.2.1
theorem dL_law_888 : decode cL_law 888 = .ok (.iconst 1, 1) := dg_cL_law_34.2.2.1
theorem dL_law_889 : decode cL_law 889 = .ok (.iadd, 1) := dg_cL_law_34.2.2.2.1
theorem dL_law_890 : decode cL_law 890 = .ok (.iaload, 1) := dg_cL_law_34.2.2.2.2.1
theorem dL_law_891 : decode cL_law 891 = .ok (.aload_n 0, 1) := dg_cL_law_34.2.2.2.2.2.1
theorem dL_law_892 : decode cL_law 892 = .ok (.iload_n 3, 1) := dg_cL_law_34.2.2.2.2.2.2.1
theorem dL_law_893 : decode cL_law 893 = .ok (.iconst 2, 1) := dg_cL_law_34.2.2.2.2.2.2.2.1
theorem dL_law_894 : decode cL_law 894 = .ok (.iadd, 1) := dg_cL_law_34.2.2.2.2.2.2.2.2.1
theorem dL_law_895 : decode cL_law 895 = .ok (.iaload, 1) := dg_cL_law_34.2.2.2.2.2.2.2.2.2.1
theorem dL_law_896 : decode cL_law 896 = .ok (.aload_n 0, 1) := dg_cL_law_34.2.2.2.2.2.2.2.2.2.2.1
theorem dL_law_897 : decode cL_law 897 = .ok (.iload_n 3, 1) := dg_cL_law_34.2.2.2.2.2.2.2.2.2.2.2.1
theorem dL_law_898 : decode cL_law 898 = .ok (.iconst 3, 1) := dg_cL_law_34.2.2.2.2.2.2.2.2.2.2.2.2.1
theorem dL_law_899 : decode cL_law 899 = .ok (.iadd, 1) := dg_cL_law_34.2.2.2.2.2.2.2.2.2.2.2.2.2.1
theorem dL_law_900 : decode cL_law 900 = .ok (.iaload, 1) := dg_cL_law_34.2.2.2.2.2.2.2.2.2.2.2.2.2.2.1
theorem dL_law_901 : decode cL_law 901 = .ok (.invokevirtual 113, 3) := dg_cL_law_34.2.2.2.2.2.2.2.2.2.2.2.2.2.2.2
set_option maxRecDepth 100000 in
theorem dg_cL_law_35 : (decode cL_law 904 = .ok (.pop, 1)) ∧ (decode cL_law 905 = .ok (.aload_n 2, 1)) ∧ (decode cL_law 906 = .ok (.aload_n 0, 1)) ∧ (decode cL_law 907 = .ok (.iload_n 3, 1)) ∧ (decode cL_law 908 = .ok (.iconst 1, 1)) ∧ (decode cL_law 909 = .ok (.iadd, 1)) ∧ (decode cL_law 910 = .ok (.iaload, 1)) ∧ (decode cL_law 911 = .ok (.aload_n 0, 1)) ∧ (decode cL_law 912 = .ok (.iload_n 3, 1)) ∧ (decode cL_law 913 = .ok (.iconst 2, 1)) ∧ (decode cL_law 914 = .ok (.iadd, 1)) ∧ (decode cL_law 915 = .ok (.iaload, 1)) ∧ (decode cL_law 916 = .ok (.aload_n 0, 1)) ∧ (decode cL_law 917 = .ok (.iload_n 3, 1)) ∧ (decode cL_law 918 = .ok (.iconst 3, 1)) ∧ (decode cL_law 919 = .ok (.iadd, 1)) := by decide +kernel
theorem dL_law_904 : decode cL_law 904 = .ok (.pop, 1) := dg_cL_law_35.1
theorem dL_law_905 : decode cL_law 905 = .ok (.aload_n 2, 1) := dg_cL_law_35.2.1
theorem dL_law_906 : decode cL_law 906 = .ok (.aload_n 0, 1) := dg_cL_law_35.2.2.1
theorem dL_law_907 : decode cL_law 907 = .ok (.iload_n 3, 1) := dg_cL_law_35.2.2.2.1
theorem dL_law_908 : decode cL_law 908 = .ok (.iconst 1, 1) := dg_cL_law_35.2.2.2.2.1
theorem dL_law_909 : decode cL_law 909 = .ok (.iadd, 1) := dg_cL_law_35.2.2.2.2.2.1
theorem dL_law_910 : decode cL_law 910 = .ok (.iaload, 1) := dg_cL_law_35.2.2.2.2.2.2.1
theorem dL_law_911 : decode cL_law 911 = .ok (.aload_n 0, 1) := dg_cL_law_35.2.2.2.2.2.2.2.1
theorem dL_law_912 : decode cL_law 912 = .ok (.iload_n 3, 1) := dg_cL_law_35.2.2.2.2.2.2.2.2.1
theorem dL_law_913 : decode cL_law 913 = .ok (.iconst 2, 1) := dg_cL_law_35.2.2.2.2.2.2.2.2.2.1
theorem dL_law_914 : decode cL_law 914 = .ok (.iadd, 1) := dg_cL_law_35.2.2.2.2.2.2.2.2.2.2.1
theorem dL_law_915 : decode cL_law 915 = .ok (.iaload, 1) := dg_cL_law_35.2.2.2.2.2.2.2.2.2.2.2.1
theorem dL_law_916 : decode cL_law 916 = .ok (.aload_n 0, 1) := dg_cL_law_35.2.2.2.2.2.2.2.2.2.2.2.2.1
theorem dL_law_917 : decode cL_law 917 = .ok (.iload_n 3, 1) := dg_cL_law_35.2.2.2.2.2.2.2.2.2.2.2.2.2.1
theorem dL_law_918 : decode cL_law 918 = .ok (.iconst 3, 1) := dg_cL_law_35.2.2.2.2.2.2.2.2.2.2.2.2.2.2.1
theorem dL_law_919 : decode cL_law 919 = .ok (.iadd, 1) := dg_cL_law_35.2.2.2.2.2.2.2.2.2.2.2.2.2.2.2
set_option maxRecDepth 100000 in
theorem dg_cL_law_36 : (decode cL_law 920 = .ok (.iaload, 1)) ∧ (decode cL_law 921 = .ok (.invokevirtual 117, 3)) ∧ (decode cL_law 924 = .ok (.pop, 1)) ∧ (decode cL_law 925 = .ok (.goto 438, 3)) ∧ (decode cL_law 928 = .ok (.aload_n 1, 1)) ∧ (decode cL_law 929 = .ok (.aload_n 0, 1)) ∧ (decode cL_law 930 = .ok (.iload_n 3, 1)) ∧ (decode cL_law 931 = .ok (.iconst 1, 1)) ∧ (decode cL_law 932 = .ok (.iadd, 1)) ∧ (decode cL_law 933 = .ok (.iaload, 1)) ∧ (decode cL_law 934 = .ok (.aload_n 0, 1)) ∧ (decode cL_law 935 = .ok (.iload_n 3, 1)) ∧ (decode cL_law 936 = .ok (.iconst 2, 1)) ∧ (decode cL_law 937 = .ok (.iadd, 1)) ∧ (decode cL_law 938 = .ok (.iaload, 1)) ∧ (decode cL_law 939 = .ok (.aload_n 0, 1)) := by decide +kernel
theorem dL_law_920 : decode cL_law 920 = .ok (.iaload, 1) := dg_cL_law_36.1
theorem dL_law_921 : decode cL_law 921 = .ok (.invokevirtual 117, 3) := dg_cL_law_36.2.1
theorem dL_law_924 : decode cL_law 924 = .ok (.pop, 1) := dg_cL_law_36.2.2.1
theorem dL_law_925 : decode cL_law 925 = .ok (.goto 438, 3) := dg_cL_law_36.2.2.2.1
theorem dL_law_928 : decode cL_law 928 = .ok (.aload_n 1, 1) := dg_cL_law_36.2.2.2.2.1
theorem dL_law_929 : decode cL_law 929 = .ok (.aload_n 0, 1) := dg_cL_law_36.2.2.2.2.2.1
theorem dL_law_930 : decode cL_law 930 = .ok (.iload_n 3, 1) := dg_cL_law_36.2.2.2.2.2.2.1
theorem dL_law_931 : decode cL_law 931 = .ok (.iconst 1, 1) := dg_cL_law_36.2.2.2.2.2.2.2.1
theorem dL_law_932 : decode cL_law 932 = .ok (.iadd, 1) := dg_cL_law_36.2.2.2.2.2.2.2.2.1
theorem dL_law_933 : decode cL_law 933 = .ok (.iaload, 1) := dg_cL_law_36.2.2.2.2.2.2.2.2.2.1
theorem dL_law_934 : decode cL_law 934 = .ok (.aload_n 0, 1) := dg_cL_law_36.2.2.2.2.2.2.2.2.2.2.1
theorem dL_law_935 : decode cL_law 935 = .ok (.iload_n 3, 1) := dg_cL_law_36.2.2.2.2.2.2.2.2.2.2.2.1
theorem dL_law_936 : decode cL_law 936 = .ok (.iconst 2, 1) := dg_cL_law_36.2.2.2.2.2.2.2.2.2.2.2.2.1
theorem dL_law_937 : decode cL_law 937 = .ok (.iadd, 1) := dg_cL_law_36.2.2.2.2.2.2.2.2.2.2.2.2.2.1
theorem dL_law_938 : decode cL_law 938 = .ok (.iaload, 1) := dg_cL_law_36.2.2.2.2.2.2.2.2.2.2.2.2.2.2.1
theorem dL_law_939 : decode cL_law 939 = .ok (.aload_n 0, 1) := dg_cL_law_36.2.2.2.2.2.2.2.2.2.2.2.2.2.2.2
set_option maxRecDepth 100000 in
theorem dg_cL_law_37 : (decode cL_law 940 = .ok (.iload_n 3, 1)) ∧ (decode cL_law 941 = .ok (.iconst 3, 1)) ∧ (decode cL_law 942 = .ok (.iadd, 1)) ∧ (decode cL_law 943 = .ok (.iaload, 1)) ∧ (decode cL_law 944 = .ok (.invokevirtual 118, 3)) ∧ (decode cL_law 947 = .ok (.pop, 1)) ∧ (decode cL_law 948 = .ok (.aload_n 2, 1)) ∧ (decode cL_law 949 = .ok (.aload_n 0, 1)) ∧ (decode cL_law 950 = .ok (.iload_n 3, 1)) ∧ (decode cL_law 951 = .ok (.iconst 1, 1)) ∧ (decode cL_law 952 = .ok (.iadd, 1)) ∧ (decode cL_law 953 = .ok (.iaload, 1)) ∧ (decode cL_law 954 = .ok (.aload_n 0, 1)) ∧ (decode cL_law 955 = .ok (.iload_n 3, 1)) ∧ (decode cL_law 956 = .ok (.iconst 2, 1)) ∧ (decode cL_law 957 = .ok (.iadd, 1)) := by decide +kernel
theorem dL_law_940 : decode cL_law 940 = .ok (.iload_n 3, 1) := dg_cL_law_37.1
theorem dL_law_941 : decode cL_law 941 = .ok (.iconst 3, 1) := dg_cL_law_37.2.1
theorem dL_law_942 : decode cL_law 942 = .ok (.iadd, 1) := dg_cL_law_37.2.2.1
theorem dL_law_943 : decode cL_law 943 = .ok (.iaload, 1) := dg_cL_law_37.2.2.2.1
theorem dL_law_944 : decode cL_law 944 = .ok (.invokevirtual 118, 3) := dg_cL_law_37.2.2.2.2.1
theorem dL_law_947 : decode cL_law 947 = .ok (.pop, 1) := dg_cL_law_37.2.2.2.2.2.1
theorem dL_law_948 : decode cL_law 948 = .ok (.aload_n 2, 1) := dg_cL_law_37.2.2.2.2.2.2.1
theorem dL_law_949 : decode cL_law 949 = .ok (.aload_n 0, 1) := dg_cL_law_37.2.2.2.2.2.2.2.1
theorem dL_law_950 : decode cL_law 950 = .ok (.iload_n 3, 1) := dg_cL_law_37.2.2.2.2.2.2.2.2.1
theorem dL_law_951 : decode cL_law 951 = .ok (.iconst 1, 1) := dg_cL_law_37.2.2.2.2.2.2.2.2.2.1
theorem dL_law_952 : decode cL_law 952 = .ok (.iadd, 1) := dg_cL_law_37.2.2.2.2.2.2.2.2.2.2.1
theorem dL_law_953 : decode cL_law 953 = .ok (.iaload, 1) := dg_cL_law_37.2.2.2.2.2.2.2.2.2.2.2.1
theorem dL_law_954 : decode cL_law 954 = .ok (.aload_n 0, 1) := dg_cL_law_37.2.2.2.2.2.2.2.2.2.2.2.2.1
theorem dL_law_955 : decode cL_law 955 = .ok (.iload_n 3, 1) := dg_cL_law_37.2.2.2.2.2.2.2.2.2.2.2.2.2.1
theorem dL_law_956 : decode cL_law 956 = .ok (.iconst 2, 1) := dg_cL_law_37.2.2.2.2.2.2.2.2.2.2.2.2.2.2.1
theorem dL_law_957 : decode cL_law 957 = .ok (.iadd, 1) := dg_cL_law_37.2.2.2.2.2.2.2.2.2.2.2.2.2.2.2
set_option maxRecDepth 100000 in
theorem dg_cL_law_38 : (decode cL_law 958 = .ok (.iaload, 1)) ∧ (decode cL_law 959 = .ok (.aload_n 0, 1)) ∧ (decode cL_law 960 = .ok (.iload_n 3, 1)) ∧ (decode cL_law 961 = .ok (.iconst 3, 1)) ∧ (decode cL_law 962 = .ok (.iadd, 1)) ∧ (decode cL_law 963 = .ok (.iaload, 1)) ∧ (decode cL_law 964 = .ok (.invokevirtual 121, 3)) ∧ (decode cL_law 967 = .ok (.pop, 1)) ∧ (decode cL_law 968 = .ok (.goto 395, 3)) ∧ (decode cL_law 971 = .ok (.aload_n 1, 1)) ∧ (decode cL_law 972 = .ok (.aload_n 0, 1)) ∧ (decode cL_law 973 = .ok (.iload_n 3, 1)) ∧ (decode cL_law 974 = .ok (.iconst 1, 1)) ∧ (decode cL_law 975 = .ok (.iadd, 1)) ∧ (decode cL_law 976 = .ok (.iaload, 1)) ∧ (decode cL_law 977 = .ok (.invokevirtual 122, 3)) := by decide +kernel
theorem dL_law_958 : decode cL_law 958 = .ok (.iaload, 1) := dg_cL_law_38.1
theorem dL_law_959 : decode cL_law 959 = .ok (.aload_n 0, 1) := dg_cL_law_38.2.1
theorem dL_law_960 : decode cL_law 960 = .ok (.iload_n 3, 1) := dg_cL_law_38.2.2.1
theorem dL_law_961 : decode cL_law 961 = .ok (.iconst 3, 1) := dg_cL_law_38.2.2.2.1
theorem dL_law_962 : decode cL_law 962 = .ok (.iadd, 1) := dg_cL_law_38.2.2.2.2.1
theorem dL_law_963 : decode cL_law 963 = .ok (.iaload, 1) := dg_cL_law_38.2.2.2.2.2.1
theorem dL_law_964 : decode cL_law 964 = .ok (.invokevirtual 121, 3) := dg_cL_law_38.2.2.2.2.2.2.1
theorem dL_law_967 : decode cL_law 967 = .ok (.pop, 1) := dg_cL_law_38.2.2.2.2.2.2.2.1
theorem dL_law_968 : decode cL_law 968 = .ok (.goto 395, 3) := dg_cL_law_38.2.2.2.2.2.2.2.2.1
theorem dL_law_971 : decode cL_law 971 = .ok (.aload_n 1, 1) := dg_cL_law_38.2.2.2.2.2.2.2.2.2.1
theorem dL_law_972 : decode cL_law 972 = .ok (.aload_n 0, 1) := dg_cL_law_38.2.2.2.2.2.2.2.2.2.2.1
theorem dL_law_973 : decode cL_law 973 = .ok (.iload_n 3, 1) := dg_cL_law_38.2.2.2.2.2.2.2.2.2.2.2.1
theorem dL_law_974 : decode cL_law 974 = .ok (.iconst 1, 1) := dg_cL_law_38.2.2.2.2.2.2.2.2.2.2.2.2.1
theorem dL_law_975 : decode cL_law 975 = .ok (.iadd, 1) := dg_cL_law_38.2.2.2.2.2.2.2.2.2.2.2.2.2.1
theorem dL_law_976 : decode cL_law 976 = .ok (.iaload, 1) := dg_cL_law_38.2.2.2.2.2.2.2.2.2.2.2.2.2.2.1
theorem dL_law_977 : decode cL_law 977 = .ok (.invokevirtual 122, 3) := dg_cL_law_38.2.2.2.2.2.2.2.2.2.2.2.2.2.2.2
set_option maxRecDepth 100000 in
theorem dg_cL_law_39 : (decode cL_law 980 = .ok (.pop, 1)) ∧ (decode cL_law 981 = .ok (.aload_n 2, 1)) ∧ (decode cL_law 982 = .ok (.aload_n 0, 1)) ∧ (decode cL_law 983 = .ok (.iload_n 3, 1)) ∧ (decode cL_law 984 = .ok (.iconst 1, 1)) ∧ (decode cL_law 985 = .ok (.iadd, 1)) ∧ (decode cL_law 986 = .ok (.iaload, 1)) ∧ (decode cL_law 987 = .ok (.invokevirtual 125, 3)) ∧ (decode cL_law 990 = .ok (.pop, 1)) ∧ (decode cL_law 991 = .ok (.goto 372, 3)) ∧ (decode cL_law 994 = .ok (.aload_n 1, 1)) ∧ (decode cL_law 995 = .ok (.aload_n 0, 1)) ∧ (decode cL_law 996 = .ok (.iload_n 3, 1)) ∧ (decode cL_law 997 = .ok (.iconst 1, 1)) ∧ (decode cL_law 998 = .ok (.iadd, 1)) ∧ (decode cL_law 999 = .ok (.iaload, 1)) := by decide +kernel
theorem dL_law_980 : decode cL_law 980 = .ok (.pop, 1) := dg_cL_law_39.1
theorem dL_law_981 : decode cL_law 981 = .ok (.aload_n 2, 1) := dg_cL_law_39.2.1
theorem dL_law_982 : decode cL_law 982 = .ok (.aload_n 0, 1) := dg_cL_law_39.2.2.1
theorem dL_law_983 : decode cL_law 983 = .ok (.iload_n 3, 1) := dg_cL_law_39.2.2.2.1
theorem dL_law_984 : decode cL_law 984 = .ok (.iconst 1, 1) := dg_cL_law_39.2.2.2.2.1
theorem dL_law_985 : decode cL_law 985 = .ok (.iadd, 1) := dg_cL_law_39.2.2.2.2.2.1
theorem dL_law_986 : decode cL_law 986 = .ok (.iaload, 1) := dg_cL_law_39.2.2.2.2.2.2.1
theorem dL_law_987 : decode cL_law 987 = .ok (.invokevirtual 125, 3) := dg_cL_law_39.2.2.2.2.2.2.2.1
theorem dL_law_990 : decode cL_law 990 = .ok (.pop, 1) := dg_cL_law_39.2.2.2.2.2.2.2.2.1
theorem dL_law_991 : decode cL_law 991 = .ok (.goto 372, 3) := dg_cL_law_39.2.2.2.2.2.2.2.2.2.1
theorem dL_law_994 : decode cL_law 994 = .ok (.aload_n 1, 1) := dg_cL_law_39.2.2.2.2.2.2.2.2.2.2.1
theorem dL_law_995 : decode cL_law 995 = .ok (.aload_n 0, 1) := dg_cL_law_39.2.2.2.2.2.2.2.2.2.2.2.1
theorem dL_law_996 : decode cL_law 996 = .ok (.iload_n 3, 1) := dg_cL_law_39.2.2.2.2.2.2.2.2.2.2.2.2.1
theorem dL_law_997 : decode cL_law 997 = .ok (.iconst 1, 1) := dg_cL_law_39.2.2.2.2.2.2.2.2.2.2.2.2.2.1
theorem dL_law_998 : decode cL_law 998 = .ok (.iadd, 1) := dg_cL_law_39.2.2.2.2.2.2.2.2.2.2.2.2.2.2.1
theorem dL_law_999 : decode cL_law 999 = .ok (.iaload, 1) := dg_cL_law_39.2.2.2.2.2.2.2.2.2.2.2.2.2.2.2
set_option maxRecDepth 100000 in
theorem dg_cL_law_40 : (decode cL_law 1000 = .ok (.aload_n 0, 1)) ∧ (decode cL_law 1001 = .ok (.iload_n 3, 1)) ∧ (decode cL_law 1002 = .ok (.iconst 2, 1)) ∧ (decode cL_law 1003 = .ok (.iadd, 1)) ∧ (decode cL_law 1004 = .ok (.iaload, 1)) ∧ (decode cL_law 1005 = .ok (.invokevirtual 126, 3)) ∧ (decode cL_law 1008 = .ok (.pop, 1)) ∧ (decode cL_law 1009 = .ok (.aload_n 2, 1)) ∧ (decode cL_law 1010 = .ok (.aload_n 0, 1)) ∧ (decode cL_law 1011 = .ok (.iload_n 3, 1)) ∧ (decode cL_law 1012 = .ok (.iconst 1, 1)) ∧ (decode cL_law 1013 = .ok (.iadd, 1)) ∧ (decode cL_law 1014 = .ok (.iaload, 1)) ∧ (decode cL_law 1015 = .ok (.aload_n 0, 1)) ∧ (decode cL_law 1016 = .ok (.iload_n 3, 1)) ∧ (decode cL_law 1017 = .ok (.iconst 2, 1)) := by decide +kernel
theorem dL_law_1000 : decode cL_law 1000 = .ok (.aload_n 0, 1) := dg_cL_law_40.1
theorem dL_law_1001 : decode cL_law 1001 = .ok (.iload_n 3, 1) := dg_cL_law_40.2.1
theorem dL_law_1002 : decode cL_law 1002 = .ok (.iconst 2, 1) := dg_cL_law_40.2.2.1
theorem dL_law_1003 : decode cL_law 1003 = .ok (.iadd, 1) := dg_cL_law_40.2.2.2.1
theorem dL_law_1004 : decode cL_law 1004 = .ok (.iaload, 1) := dg_cL_law_40.2.2.2.2.1
theorem dL_law_1005 : decode cL_law 1005 = .ok (.invokevirtual 126, 3) := dg_cL_law_40.2.2.2.2.2.1
theorem dL_law_1008 : decode cL_law 1008 = .ok (.pop, 1) := dg_cL_law_40.2.2.2.2.2.2.1
theorem dL_law_1009 : decode cL_law 1009 = .ok (.aload_n 2, 1) := dg_cL_law_40.2.2.2.2.2.2.2.1
theorem dL_law_1010 : decode cL_law 1010 = .ok (.aload_n 0, 1) := dg_cL_law_40.2.2.2.2.2.2.2.2.1
theorem dL_law_1011 : decode cL_law 1011 = .ok (.iload_n 3, 1) := dg_cL_law_40.2.2.2.2.2.2.2.2.2.1
theorem dL_law_1012 : decode cL_law 1012 = .ok (.iconst 1, 1) := dg_cL_law_40.2.2.2.2.2.2.2.2.2.2.1
theorem dL_law_1013 : decode cL_law 1013 = .ok (.iadd, 1) := dg_cL_law_40.2.2.2.2.2.2.2.2.2.2.2.1
theorem dL_law_1014 : decode cL_law 1014 = .ok (.iaload, 1) := dg_cL_law_40.2.2.2.2.2.2.2.2.2.2.2.2.1
theorem dL_law_1015 : decode cL_law 1015 = .ok (.aload_n 0, 1) := dg_cL_law_40.2.2.2.2.2.2.2.2.2.2.2.2.2.1
theorem dL_law_1016 : decode cL_law 1016 = .ok (.iload_n 3, 1) := dg_cL_law_40.2.2.2.2.2.2.2.2.2.2.2.2.2.2.1
theorem dL_law_1017 : decode cL_law 1017 = .ok (.iconst 2, 1) := dg_cL_law_40.2.2.2.2.2.2.2.2.2.2.2.2.2.2.2
set_option maxRecDepth 100000 in
theorem dg_cL_law_41 : (decode cL_law 1018 = .ok (.iadd, 1)) ∧ (decode cL_law 1019 = .ok (.iaload, 1)) ∧ (decode cL_law 1020 = .ok (.invokevirtual 129, 3)) ∧ (decode cL_law 1023 = .ok (.pop, 1)) ∧ (decode cL_law 1024 = .ok (.goto 339, 3)) ∧ (decode cL_law 1027 = .ok (.aload_n 1, 1)) ∧ (decode cL_law 1028 = .ok (.aload_n 0, 1)) ∧ (decode cL_law 1029 = .ok (.iload_n 3, 1)) ∧ (decode cL_law 1030 = .ok (.iconst 1, 1)) ∧ (decode cL_law 1031 = .ok (.iadd, 1)) ∧ (decode cL_law 1032 = .ok (.iaload, 1)) ∧ (decode cL_law 1033 = .ok (.aload_n 0, 1)) ∧ (decode cL_law 1034 = .ok (.iload_n 3, 1)) ∧ (decode cL_law 1035 = .ok (.iconst 2, 1)) ∧ (decode cL_law 1036 = .ok (.iadd, 1)) ∧ (decode cL_law 1037 = .ok (.iaload, 1)) := by decide +kernel
theorem dL_law_1018 : decode cL_law 1018 = .ok (.iadd, 1) := dg_cL_law_41.1
theorem dL_law_1019 : decode cL_law 1019 = .ok (.iaload, 1) := dg_cL_law_41.2.1
theorem dL_law_1020 : decode cL_law 1020 = .ok (.invokevirtual 129, 3) := dg_cL_law_41.2.2.1
theorem dL_law_1023 : decode cL_law 1023 = .ok (.pop, 1) := dg_cL_law_41.2.2.2.1
theorem dL_law_1024 : decode cL_law 1024 = .ok (.goto 339, 3) := dg_cL_law_41.2.2.2.2.1
theorem dL_law_1027 : decode cL_law 1027 = .ok (.aload_n 1, 1) := dg_cL_law_41.2.2.2.2.2.1
theorem dL_law_1028 : decode cL_law 1028 = .ok (.aload_n 0, 1) := dg_cL_law_41.2.2.2.2.2.2.1
theorem dL_law_1029 : decode cL_law 1029 = .ok (.iload_n 3, 1) := dg_cL_law_41.2.2.2.2.2.2.2.1
theorem dL_law_1030 : decode cL_law 1030 = .ok (.iconst 1, 1) := dg_cL_law_41.2.2.2.2.2.2.2.2.1
theorem dL_law_1031 : decode cL_law 1031 = .ok (.iadd, 1) := dg_cL_law_41.2.2.2.2.2.2.2.2.2.1
theorem dL_law_1032 : decode cL_law 1032 = .ok (.iaload, 1) := dg_cL_law_41.2.2.2.2.2.2.2.2.2.2.1
theorem dL_law_1033 : decode cL_law 1033 = .ok (.aload_n 0, 1) := dg_cL_law_41.2.2.2.2.2.2.2.2.2.2.2.1
theorem dL_law_1034 : decode cL_law 1034 = .ok (.iload_n 3, 1) := dg_cL_law_41.2.2.2.2.2.2.2.2.2.2.2.2.1
theorem dL_law_1035 : decode cL_law 1035 = .ok (.iconst 2, 1) := dg_cL_law_41.2.2.2.2.2.2.2.2.2.2.2.2.2.1
theorem dL_law_1036 : decode cL_law 1036 = .ok (.iadd, 1) := dg_cL_law_41.2.2.2.2.2.2.2.2.2.2.2.2.2.2.1
theorem dL_law_1037 : decode cL_law 1037 = .ok (.iaload, 1) := dg_cL_law_41.2.2.2.2.2.2.2.2.2.2.2.2.2.2.2
set_option maxRecDepth 100000 in
theorem dg_cL_law_42 : (decode cL_law 1038 = .ok (.invokevirtual 130, 3)) ∧ (decode cL_law 1041 = .ok (.pop, 1)) ∧ (decode cL_law 1042 = .ok (.aload_n 2, 1)) ∧ (decode cL_law 1043 = .ok (.aload_n 0, 1)) ∧ (decode cL_law 1044 = .ok (.iload_n 3, 1)) ∧ (decode cL_law 1045 = .ok (.iconst 1, 1)) ∧ (decode cL_law 1046 = .ok (.iadd, 1)) ∧ (decode cL_law 1047 = .ok (.iaload, 1)) ∧ (decode cL_law 1048 = .ok (.aload_n 0, 1)) ∧ (decode cL_law 1049 = .ok (.iload_n 3, 1)) ∧ (decode cL_law 1050 = .ok (.iconst 2, 1)) ∧ (decode cL_law 1051 = .ok (.iadd, 1)) ∧ (decode cL_law 1052 = .ok (.iaload, 1)) ∧ (decode cL_law 1053 = .ok (.invokevirtual 133, 3)) ∧ (decode cL_law 1056 = .ok (.pop, 1)) ∧ (decode cL_law 1057 = .ok (.goto 306, 3)) := by decide +kernel
theorem dL_law_1038 : decode cL_law 1038 = .ok (.invokevirtual 130, 3) := dg_cL_law_42.1
theorem dL_law_1041 : decode cL_law 1041 = .ok (.pop, 1) := dg_cL_law_42.2.1
theorem dL_law_1042 : decode cL_law 1042 = .ok (.aload_n 2, 1) := dg_cL_law_42.2.2.1
theorem dL_law_1043 : decode cL_law 1043 = .ok (.aload_n 0, 1) := dg_cL_law_42.2.2.2.1
theorem dL_law_1044 : decode cL_law 1044 = .ok (.iload_n 3, 1) := dg_cL_law_42.2.2.2.2.1
theorem dL_law_1045 : decode cL_law 1045 = .ok (.iconst 1, 1) := dg_cL_law_42.2.2.2.2.2.1
theorem dL_law_1046 : decode cL_law 1046 = .ok (.iadd, 1) := dg_cL_law_42.2.2.2.2.2.2.1
theorem dL_law_1047 : decode cL_law 1047 = .ok (.iaload, 1) := dg_cL_law_42.2.2.2.2.2.2.2.1
theorem dL_law_1048 : decode cL_law 1048 = .ok (.aload_n 0, 1) := dg_cL_law_42.2.2.2.2.2.2.2.2.1
theorem dL_law_1049 : decode cL_law 1049 = .ok (.iload_n 3, 1) := dg_cL_law_42.2.2.2.2.2.2.2.2.2.1
theorem dL_law_1050 : decode cL_law 1050 = .ok (.iconst 2, 1) := dg_cL_law_42.2.2.2.2.2.2.2.2.2.2.1
theorem dL_law_1051 : decode cL_law 1051 = .ok (.iadd, 1) := dg_cL_law_42.2.2.2.2.2.2.2.2.2.2.2.1
theorem dL_law_1052 : decode cL_law 1052 = .ok (.iaload, 1) := dg_cL_law_42.2.2.2.2.2.2.2.2.2.2.2.2.1
theorem dL_law_1053 : decode cL_law 1053 = .ok (.invokevirtual 133, 3) := dg_cL_law_42.2.2.2.2.2.2.2.2.2.2.2.2.2.1
theorem dL_law_1056 : decode cL_law 1056 = .ok (.pop, 1) := dg_cL_law_42.2.2.2.2.2.2.2.2.2.2.2.2.2.2.1
theorem dL_law_1057 : decode cL_law 1057 = .ok (.goto 306, 3) := dg_cL_law_42.2.2.2.2.2.2.2.2.2.2.2.2.2.2.2
set_option maxRecDepth 100000 in
theorem dg_cL_law_43 : (decode cL_law 1060 = .ok (.aload_n 1, 1)) ∧ (decode cL_law 1061 = .ok (.aload_n 0, 1)) ∧ (decode cL_law 1062 = .ok (.iload_n 3, 1)) ∧ (decode cL_law 1063 = .ok (.iconst 1, 1)) ∧ (decode cL_law 1064 = .ok (.iadd, 1)) ∧ (decode cL_law 1065 = .ok (.iaload, 1)) ∧ (decode cL_law 1066 = .ok (.invokevirtual 134, 3)) ∧ (decode cL_law 1069 = .ok (.pop, 1)) ∧ (decode cL_law 1070 = .ok (.aload_n 2, 1)) ∧ (decode cL_law 1071 = .ok (.aload_n 0, 1)) ∧ (decode cL_law 1072 = .ok (.iload_n 3, 1)) ∧ (decode cL_law 1073 = .ok (.iconst 1, 1)) ∧ (decode cL_law 1074 = .ok (.iadd, 1)) ∧ (decode cL_law 1075 = .ok (.iaload, 1)) ∧ (decode cL_law 1076 = .ok (.invokevirtual 137, 3)) ∧ (decode cL_law 1079 = .ok (.pop, 1)) := by decide +kernel
theorem dL_law_1060 : decode cL_law 1060 = .ok (.aload_n 1, 1) := dg_cL_law_43.1
theorem dL_law_1061 : decode cL_law 1061 = .ok (.aload_n 0, 1) := dg_cL_law_43.2.1
theorem dL_law_1062 : decode cL_law 1062 = .ok (.iload_n 3, 1) := dg_cL_law_43.2.2.1
theorem dL_law_1063 : decode cL_law 1063 = .ok (.iconst 1, 1) := dg_cL_law_43.2.2.2.1
theorem dL_law_1064 : decode cL_law 1064 = .ok (.iadd, 1) := dg_cL_law_43.2.2.2.2.1
theorem dL_law_1065 : decode cL_law 1065 = .ok (.iaload, 1) := dg_cL_law_43.2.2.2.2.2.1
theorem dL_law_1066 : decode cL_law 1066 = .ok (.invokevirtual 134, 3) := dg_cL_law_43.2.2.2.2.2.2.1
theorem dL_law_1069 : decode cL_law 1069 = .ok (.pop, 1) := dg_cL_law_43.2.2.2.2.2.2.2.1
theorem dL_law_1070 : decode cL_law 1070 = .ok (.aload_n 2, 1) := dg_cL_law_43.2.2.2.2.2.2.2.2.1
theorem dL_law_1071 : decode cL_law 1071 = .ok (.aload_n 0, 1) := dg_cL_law_43.2.2.2.2.2.2.2.2.2.1
theorem dL_law_1072 : decode cL_law 1072 = .ok (.iload_n 3, 1) := dg_cL_law_43.2.2.2.2.2.2.2.2.2.2.1
theorem dL_law_1073 : decode cL_law 1073 = .ok (.iconst 1, 1) := dg_cL_law_43.2.2.2.2.2.2.2.2.2.2.2.1
theorem dL_law_1074 : decode cL_law 1074 = .ok (.iadd, 1) := dg_cL_law_43.2.2.2.2.2.2.2.2.2.2.2.2.1
theorem dL_law_1075 : decode cL_law 1075 = .ok (.iaload, 1) := dg_cL_law_43.2.2.2.2.2.2.2.2.2.2.2.2.2.1
theorem dL_law_1076 : decode cL_law 1076 = .ok (.invokevirtual 137, 3) := dg_cL_law_43.2.2.2.2.2.2.2.2.2.2.2.2.2.2.1
theorem dL_law_1079 : decode cL_law 1079 = .ok (.pop, 1) := dg_cL_law_43.2.2.2.2.2.2.2.2.2.2.2.2.2.2.2
set_option maxRecDepth 100000 in
theorem dg_cL_law_44 : (decode cL_law 1080 = .ok (.goto 283, 3)) ∧ (decode cL_law 1083 = .ok (.aload_n 1, 1)) ∧ (decode cL_law 1084 = .ok (.invokevirtual 138, 3)) ∧ (decode cL_law 1087 = .ok (.pop, 1)) ∧ (decode cL_law 1088 = .ok (.aload_n 2, 1)) ∧ (decode cL_law 1089 = .ok (.invokevirtual 141, 3)) ∧ (decode cL_law 1092 = .ok (.pop, 1)) ∧ (decode cL_law 1093 = .ok (.goto 270, 3)) ∧ (decode cL_law 1096 = .ok (.aload_n 1, 1)) ∧ (decode cL_law 1097 = .ok (.aload_n 0, 1)) ∧ (decode cL_law 1098 = .ok (.iload_n 3, 1)) ∧ (decode cL_law 1099 = .ok (.iconst 1, 1)) ∧ (decode cL_law 1100 = .ok (.iadd, 1)) ∧ (decode cL_law 1101 = .ok (.iaload, 1)) ∧ (decode cL_law 1102 = .ok (.invokevirtual 142, 3)) ∧ (decode cL_law 1105 = .ok (.pop, 1)) := by decide +kernel
theorem dL_law_1080 : decode cL_law 1080 = .ok (.goto 283, 3) := dg_cL_law_44.1
theorem dL_law_1083 : decode cL_law 1083 = .ok (.aload_n 1, 1) := dg_cL_law_44.2.1
theorem dL_law_1084 : decode cL_law 1084 = .ok (.invokevirtual 138, 3) := dg_cL_law_44.2.2.1
theorem dL_law_1087 : decode cL_law 1087 = .ok (.pop, 1) := dg_cL_law_44.2.2.2.1
theorem dL_law_1088 : decode cL_law 1088 = .ok (.aload_n 2, 1) := dg_cL_law_44.2.2.2.2.1
theorem dL_law_1089 : decode cL_law 1089 = .ok (.invokevirtual 141, 3) := dg_cL_law_44.2.2.2.2.2.1
theorem dL_law_1092 : decode cL_law 1092 = .ok (.pop, 1) := dg_cL_law_44.2.2.2.2.2.2.1
theorem dL_law_1093 : decode cL_law 1093 = .ok (.goto 270, 3) := dg_cL_law_44.2.2.2.2.2.2.2.1
theorem dL_law_1096 : decode cL_law 1096 = .ok (.aload_n 1, 1) := dg_cL_law_44.2.2.2.2.2.2.2.2.1
theorem dL_law_1097 : decode cL_law 1097 = .ok (.aload_n 0, 1) := dg_cL_law_44.2.2.2.2.2.2.2.2.2.1
theorem dL_law_1098 : decode cL_law 1098 = .ok (.iload_n 3, 1) := dg_cL_law_44.2.2.2.2.2.2.2.2.2.2.1
theorem dL_law_1099 : decode cL_law 1099 = .ok (.iconst 1, 1) := dg_cL_law_44.2.2.2.2.2.2.2.2.2.2.2.1
theorem dL_law_1100 : decode cL_law 1100 = .ok (.iadd, 1) := dg_cL_law_44.2.2.2.2.2.2.2.2.2.2.2.2.1
theorem dL_law_1101 : decode cL_law 1101 = .ok (.iaload, 1) := dg_cL_law_44.2.2.2.2.2.2.2.2.2.2.2.2.2.1
theorem dL_law_1102 : decode cL_law 1102 = .ok (.invokevirtual 142, 3) := dg_cL_law_44.2.2.2.2.2.2.2.2.2.2.2.2.2.2.1
theorem dL_law_1105 : decode cL_law 1105 = .ok (.pop, 1) := dg_cL_law_44.2.2.2.2.2.2.2.2.2.2.2.2.2.2.2
set_option maxRecDepth 100000 in
theorem dg_cL_law_45 : (decode cL_law 1106 = .ok (.aload_n 2, 1)) ∧ (decode cL_law 1107 = .ok (.aload_n 0, 1)) ∧ (decode cL_law 1108 = .ok (.iload_n 3, 1)) ∧ (decode cL_law 1109 = .ok (.iconst 1, 1)) ∧ (decode cL_law 1110 = .ok (.iadd, 1)) ∧ (decode cL_law 1111 = .ok (.iaload, 1)) ∧ (decode cL_law 1112 = .ok (.invokevirtual 145, 3)) ∧ (decode cL_law 1115 = .ok (.pop, 1)) ∧ (decode cL_law 1116 = .ok (.goto 247, 3)) ∧ (decode cL_law 1119 = .ok (.aload_n 1, 1)) ∧ (decode cL_law 1120 = .ok (.aload_n 0, 1)) ∧ (decode cL_law 1121 = .ok (.iload_n 3, 1)) ∧ (decode cL_law 1122 = .ok (.iconst 1, 1)) ∧ (decode cL_law 1123 = .ok (.iadd, 1)) ∧ (decode cL_law 1124 = .ok (.iaload, 1)) ∧ (decode cL_law 1125 = .ok (.invokevirtual 146, 3)) := by decide +kernel
theorem dL_law_1106 : decode cL_law 1106 = .ok (.aload_n 2, 1) := dg_cL_law_45.1
theorem dL_law_1107 : decode cL_law 1107 = .ok (.aload_n 0, 1) := dg_cL_law_45.2.1
theorem dL_law_1108 : decode cL_law 1108 = .ok (.iload_n 3, 1) := dg_cL_law_45.2.2.1
theorem dL_law_1109 : decode cL_law 1109 = .ok (.iconst 1, 1) := dg_cL_law_45.2.2.2.1
theorem dL_law_1110 : decode cL_law 1110 = .ok (.iadd, 1) := dg_cL_law_45.2.2.2.2.1
theorem dL_law_1111 : decode cL_law 1111 = .ok (.iaload, 1) := dg_cL_law_45.2.2.2.2.2.1
theorem dL_law_1112 : decode cL_law 1112 = .ok (.invokevirtual 145, 3) := dg_cL_law_45.2.2.2.2.2.2.1
theorem dL_law_1115 : decode cL_law 1115 = .ok (.pop, 1) := dg_cL_law_45.2.2.2.2.2.2.2.1
theorem dL_law_1116 : decode cL_law 1116 = .ok (.goto 247, 3) := dg_cL_law_45.2.2.2.2.2.2.2.2.1
theorem dL_law_1119 : decode cL_law 1119 = .ok (.aload_n 1, 1) := dg_cL_law_45.2.2.2.2.2.2.2.2.2.1
theorem dL_law_1120 : decode cL_law 1120 = .ok (.aload_n 0, 1) := dg_cL_law_45.2.2.2.2.2.2.2.2.2.2.1
theorem dL_law_1121 : decode cL_law 1121 = .ok (.iload_n 3, 1) := dg_cL_law_45.2.2.2.2.2.2.2.2.2.2.2.1
theorem dL_law_1122 : decode cL_law 1122 = .ok (.iconst 1, 1) := dg_cL_law_45.2.2.2.2.2.2.2.2.2.2.2.2.1
theorem dL_law_1123 : decode cL_law 1123 = .ok (.iadd, 1) := dg_cL_law_45.2.2.2.2.2.2.2.2.2.2.2.2.2.1
theorem dL_law_1124 : decode cL_law 1124 = .ok (.iaload, 1) := dg_cL_law_45.2.2.2.2.2.2.2.2.2.2.2.2.2.2.1
theorem dL_law_1125 : decode cL_law 1125 = .ok (.invokevirtual 146, 3) := dg_cL_law_45.2.2.2.2.2.2.2.2.2.2.2.2.2.2.2
set_option maxRecDepth 100000 in
theorem dg_cL_law_46 : (decode cL_law 1128 = .ok (.pop, 1)) ∧ (decode cL_law 1129 = .ok (.aload_n 2, 1)) ∧ (decode cL_law 1130 = .ok (.aload_n 0, 1)) ∧ (decode cL_law 1131 = .ok (.iload_n 3, 1)) ∧ (decode cL_law 1132 = .ok (.iconst 1, 1)) ∧ (decode cL_law 1133 = .ok (.iadd, 1)) ∧ (decode cL_law 1134 = .ok (.iaload, 1)) ∧ (decode cL_law 1135 = .ok (.invokevirtual 149, 3)) ∧ (decode cL_law 1138 = .ok (.pop, 1)) ∧ (decode cL_law 1139 = .ok (.goto 224, 3)) ∧ (decode cL_law 1142 = .ok (.aload_n 1, 1)) ∧ (decode cL_law 1143 = .ok (.aload_n 0, 1)) ∧ (decode cL_law 1144 = .ok (.iload_n 3, 1)) ∧ (decode cL_law 1145 = .ok (.iconst 1, 1)) ∧ (decode cL_law 1146 = .ok (.iadd, 1)) ∧ (decode cL_law 1147 = .ok (.iaload, 1)) := by decide +kernel
theorem dL_law_1128 : decode cL_law 1128 = .ok (.pop, 1) := dg_cL_law_46.1
theorem dL_law_1129 : decode cL_law 1129 = .ok (.aload_n 2, 1) := dg_cL_law_46.2.1
theorem dL_law_1130 : decode cL_law 1130 = .ok (.aload_n 0, 1) := dg_cL_law_46.2.2.1
theorem dL_law_1131 : decode cL_law 1131 = .ok (.iload_n 3, 1) := dg_cL_law_46.2.2.2.1
theorem dL_law_1132 : decode cL_law 1132 = .ok (.iconst 1, 1) := dg_cL_law_46.2.2.2.2.1
theorem dL_law_1133 : decode cL_law 1133 = .ok (.iadd, 1) := dg_cL_law_46.2.2.2.2.2.1
theorem dL_law_1134 : decode cL_law 1134 = .ok (.iaload, 1) := dg_cL_law_46.2.2.2.2.2.2.1
theorem dL_law_1135 : decode cL_law 1135 = .ok (.invokevirtual 149, 3) := dg_cL_law_46.2.2.2.2.2.2.2.1
theorem dL_law_1138 : decode cL_law 1138 = .ok (.pop, 1) := dg_cL_law_46.2.2.2.2.2.2.2.2.1
theorem dL_law_1139 : decode cL_law 1139 = .ok (.goto 224, 3) := dg_cL_law_46.2.2.2.2.2.2.2.2.2.1
theorem dL_law_1142 : decode cL_law 1142 = .ok (.aload_n 1, 1) := dg_cL_law_46.2.2.2.2.2.2.2.2.2.2.1
theorem dL_law_1143 : decode cL_law 1143 = .ok (.aload_n 0, 1) := dg_cL_law_46.2.2.2.2.2.2.2.2.2.2.2.1
theorem dL_law_1144 : decode cL_law 1144 = .ok (.iload_n 3, 1) := dg_cL_law_46.2.2.2.2.2.2.2.2.2.2.2.2.1
theorem dL_law_1145 : decode cL_law 1145 = .ok (.iconst 1, 1) := dg_cL_law_46.2.2.2.2.2.2.2.2.2.2.2.2.2.1
theorem dL_law_1146 : decode cL_law 1146 = .ok (.iadd, 1) := dg_cL_law_46.2.2.2.2.2.2.2.2.2.2.2.2.2.2.1
theorem dL_law_1147 : decode cL_law 1147 = .ok (.iaload, 1) := dg_cL_law_46.2.2.2.2.2.2.2.2.2.2.2.2.2.2.2
set_option maxRecDepth 100000 in
theorem dg_cL_law_47 : (decode cL_law 1148 = .ok (.invokevirtual 150, 3)) ∧ (decode cL_law 1151 = .ok (.pop, 1)) ∧ (decode cL_law 1152 = .ok (.aload_n 2, 1)) ∧ (decode cL_law 1153 = .ok (.aload_n 0, 1)) ∧ (decode cL_law 1154 = .ok (.iload_n 3, 1)) ∧ (decode cL_law 1155 = .ok (.iconst 1, 1)) ∧ (decode cL_law 1156 = .ok (.iadd, 1)) ∧ (decode cL_law 1157 = .ok (.iaload, 1)) ∧ (decode cL_law 1158 = .ok (.invokevirtual 153, 3)) ∧ (decode cL_law 1161 = .ok (.pop, 1)) ∧ (decode cL_law 1162 = .ok (.goto 201, 3)) ∧ (decode cL_law 1165 = .ok (.aload_n 1, 1)) ∧ (decode cL_law 1166 = .ok (.aload_n 0, 1)) ∧ (decode cL_law 1167 = .ok (.iload_n 3, 1)) ∧ (decode cL_law 1168 = .ok (.iconst 1, 1)) ∧ (decode cL_law 1169 = .ok (.iadd, 1)) := by decide +kernel
theorem dL_law_1148 : decode cL_law 1148 = .ok (.invokevirtual 150, 3) := dg_cL_law_47.1
theorem dL_law_1151 : decode cL_law 1151 = .ok (.pop, 1) := dg_cL_law_47.2.1
theorem dL_law_1152 : decode cL_law 1152 = .ok (.aload_n 2, 1) := dg_cL_law_47.2.2.1
theorem dL_law_1153 : decode cL_law 1153 = .ok (.aload_n 0, 1) := dg_cL_law_47.2.2.2.1
theorem dL_law_1154 : decode cL_law 1154 = .ok (.iload_n 3, 1) := dg_cL_law_47.2.2.2.2.1
theorem dL_law_1155 : decode cL_law 1155 = .ok (.iconst 1, 1) := dg_cL_law_47.2.2.2.2.2.1
theorem dL_law_1156 : decode cL_law 1156 = .ok (.iadd, 1) := dg_cL_law_47.2.2.2.2.2.2.1
theorem dL_law_1157 : decode cL_law 1157 = .ok (.iaload, 1) := dg_cL_law_47.2.2.2.2.2.2.2.1
theorem dL_law_1158 : decode cL_law 1158 = .ok (.invokevirtual 153, 3) := dg_cL_law_47.2.2.2.2.2.2.2.2.1
theorem dL_law_1161 : decode cL_law 1161 = .ok (.pop, 1) := dg_cL_law_47.2.2.2.2.2.2.2.2.2.1
theorem dL_law_1162 : decode cL_law 1162 = .ok (.goto 201, 3) := dg_cL_law_47.2.2.2.2.2.2.2.2.2.2.1
theorem dL_law_1165 : decode cL_law 1165 = .ok (.aload_n 1, 1) := dg_cL_law_47.2.2.2.2.2.2.2.2.2.2.2.1
theorem dL_law_1166 : decode cL_law 1166 = .ok (.aload_n 0, 1) := dg_cL_law_47.2.2.2.2.2.2.2.2.2.2.2.2.1
theorem dL_law_1167 : decode cL_law 1167 = .ok (.iload_n 3, 1) := dg_cL_law_47.2.2.2.2.2.2.2.2.2.2.2.2.2.1
theorem dL_law_1168 : decode cL_law 1168 = .ok (.iconst 1, 1) := dg_cL_law_47.2.2.2.2.2.2.2.2.2.2.2.2.2.2.1
theorem dL_law_1169 : decode cL_law 1169 = .ok (.iadd, 1) := dg_cL_law_47.2.2.2.2.2.2.2.2.2.2.2.2.2.2.2
set_option maxRecDepth 100000 in
theorem dg_cL_law_48 : (decode cL_law 1170 = .ok (.iaload, 1)) ∧ (decode cL_law 1171 = .ok (.invokevirtual 154, 3)) ∧ (decode cL_law 1174 = .ok (.pop, 1)) ∧ (decode cL_law 1175 = .ok (.aload_n 2, 1)) ∧ (decode cL_law 1176 = .ok (.aload_n 0, 1)) ∧ (decode cL_law 1177 = .ok (.iload_n 3, 1)) ∧ (decode cL_law 1178 = .ok (.iconst 1, 1)) ∧ (decode cL_law 1179 = .ok (.iadd, 1)) ∧ (decode cL_law 1180 = .ok (.iaload, 1)) ∧ (decode cL_law 1181 = .ok (.invokevirtual 157, 3)) ∧ (decode cL_law 1184 = .ok (.pop, 1)) ∧ (decode cL_law 1185 = .ok (.goto 178, 3)) ∧ (decode cL_law 1188 = .ok (.aload_n 1, 1)) ∧ (decode cL_law 1189 = .ok (.aload_n 0, 1)) ∧ (decode cL_law 1190 = .ok (.iload_n 3, 1)) ∧ (decode cL_law 1191 = .ok (.iconst 1, 1)) := by decide +kernel
theorem dL_law_1170 : decode cL_law 1170 = .ok (.iaload, 1) := dg_cL_law_48.1
theorem dL_law_1171 : decode cL_law 1171 = .ok (.invokevirtual 154, 3) := dg_cL_law_48.2.1
theorem dL_law_1174 : decode cL_law 1174 = .ok (.pop, 1) := dg_cL_law_48.2.2.1
theorem dL_law_1175 : decode cL_law 1175 = .ok (.aload_n 2, 1) := dg_cL_law_48.2.2.2.1
theorem dL_law_1176 : decode cL_law 1176 = .ok (.aload_n 0, 1) := dg_cL_law_48.2.2.2.2.1
theorem dL_law_1177 : decode cL_law 1177 = .ok (.iload_n 3, 1) := dg_cL_law_48.2.2.2.2.2.1
theorem dL_law_1178 : decode cL_law 1178 = .ok (.iconst 1, 1) := dg_cL_law_48.2.2.2.2.2.2.1
theorem dL_law_1179 : decode cL_law 1179 = .ok (.iadd, 1) := dg_cL_law_48.2.2.2.2.2.2.2.1
theorem dL_law_1180 : decode cL_law 1180 = .ok (.iaload, 1) := dg_cL_law_48.2.2.2.2.2.2.2.2.1
theorem dL_law_1181 : decode cL_law 1181 = .ok (.invokevirtual 157, 3) := dg_cL_law_48.2.2.2.2.2.2.2.2.2.1
theorem dL_law_1184 : decode cL_law 1184 = .ok (.pop, 1) := dg_cL_law_48.2.2.2.2.2.2.2.2.2.2.1
theorem dL_law_1185 : decode cL_law 1185 = .ok (.goto 178, 3) := dg_cL_law_48.2.2.2.2.2.2.2.2.2.2.2.1
theorem dL_law_1188 : decode cL_law 1188 = .ok (.aload_n 1, 1) := dg_cL_law_48.2.2.2.2.2.2.2.2.2.2.2.2.1
theorem dL_law_1189 : decode cL_law 1189 = .ok (.aload_n 0, 1) := dg_cL_law_48.2.2.2.2.2.2.2.2.2.2.2.2.2.1
theorem dL_law_1190 : decode cL_law 1190 = .ok (.iload_n 3, 1) := dg_cL_law_48.2.2.2.2.2.2.2.2.2.2.2.2.2.2.1
theorem dL_law_1191 : decode cL_law 1191 = .ok (.iconst 1, 1) := dg_cL_law_48.2.2.2.2.2.2.2.2.2.2.2.2.2.2.2
set_option maxRecDepth 100000 in
theorem dg_cL_law_49 : (decode cL_law 1192 = .ok (.iadd, 1)) ∧ (decode cL_law 1193 = .ok (.iaload, 1)) ∧ (decode cL_law 1194 = .ok (.aload_n 0, 1)) ∧ (decode cL_law 1195 = .ok (.iload_n 3, 1)) ∧ (decode cL_law 1196 = .ok (.iconst 2, 1)) ∧ (decode cL_law 1197 = .ok (.iadd, 1)) ∧ (decode cL_law 1198 = .ok (.iaload, 1)) ∧ (decode cL_law 1199 = .ok (.aload_n 0, 1)) ∧ (decode cL_law 1200 = .ok (.iload_n 3, 1)) ∧ (decode cL_law 1201 = .ok (.iconst 3, 1)) ∧ (decode cL_law 1202 = .ok (.iadd, 1)) ∧ (decode cL_law 1203 = .ok (.iaload, 1)) ∧ (decode cL_law 1204 = .ok (.invokevirtual 158, 3)) ∧ (decode cL_law 1207 = .ok (.pop, 1)) ∧ (decode cL_law 1208 = .ok (.aload_n 2, 1)) ∧ (decode cL_law 1209 = .ok (.aload_n 0, 1)) := by decide +kernel
theorem dL_law_1192 : decode cL_law 1192 = .ok (.iadd, 1) := dg_cL_law_49.1
theorem dL_law_1193 : decode cL_law 1193 = .ok (.iaload, 1) := dg_cL_law_49.2.1
theorem dL_law_1194 : decode cL_law 1194 = .ok (.aload_n 0, 1) := dg_cL_law_49.2.2.1
theorem dL_law_1195 : decode cL_law 1195 = .ok (.iload_n 3, 1) := dg_cL_law_49.2.2.2.1
theorem dL_law_1196 : decode cL_law 1196 = .ok (.iconst 2, 1) := dg_cL_law_49.2.2.2.2.1
theorem dL_law_1197 : decode cL_law 1197 = .ok (.iadd, 1) := dg_cL_law_49.2.2.2.2.2.1
theorem dL_law_1198 : decode cL_law 1198 = .ok (.iaload, 1) := dg_cL_law_49.2.2.2.2.2.2.1
theorem dL_law_1199 : decode cL_law 1199 = .ok (.aload_n 0, 1) := dg_cL_law_49.2.2.2.2.2.2.2.1
theorem dL_law_1200 : decode cL_law 1200 = .ok (.iload_n 3, 1) := dg_cL_law_49.2.2.2.2.2.2.2.2.1
theorem dL_law_1201 : decode cL_law 1201 = .ok (.iconst 3, 1) := dg_cL_law_49.2.2.2.2.2.2.2.2.2.1
theorem dL_law_1202 : decode cL_law 1202 = .ok (.iadd, 1) := dg_cL_law_49.2.2.2.2.2.2.2.2.2.2.1
theorem dL_law_1203 : decode cL_law 1203 = .ok (.iaload, 1) := dg_cL_law_49.2.2.2.2.2.2.2.2.2.2.2.1
theorem dL_law_1204 : decode cL_law 1204 = .ok (.invokevirtual 158, 3) := dg_cL_law_49.2.2.2.2.2.2.2.2.2.2.2.2.1
theorem dL_law_1207 : decode cL_law 1207 = .ok (.pop, 1) := dg_cL_law_49.2.2.2.2.2.2.2.2.2.2.2.2.2.1
theorem dL_law_1208 : decode cL_law 1208 = .ok (.aload_n 2, 1) := dg_cL_law_49.2.2.2.2.2.2.2.2.2.2.2.2.2.2.1
theorem dL_law_1209 : decode cL_law 1209 = .ok (.aload_n 0, 1) := dg_cL_law_49.2.2.2.2.2.2.2.2.2.2.2.2.2.2.2
set_option maxRecDepth 100000 in
theorem dg_cL_law_50 : (decode cL_law 1210 = .ok (.iload_n 3, 1)) ∧ (decode cL_law 1211 = .ok (.iconst 1, 1)) ∧ (decode cL_law 1212 = .ok (.iadd, 1)) ∧ (decode cL_law 1213 = .ok (.iaload, 1)) ∧ (decode cL_law 1214 = .ok (.aload_n 0, 1)) ∧ (decode cL_law 1215 = .ok (.iload_n 3, 1)) ∧ (decode cL_law 1216 = .ok (.iconst 2, 1)) ∧ (decode cL_law 1217 = .ok (.iadd, 1)) ∧ (decode cL_law 1218 = .ok (.iaload, 1)) ∧ (decode cL_law 1219 = .ok (.aload_n 0, 1)) ∧ (decode cL_law 1220 = .ok (.iload_n 3, 1)) ∧ (decode cL_law 1221 = .ok (.iconst 3, 1)) ∧ (decode cL_law 1222 = .ok (.iadd, 1)) ∧ (decode cL_law 1223 = .ok (.iaload, 1)) ∧ (decode cL_law 1224 = .ok (.invokevirtual 161, 3)) ∧ (decode cL_law 1227 = .ok (.pop, 1)) := by decide +kernel
theorem dL_law_1210 : decode cL_law 1210 = .ok (.iload_n 3, 1) := dg_cL_law_50.1
theorem dL_law_1211 : decode cL_law 1211 = .ok (.iconst 1, 1) := dg_cL_law_50.2.1
theorem dL_law_1212 : decode cL_law 1212 = .ok (.iadd, 1) := dg_cL_law_50.2.2.1
theorem dL_law_1213 : decode cL_law 1213 = .ok (.iaload, 1) := dg_cL_law_50.2.2.2.1
theorem dL_law_1214 : decode cL_law 1214 = .ok (.aload_n 0, 1) := dg_cL_law_50.2.2.2.2.1
theorem dL_law_1215 : decode cL_law 1215 = .ok (.iload_n 3, 1) := dg_cL_law_50.2.2.2.2.2.1
theorem dL_law_1216 : decode cL_law 1216 = .ok (.iconst 2, 1) := dg_cL_law_50.2.2.2.2.2.2.1
theorem dL_law_1217 : decode cL_law 1217 = .ok (.iadd, 1) := dg_cL_law_50.2.2.2.2.2.2.2.1
theorem dL_law_1218 : decode cL_law 1218 = .ok (.iaload, 1) := dg_cL_law_50.2.2.2.2.2.2.2.2.1
theorem dL_law_1219 : decode cL_law 1219 = .ok (.aload_n 0, 1) := dg_cL_law_50.2.2.2.2.2.2.2.2.2.1
theorem dL_law_1220 : decode cL_law 1220 = .ok (.iload_n 3, 1) := dg_cL_law_50.2.2.2.2.2.2.2.2.2.2.1
theorem dL_law_1221 : decode cL_law 1221 = .ok (.iconst 3, 1) := dg_cL_law_50.2.2.2.2.2.2.2.2.2.2.2.1
theorem dL_law_1222 : decode cL_law 1222 = .ok (.iadd, 1) := dg_cL_law_50.2.2.2.2.2.2.2.2.2.2.2.2.1
theorem dL_law_1223 : decode cL_law 1223 = .ok (.iaload, 1) := dg_cL_law_50.2.2.2.2.2.2.2.2.2.2.2.2.2.1
theorem dL_law_1224 : decode cL_law 1224 = .ok (.invokevirtual 161, 3) := dg_cL_law_50.2.2.2.2.2.2.2.2.2.2.2.2.2.2.1
theorem dL_law_1227 : decode cL_law 1227 = .ok (.pop, 1) := dg_cL_law_50.2.2.2.2.2.2.2.2.2.2.2.2.2.2.2
set_option maxRecDepth 100000 in
theorem dg_cL_law_51 : (decode cL_law 1228 = .ok (.goto 135, 3)) ∧ (decode cL_law 1231 = .ok (.aload_n 1, 1)) ∧ (decode cL_law 1232 = .ok (.aload_n 0, 1)) ∧ (decode cL_law 1233 = .ok (.iload_n 3, 1)) ∧ (decode cL_law 1234 = .ok (.iconst 1, 1)) ∧ (decode cL_law 1235 = .ok (.iadd, 1)) ∧ (decode cL_law 1236 = .ok (.iaload, 1)) ∧ (decode cL_law 1237 = .ok (.aload_n 0, 1)) ∧ (decode cL_law 1238 = .ok (.iload_n 3, 1)) ∧ (decode cL_law 1239 = .ok (.iconst 2, 1)) ∧ (decode cL_law 1240 = .ok (.iadd, 1)) ∧ (decode cL_law 1241 = .ok (.iaload, 1)) ∧ (decode cL_law 1242 = .ok (.aload_n 0, 1)) ∧ (decode cL_law 1243 = .ok (.iload_n 3, 1)) ∧ (decode cL_law 1244 = .ok (.iconst 3, 1)) ∧ (decode cL_law 1245 = .ok (.iadd, 1)) := by decide +kernel
theorem dL_law_1228 : decode cL_law 1228 = .ok (.goto 135, 3) := dg_cL_law_51.1
theorem dL_law_1231 : decode cL_law 1231 = .ok (.aload_n 1, 1) := dg_cL_law_51.2.1
theorem dL_law_1232 : decode cL_law 1232 = .ok (.aload_n 0, 1) := dg_cL_law_51.2.2.1
theorem dL_law_1233 : decode cL_law 1233 = .ok (.iload_n 3, 1) := dg_cL_law_51.2.2.2.1
theorem dL_law_1234 : decode cL_law 1234 = .ok (.iconst 1, 1) := dg_cL_law_51.2.2.2.2.1
theorem dL_law_1235 : decode cL_law 1235 = .ok (.iadd, 1) := dg_cL_law_51.2.2.2.2.2.1
theorem dL_law_1236 : decode cL_law 1236 = .ok (.iaload, 1) := dg_cL_law_51.2.2.2.2.2.2.1
theorem dL_law_1237 : decode cL_law 1237 = .ok (.aload_n 0, 1) := dg_cL_law_51.2.2.2.2.2.2.2.1
theorem dL_law_1238 : decode cL_law 1238 = .ok (.iload_n 3, 1) := dg_cL_law_51.2.2.2.2.2.2.2.2.1
theorem dL_law_1239 : decode cL_law 1239 = .ok (.iconst 2, 1) := dg_cL_law_51.2.2.2.2.2.2.2.2.2.1
theorem dL_law_1240 : decode cL_law 1240 = .ok (.iadd, 1) := dg_cL_law_51.2.2.2.2.2.2.2.2.2.2.1
theorem dL_law_1241 : decode cL_law 1241 = .ok (.iaload, 1) := dg_cL_law_51.2.2.2.2.2.2.2.2.2.2.2.1
theorem dL_law_1242 : decode cL_law 1242 = .ok (.aload_n 0, 1) := dg_cL_law_51.2.2.2.2.2.2.2.2.2.2.2.2.1
theorem dL_law_1243 : decode cL_law 1243 = .ok (.iload_n 3, 1) := dg_cL_law_51.2.2.2.2.2.2.2.2.2.2.2.2.2.1
theorem dL_law_1244 : decode cL_law 1244 = .ok (.iconst 3, 1) := dg_cL_law_51.2.2.2.2.2.2.2.2.2.2.2.2.2.2.1
theorem dL_law_1245 : decode cL_law 1245 = .ok (.iadd, 1) := dg_cL_law_51.2.2.2.2.2.2.2.2.2.2.2.2.2.2.2
set_option maxRecDepth 100000 in
theorem dg_cL_law_52 : (decode cL_law 1246 = .ok (.iaload, 1)) ∧ (decode cL_law 1247 = .ok (.invokevirtual 162, 3)) ∧ (decode cL_law 1250 = .ok (.pop, 1)) ∧ (decode cL_law 1251 = .ok (.aload_n 2, 1)) ∧ (decode cL_law 1252 = .ok (.aload_n 0, 1)) ∧ (decode cL_law 1253 = .ok (.iload_n 3, 1)) ∧ (decode cL_law 1254 = .ok (.iconst 1, 1)) ∧ (decode cL_law 1255 = .ok (.iadd, 1)) ∧ (decode cL_law 1256 = .ok (.iaload, 1)) ∧ (decode cL_law 1257 = .ok (.aload_n 0, 1)) ∧ (decode cL_law 1258 = .ok (.iload_n 3, 1)) ∧ (decode cL_law 1259 = .ok (.iconst 2, 1)) ∧ (decode cL_law 1260 = .ok (.iadd, 1)) ∧ (decode cL_law 1261 = .ok (.iaload, 1)) ∧ (decode cL_law 1262 = .ok (.aload_n 0, 1)) ∧ (decode cL_law 1263 = .ok (.iload_n 3, 1)) := by decide +kernel
theorem dL_law_1246 : decode cL_law 1246 = .ok (.iaload, 1) := dg_cL_law_52.1
theorem dL_law_1247 : decode cL_law 1247 = .ok (.invokevirtual 162, 3) := dg_cL_law_52.2.1
theorem dL_law_1250 : decode cL_law 1250 = .ok (.pop, 1) := dg_cL_law_52.2.2.1
theorem dL_law_1251 : decode cL_law 1251 = .ok (.aload_n 2, 1) := dg_cL_law_52.2.2.2.1
theorem dL_law_1252 : decode cL_law 1252 = .ok (.aload_n 0, 1) := dg_cL_law_52.2.2.2.2.1
theorem dL_law_1253 : decode cL_law 1253 = .ok (.iload_n 3, 1) := dg_cL_law_52.2.2.2.2.2.1
theorem dL_law_1254 : decode cL_law 1254 = .ok (.iconst 1, 1) := dg_cL_law_52.2.2.2.2.2.2.1
theorem dL_law_1255 : decode cL_law 1255 = .ok (.iadd, 1) := dg_cL_law_52.2.2.2.2.2.2.2.1
theorem dL_law_1256 : decode cL_law 1256 = .ok (.iaload, 1) := dg_cL_law_52.2.2.2.2.2.2.2.2.1
theorem dL_law_1257 : decode cL_law 1257 = .ok (.aload_n 0, 1) := dg_cL_law_52.2.2.2.2.2.2.2.2.2.1
theorem dL_law_1258 : decode cL_law 1258 = .ok (.iload_n 3, 1) := dg_cL_law_52.2.2.2.2.2.2.2.2.2.2.1
theorem dL_law_1259 : decode cL_law 1259 = .ok (.iconst 2, 1) := dg_cL_law_52.2.2.2.2.2.2.2.2.2.2.2.1
theorem dL_law_1260 : decode cL_law 1260 = .ok (.iadd, 1) := dg_cL_law_52.2.2.2.2.2.2.2.2.2.2.2.2.1
theorem dL_law_1261 : decode cL_law 1261 = .ok (.iaload, 1) := dg_cL_law_52.2.2.2.2.2.2.2.2.2.2.2.2.2.1
theorem dL_law_1262 : decode cL_law 1262 = .ok (.aload_n 0, 1) := dg_cL_law_52.2.2.2.2.2.2.2.2.2.2.2.2.2.2.1
theorem dL_law_1263 : decode cL_law 1263 = .ok (.iload_n 3, 1) := dg_cL_law_52.2.2.2.2.2.2.2.2.2.2.2.2.2.2.2
set_option maxRecDepth 100000 in
theorem dg_cL_law_53 : (decode cL_law 1264 = .ok (.iconst 3, 1)) ∧ (decode cL_law 1265 = .ok (.iadd, 1)) ∧ (decode cL_law 1266 = .ok (.iaload, 1)) ∧ (decode cL_law 1267 = .ok (.invokevirtual 165, 3)) ∧ (decode cL_law 1270 = .ok (.pop, 1)) ∧ (decode cL_law 1271 = .ok (.goto 92, 3)) ∧ (decode cL_law 1274 = .ok (.aload_n 1, 1)) ∧ (decode cL_law 1275 = .ok (.aload_n 0, 1)) ∧ (decode cL_law 1276 = .ok (.iload_n 3, 1)) ∧ (decode cL_law 1277 = .ok (.iconst 1, 1)) ∧ (decode cL_law 1278 = .ok (.iadd, 1)) ∧ (decode cL_law 1279 = .ok (.iaload, 1)) ∧ (decode cL_law 1280 = .ok (.aload_n 0, 1)) ∧ (decode cL_law 1281 = .ok (.iload_n 3, 1)) ∧ (decode cL_law 1282 = .ok (.iconst 2, 1)) ∧ (decode cL_law 1283 = .ok (.iadd, 1)) := by decide +kernel
theorem dL_law_1264 : decode cL_law 1264 = .ok (.iconst 3, 1) := dg_cL_law_53.1
theorem dL_law_1265 : decode cL_law 1265 = .ok (.iadd, 1) := dg_cL_law_53.2.1
theorem dL_law_1266 : decode cL_law 1266 = .ok (.iaload, 1) := dg_cL_law_53.2.2.1
theorem dL_law_1267 : decode cL_law 1267 = .ok (.invokevirtual 165, 3) := dg_cL_law_53.2.2.2.1
theorem dL_law_1270 : decode cL_law 1270 = .ok (.pop, 1) := dg_cL_law_53.2.2.2.2.1
theorem dL_law_1271 : decode cL_law 1271 = .ok (.goto 92, 3) := dg_cL_law_53.2.2.2.2.2.1
theorem dL_law_1274 : decode cL_law 1274 = .ok (.aload_n 1, 1) := dg_cL_law_53.2.2.2.2.2.2.1
theorem dL_law_1275 : decode cL_law 1275 = .ok (.aload_n 0, 1) := dg_cL_law_53.2.2.2.2.2.2.2.1
theorem dL_law_1276 : decode cL_law 1276 = .ok (.iload_n 3, 1) := dg_cL_law_53.2.2.2.2.2.2.2.2.1
theorem dL_law_1277 : decode cL_law 1277 = .ok (.iconst 1, 1) := dg_cL_law_53.2.2.2.2.2.2.2.2.2.1
theorem dL_law_1278 : decode cL_law 1278 = .ok (.iadd, 1) := dg_cL_law_53.2.2.2.2.2.2.2.2.2.2.1
theorem dL_law_1279 : decode cL_law 1279 = .ok (.iaload, 1) := dg_cL_law_53.2.2.2.2.2.2.2.2.2.2.2.1
theorem dL_law_1280 : decode cL_law 1280 = .ok (.aload_n 0, 1) := dg_cL_law_53.2.2.2.2.2.2.2.2.2.2.2.2.1
theorem dL_law_1281 : decode cL_law 1281 = .ok (.iload_n 3, 1) := dg_cL_law_53.2.2.2.2.2.2.2.2.2.2.2.2.2.1
theorem dL_law_1282 : decode cL_law 1282 = .ok (.iconst 2, 1) := dg_cL_law_53.2.2.2.2.2.2.2.2.2.2.2.2.2.2.1
theorem dL_law_1283 : decode cL_law 1283 = .ok (.iadd, 1) := dg_cL_law_53.2.2.2.2.2.2.2.2.2.2.2.2.2.2.2
set_option maxRecDepth 100000 in
theorem dg_cL_law_54 : (decode cL_law 1284 = .ok (.iaload, 1)) ∧ (decode cL_law 1285 = .ok (.aload_n 0, 1)) ∧ (decode cL_law 1286 = .ok (.iload_n 3, 1)) ∧ (decode cL_law 1287 = .ok (.iconst 3, 1)) ∧ (decode cL_law 1288 = .ok (.iadd, 1)) ∧ (decode cL_law 1289 = .ok (.iaload, 1)) ∧ (decode cL_law 1290 = .ok (.aload_n 0, 1)) ∧ (decode cL_law 1291 = .ok (.iload_n 3, 1)) ∧ (decode cL_law 1292 = .ok (.iconst 4, 1)) ∧ (decode cL_law 1293 = .ok (.iadd, 1)) ∧ (decode cL_law 1294 = .ok (.iaload, 1)) ∧ (decode cL_law 1295 = .ok (.invokevirtual 166, 3)) ∧ (decode cL_law 1298 = .ok (.pop, 1)) ∧ (decode cL_law 1299 = .ok (.aload_n 2, 1)) ∧ (decode cL_law 1300 = .ok (.aload_n 0, 1)) ∧ (decode cL_law 1301 = .ok (.iload_n 3, 1)) := by decide +kernel
theorem dL_law_1284 : decode cL_law 1284 = .ok (.iaload, 1) := dg_cL_law_54.1
theorem dL_law_1285 : decode cL_law 1285 = .ok (.aload_n 0, 1) := dg_cL_law_54.2.1
theorem dL_law_1286 : decode cL_law 1286 = .ok (.iload_n 3, 1) := dg_cL_law_54.2.2.1
theorem dL_law_1287 : decode cL_law 1287 = .ok (.iconst 3, 1) := dg_cL_law_54.2.2.2.1
theorem dL_law_1288 : decode cL_law 1288 = .ok (.iadd, 1) := dg_cL_law_54.2.2.2.2.1
theorem dL_law_1289 : decode cL_law 1289 = .ok (.iaload, 1) := dg_cL_law_54.2.2.2.2.2.1
theorem dL_law_1290 : decode cL_law 1290 = .ok (.aload_n 0, 1) := dg_cL_law_54.2.2.2.2.2.2.1
theorem dL_law_1291 : decode cL_law 1291 = .ok (.iload_n 3, 1) := dg_cL_law_54.2.2.2.2.2.2.2.1
theorem dL_law_1292 : decode cL_law 1292 = .ok (.iconst 4, 1) := dg_cL_law_54.2.2.2.2.2.2.2.2.1
theorem dL_law_1293 : decode cL_law 1293 = .ok (.iadd, 1) := dg_cL_law_54.2.2.2.2.2.2.2.2.2.1
theorem dL_law_1294 : decode cL_law 1294 = .ok (.iaload, 1) := dg_cL_law_54.2.2.2.2.2.2.2.2.2.2.1
theorem dL_law_1295 : decode cL_law 1295 = .ok (.invokevirtual 166, 3) := dg_cL_law_54.2.2.2.2.2.2.2.2.2.2.2.1
theorem dL_law_1298 : decode cL_law 1298 = .ok (.pop, 1) := dg_cL_law_54.2.2.2.2.2.2.2.2.2.2.2.2.1
theorem dL_law_1299 : decode cL_law 1299 = .ok (.aload_n 2, 1) := dg_cL_law_54.2.2.2.2.2.2.2.2.2.2.2.2.2.1
theorem dL_law_1300 : decode cL_law 1300 = .ok (.aload_n 0, 1) := dg_cL_law_54.2.2.2.2.2.2.2.2.2.2.2.2.2.2.1
theorem dL_law_1301 : decode cL_law 1301 = .ok (.iload_n 3, 1) := dg_cL_law_54.2.2.2.2.2.2.2.2.2.2.2.2.2.2.2
set_option maxRecDepth 100000 in
theorem dg_cL_law_55 : (decode cL_law 1302 = .ok (.iconst 1, 1)) ∧ (decode cL_law 1303 = .ok (.iadd, 1)) ∧ (decode cL_law 1304 = .ok (.iaload, 1)) ∧ (decode cL_law 1305 = .ok (.aload_n 0, 1)) ∧ (decode cL_law 1306 = .ok (.iload_n 3, 1)) ∧ (decode cL_law 1307 = .ok (.iconst 2, 1)) ∧ (decode cL_law 1308 = .ok (.iadd, 1)) ∧ (decode cL_law 1309 = .ok (.iaload, 1)) ∧ (decode cL_law 1310 = .ok (.aload_n 0, 1)) ∧ (decode cL_law 1311 = .ok (.iload_n 3, 1)) ∧ (decode cL_law 1312 = .ok (.iconst 3, 1)) ∧ (decode cL_law 1313 = .ok (.iadd, 1)) ∧ (decode cL_law 1314 = .ok (.iaload, 1)) ∧ (decode cL_law 1315 = .ok (.aload_n 0, 1)) ∧ (decode cL_law 1316 = .ok (.iload_n 3, 1)) ∧ (decode cL_law 1317 = .ok (.iconst 4, 1)) := by decide +kernel
theorem dL_law_1302 : decode cL_law 1302 = .ok (.iconst 1, 1) := dg_cL_law_55.1
theorem dL_law_1303 : decode cL_law 1303 = .ok (.iadd, 1) := dg_cL_law_55.2.1
theorem dL_law_1304 : decode cL_law 1304 = .ok (.iaload, 1) := dg_cL_law_55.2.2.1
theorem dL_law_1305 : decode cL_law 1305 = .ok (.aload_n 0, 1) := dg_cL_law_55.2.2.2.1
theorem dL_law_1306 : decode cL_law 1306 = .ok (.iload_n 3, 1) := dg_cL_law_55.2.2.2.2.1
theorem dL_law_1307 : decode cL_law 1307 = .ok (.iconst 2, 1) := dg_cL_law_55.2.2.2.2.2.1
theorem dL_law_1308 : decode cL_law 1308 = .ok (.iadd, 1) := dg_cL_law_55.2.2.2.2.2.2.1
theorem dL_law_1309 : decode cL_law 1309 = .ok (.iaload, 1) := dg_cL_law_55.2.2.2.2.2.2.2.1
theorem dL_law_1310 : decode cL_law 1310 = .ok (.aload_n 0, 1) := dg_cL_law_55.2.2.2.2.2.2.2.2.1
theorem dL_law_1311 : decode cL_law 1311 = .ok (.iload_n 3, 1) := dg_cL_law_55.2.2.2.2.2.2.2.2.2.1
theorem dL_law_1312 : decode cL_law 1312 = .ok (.iconst 3, 1) := dg_cL_law_55.2.2.2.2.2.2.2.2.2.2.1
theorem dL_law_1313 : decode cL_law 1313 = .ok (.iadd, 1) := dg_cL_law_55.2.2.2.2.2.2.2.2.2.2.2.1
theorem dL_law_1314 : decode cL_law 1314 = .ok (.iaload, 1) := dg_cL_law_55.2.2.2.2.2.2.2.2.2.2.2.2.1
theorem dL_law_1315 : decode cL_law 1315 = .ok (.aload_n 0, 1) := dg_cL_law_55.2.2.2.2.2.2.2.2.2.2.2.2.2.1
theorem dL_law_1316 : decode cL_law 1316 = .ok (.iload_n 3, 1) := dg_cL_law_55.2.2.2.2.2.2.2.2.2.2.2.2.2.2.1
theorem dL_law_1317 : decode cL_law 1317 = .ok (.iconst 4, 1) := dg_cL_law_55.2.2.2.2.2.2.2.2.2.2.2.2.2.2.2
set_option maxRecDepth 100000 in
theorem dg_cL_law_56 : (decode cL_law 1318 = .ok (.iadd, 1)) ∧ (decode cL_law 1319 = .ok (.iaload, 1)) ∧ (decode cL_law 1320 = .ok (.invokevirtual 170, 3)) ∧ (decode cL_law 1323 = .ok (.pop, 1)) ∧ (decode cL_law 1324 = .ok (.goto 39, 3)) ∧ (decode cL_law 1327 = .ok (.aload_n 1, 1)) ∧ (decode cL_law 1328 = .ok (.invokevirtual 171, 3)) ∧ (decode cL_law 1331 = .ok (.pop, 1)) ∧ (decode cL_law 1332 = .ok (.aload_n 2, 1)) ∧ (decode cL_law 1333 = .ok (.invokevirtual 174, 3)) ∧ (decode cL_law 1336 = .ok (.pop, 1)) ∧ (decode cL_law 1337 = .ok (.goto 26, 3)) ∧ (decode cL_law 1340 = .ok (.aload_n 1, 1)) ∧ (decode cL_law 1341 = .ok (.aload_n 0, 1)) ∧ (decode cL_law 1342 = .ok (.iload_n 3, 1)) ∧ (decode cL_law 1343 = .ok (.iconst 1, 1)) := by decide +kernel
theorem dL_law_1318 : decode cL_law 1318 = .ok (.iadd, 1) := dg_cL_law_56.1
theorem dL_law_1319 : decode cL_law 1319 = .ok (.iaload, 1) := dg_cL_law_56.2.1
theorem dL_law_1320 : decode cL_law 1320 = .ok (.invokevirtual 170, 3) := dg_cL_law_56.2.2.1
theorem dL_law_1323 : decode cL_law 1323 = .ok (.pop, 1) := dg_cL_law_56.2.2.2.1
theorem dL_law_1324 : decode cL_law 1324 = .ok (.goto 39, 3) := dg_cL_law_56.2.2.2.2.1
theorem dL_law_1327 : decode cL_law 1327 = .ok (.aload_n 1, 1) := dg_cL_law_56.2.2.2.2.2.1
theorem dL_law_1328 : decode cL_law 1328 = .ok (.invokevirtual 171, 3) := dg_cL_law_56.2.2.2.2.2.2.1
theorem dL_law_1331 : decode cL_law 1331 = .ok (.pop, 1) := dg_cL_law_56.2.2.2.2.2.2.2.1
theorem dL_law_1332 : decode cL_law 1332 = .ok (.aload_n 2, 1) := dg_cL_law_56.2.2.2.2.2.2.2.2.1
theorem dL_law_1333 : decode cL_law 1333 = .ok (.invokevirtual 174, 3) := dg_cL_law_56.2.2.2.2.2.2.2.2.2.1
theorem dL_law_1336 : decode cL_law 1336 = .ok (.pop, 1) := dg_cL_law_56.2.2.2.2.2.2.2.2.2.2.1
theorem dL_law_1337 : decode cL_law 1337 = .ok (.goto 26, 3) := dg_cL_law_56.2.2.2.2.2.2.2.2.2.2.2.1
theorem dL_law_1340 : decode cL_law 1340 = .ok (.aload_n 1, 1) := dg_cL_law_56.2.2.2.2.2.2.2.2.2.2.2.2.1
theorem dL_law_1341 : decode cL_law 1341 = .ok (.aload_n 0, 1) := dg_cL_law_56.2.2.2.2.2.2.2.2.2.2.2.2.2.1
theorem dL_law_1342 : decode cL_law 1342 = .ok (.iload_n 3, 1) := dg_cL_law_56.2.2.2.2.2.2.2.2.2.2.2.2.2.2.1
theorem dL_law_1343 : decode cL_law 1343 = .ok (.iconst 1, 1) := dg_cL_law_56.2.2.2.2.2.2.2.2.2.2.2.2.2.2.2
set_option maxRecDepth 100000 in
theorem dg_cL_law_57 : (decode cL_law 1344 = .ok (.iadd, 1)) ∧ (decode cL_law 1345 = .ok (.iaload, 1)) ∧ (decode cL_law 1346 = .ok (.invokevirtual 175, 3)) ∧ (decode cL_law 1349 = .ok (.aload_n 2, 1)) ∧ (decode cL_law 1350 = .ok (.aload_n 0, 1)) ∧ (decode cL_law 1351 = .ok (.iload_n 3, 1)) ∧ (decode cL_law 1352 = .ok (.iconst 1, 1)) ∧ (decode cL_law 1353 = .ok (.iadd, 1)) ∧ (decode cL_law 1354 = .ok (.iaload, 1)) ∧ (decode cL_law 1355 = .ok (.invokevirtual 178, 3)) ∧ (decode cL_law 1358 = .ok (.if_icmp .eq 5, 3)) ∧ (decode cL_law 1361 = .ok (.iconst 0, 1)) ∧ (decode cL_law 1362 = .ok (.ireturn, 1)) ∧ (decode cL_law 1363 = .ok (.iinc 3 5, 3)) ∧ (decode cL_law 1366 = .ok (.goto (-1348), 3)) ∧ (decode cL_law 1369 = .ok (.iconst 1, 1)) := by decide +kernel
theorem dL_law_1344 : decode cL_law 1344 = .ok (.iadd, 1) := dg_cL_law_57.1
theorem dL_law_1345 : decode cL_law 1345 = .ok (.iaload, 1) := dg_cL_law_57.2.1
theorem dL_law_1346 : decode cL_law 1346 = .ok (.invokevirtual 175, 3) := dg_cL_law_57.2.2.1
theorem dL_law_1349 : decode cL_law 1349 = .ok (.aload_n 2, 1) := dg_cL_law_57.2.2.2.1
theorem dL_law_1350 : decode cL_law 1350 = .ok (.aload_n 0, 1) := dg_cL_law_57.2.2.2.2.1
theorem dL_law_1351 : decode cL_law 1351 = .ok (.iload_n 3, 1) := dg_cL_law_57.2.2.2.2.2.1
theorem dL_law_1352 : decode cL_law 1352 = .ok (.iconst 1, 1) := dg_cL_law_57.2.2.2.2.2.2.1
theorem dL_law_1353 : decode cL_law 1353 = .ok (.iadd, 1) := dg_cL_law_57.2.2.2.2.2.2.2.1
theorem dL_law_1354 : decode cL_law 1354 = .ok (.iaload, 1) := dg_cL_law_57.2.2.2.2.2.2.2.2.1
theorem dL_law_1355 : decode cL_law 1355 = .ok (.invokevirtual 178, 3) := dg_cL_law_57.2.2.2.2.2.2.2.2.2.1
theorem dL_law_1358 : decode cL_law 1358 = .ok (.if_icmp .eq 5, 3) := dg_cL_law_57.2.2.2.2.2.2.2.2.2.2.1
theorem dL_law_1361 : decode cL_law 1361 = .ok (.iconst 0, 1) := dg_cL_law_57.2.2.2.2.2.2.2.2.2.2.2.1
theorem dL_law_1362 : decode cL_law 1362 = .ok (.ireturn, 1) := dg_cL_law_57.2.2.2.2.2.2.2.2.2.2.2.2.1
theorem dL_law_1363 : decode cL_law 1363 = .ok (.iinc 3 5, 3) := dg_cL_law_57.2.2.2.2.2.2.2.2.2.2.2.2.2.1
theorem dL_law_1366 : decode cL_law 1366 = .ok (.goto (-1348), 3) := dg_cL_law_57.2.2.2.2.2.2.2.2.2.2.2.2.2.2.1
theorem dL_law_1369 : decode cL_law 1369 = .ok (.iconst 1, 1) := dg_cL_law_57.2.2.2.2.2.2.2.2.2.2.2.2.2.2.2
theorem dL_law_1370 : decode cL_law 1370 = .ok (.ireturn, 1) := by decide +kernel
