/-! the law's body, in tables -/
theorem dL_law_0 : decode cL_law 0 = .ok (.new 8, 3) := by decide +kernel
theorem dL_law_3 : decode cL_law 3 = .ok (.dup, 1) := by decide +kernel
theorem dL_law_4 : decode cL_law 4 = .ok (.invokespecial 93, 3) := by decide +kernel
theorem dL_law_7 : decode cL_law 7 = .ok (.astore_n 1, 1) := by decide +kernel
theorem dL_law_8 : decode cL_law 8 = .ok (.new 94, 3) := by decide +kernel
theorem dL_law_11 : decode cL_law 11 = .ok (.dup, 1) := by decide +kernel
theorem dL_law_12 : decode cL_law 12 = .ok (.invokespecial 96, 3) := by decide +kernel
theorem dL_law_15 : decode cL_law 15 = .ok (.astore_n 2, 1) := by decide +kernel
theorem dL_law_16 : decode cL_law 16 = .ok (.iconst 1, 1) := by decide +kernel
theorem dL_law_17 : decode cL_law 17 = .ok (.newarray .long, 2) := by decide +kernel
theorem dL_law_19 : decode cL_law 19 = .ok (.astore_n 3, 1) := by decide +kernel
theorem dL_law_20 : decode cL_law 20 = .ok (.iconst 1, 1) := by decide +kernel
theorem dL_law_21 : decode cL_law 21 = .ok (.newarray .double, 2) := by decide +kernel
theorem dL_law_23 : decode cL_law 23 = .ok (.astore 4, 2) := by decide +kernel
theorem dL_law_25 : decode cL_law 25 = .ok (.iconst 0, 1) := by decide +kernel
theorem dL_law_26 : decode cL_law 26 = .ok (.istore 5, 2) := by decide +kernel
theorem dL_law_28 : decode cL_law 28 = .ok (.iload 5, 2) := by decide +kernel
theorem dL_law_30 : decode cL_law 30 = .ok (.aload_n 0, 1) := by decide +kernel
theorem dL_law_31 : decode cL_law 31 = .ok (.arraylength, 1) := by decide +kernel
theorem dL_law_32 : decode cL_law 32 = .ok (.iconst 5, 1) := by decide +kernel
theorem dL_law_33 : decode cL_law 33 = .ok (.isub, 1) := by decide +kernel
theorem dL_law_34 : decode cL_law 34 = .ok (.if_icmp .gt 1903, 3) := by decide +kernel
theorem dL_law_37 : decode cL_law 37 = .ok (.aload_n 0, 1) := by decide +kernel
theorem dL_law_38 : decode cL_law 38 = .ok (.iload 5, 2) := by decide +kernel
theorem dL_law_40 : decode cL_law 40 = .ok (.iaload, 1) := by decide +kernel
theorem dL_law_41 : decode cL_law 41 = .ok (.bipush 31, 2) := by decide +kernel
theorem dL_law_43 : decode cL_law 43 = .ok (.iand, 1) := by decide +kernel
theorem dL_law_44 : decode cL_law 44 = .ok (.tableswitch 1887 0 29 #[136, 245, 323, 391, 447, 536, 628, 696, 764, 855, 911, 967, 1023, 1122, 1199, 1286, 1375, 1388, 1444, 1500, 1513, 1603, 1616, 1672, 1749, 1790, 1803, 1816, 1829, 1873], 136) := by decide +kernel
def tL_law_h : Tb := [(28, .inl (f_iload 5, 30)), (30, .inl (f_aload 0, 31)), (31, .inl (f_alen, 32)), (32, .inl (f_ci (5), 33)), (33, .inl (f_isub, 34)), (34, .inr (.inl (b_icmp_gt, 1937, 37))), (37, .inl (f_aload 0, 38)), (38, .inl (f_iload 5, 40)), (40, .inr (.inr (.inl (0, 41, 0, m0)))), (41, .inl (f_ci (31), 43)), (43, .inl (f_iand, 44)), (44, .inr (.inr (.inr (0, [180, 289, 367, 435, 491, 580, 672, 740, 808, 899, 955, 1011, 1067, 1166, 1243, 1330, 1419, 1432, 1488, 1544, 1557, 1647, 1660, 1716, 1793, 1834, 1847, 1860, 1873, 1917], 1931))))]
set_option maxRecDepth 10000 in
theorem kL_law_h {X : Ctx} (h : sCx X mL_law) : tab X mL_law tL_law_h :=
  tab_cons (eS (st_iload h dL_law_28)) (
  tab_cons (eS (st_aloadn h rfl dL_law_30)) (
  tab_cons (eS (st_alen h dL_law_31)) (
  tab_cons (eS (st_iconst h (by decide +kernel) dL_law_32)) (
  tab_cons (eS (st_isub h dL_law_33)) (
  tab_cons (eB (sb_icmp_gt h dL_law_34 (by decide))) (
  tab_cons (eS (st_aloadn h rfl dL_law_37)) (
  tab_cons (eS (st_iload h dL_law_38)) (
  tab_cons (eO (so_iaload h dL_law_40)) (
  tab_cons (eS (st_bipush h (by decide +kernel) dL_law_41)) (
  tab_cons (eS (st_iand h dL_law_43)) (
  tab_cons (eT (so_tsw h (by decide) (by decide) (by decide) dL_law_44)) (
  tab_nil))))))))))))
theorem dL_law_180 : decode cL_law 180 = .ok (.aload_n 1, 1) := by decide +kernel
theorem dL_law_181 : decode cL_law 181 = .ok (.aload_n 0, 1) := by decide +kernel
theorem dL_law_182 : decode cL_law 182 = .ok (.iload 5, 2) := by decide +kernel
theorem dL_law_184 : decode cL_law 184 = .ok (.iconst 1, 1) := by decide +kernel
theorem dL_law_185 : decode cL_law 185 = .ok (.iadd, 1) := by decide +kernel
theorem dL_law_186 : decode cL_law 186 = .ok (.iaload, 1) := by decide +kernel
theorem dL_law_187 : decode cL_law 187 = .ok (.i2d, 1) := by decide +kernel
theorem dL_law_188 : decode cL_law 188 = .ok (.ldc2_w 97, 3) := by decide +kernel
theorem dL_law_191 : decode cL_law 191 = .ok (.dmul, 1) := by decide +kernel
theorem dL_law_192 : decode cL_law 192 = .ok (.aload_n 0, 1) := by decide +kernel
theorem dL_law_193 : decode cL_law 193 = .ok (.iload 5, 2) := by decide +kernel
theorem dL_law_195 : decode cL_law 195 = .ok (.iconst 2, 1) := by decide +kernel
theorem dL_law_196 : decode cL_law 196 = .ok (.iadd, 1) := by decide +kernel
theorem dL_law_197 : decode cL_law 197 = .ok (.iaload, 1) := by decide +kernel
theorem dL_law_198 : decode cL_law 198 = .ok (.i2d, 1) := by decide +kernel
theorem dL_law_199 : decode cL_law 199 = .ok (.ldc2_w 97, 3) := by decide +kernel
theorem dL_law_202 : decode cL_law 202 = .ok (.dmul, 1) := by decide +kernel
theorem dL_law_203 : decode cL_law 203 = .ok (.aload 4, 2) := by decide +kernel
theorem dL_law_205 : decode cL_law 205 = .ok (.invokestatic 99, 3) := by decide +kernel
theorem dL_law_208 : decode cL_law 208 = .ok (.istore 6, 2) := by decide +kernel
theorem dL_law_210 : decode cL_law 210 = .ok (.aload_n 2, 1) := by decide +kernel
theorem dL_law_211 : decode cL_law 211 = .ok (.aload_n 0, 1) := by decide +kernel
theorem dL_law_212 : decode cL_law 212 = .ok (.iload 5, 2) := by decide +kernel
theorem dL_law_214 : decode cL_law 214 = .ok (.iconst 1, 1) := by decide +kernel
theorem dL_law_215 : decode cL_law 215 = .ok (.iadd, 1) := by decide +kernel
theorem dL_law_216 : decode cL_law 216 = .ok (.iaload, 1) := by decide +kernel
theorem dL_law_217 : decode cL_law 217 = .ok (.i2d, 1) := by decide +kernel
theorem dL_law_218 : decode cL_law 218 = .ok (.ldc2_w 97, 3) := by decide +kernel
theorem dL_law_221 : decode cL_law 221 = .ok (.dmul, 1) := by decide +kernel
theorem dL_law_222 : decode cL_law 222 = .ok (.aload_n 0, 1) := by decide +kernel
theorem dL_law_223 : decode cL_law 223 = .ok (.iload 5, 2) := by decide +kernel
theorem dL_law_225 : decode cL_law 225 = .ok (.iconst 2, 1) := by decide +kernel
theorem dL_law_226 : decode cL_law 226 = .ok (.iadd, 1) := by decide +kernel
theorem dL_law_227 : decode cL_law 227 = .ok (.iaload, 1) := by decide +kernel
theorem dL_law_228 : decode cL_law 228 = .ok (.i2d, 1) := by decide +kernel
theorem dL_law_229 : decode cL_law 229 = .ok (.ldc2_w 97, 3) := by decide +kernel
theorem dL_law_232 : decode cL_law 232 = .ok (.dmul, 1) := by decide +kernel
theorem dL_law_233 : decode cL_law 233 = .ok (.invokevirtual 104, 3) := by decide +kernel
theorem dL_law_236 : decode cL_law 236 = .ok (.dstore 7, 2) := by decide +kernel
theorem dL_law_238 : decode cL_law 238 = .ok (.aload_n 2, 1) := by decide +kernel
theorem dL_law_239 : decode cL_law 239 = .ok (.invokevirtual 105, 3) := by decide +kernel
theorem dL_law_242 : decode cL_law 242 = .ok (.iload 6, 2) := by decide +kernel
theorem dL_law_244 : decode cL_law 244 = .ok (.if_icmp .eq 5, 3) := by decide +kernel
theorem dL_law_247 : decode cL_law 247 = .ok (.iconst 0, 1) := by decide +kernel
theorem dL_law_248 : decode cL_law 248 = .ok (.ireturn, 1) := by decide +kernel
theorem dL_law_249 : decode cL_law 249 = .ok (.iload 6, 2) := by decide +kernel
theorem dL_law_251 : decode cL_law 251 = .ok (.ifCond .ne 35, 3) := by decide +kernel
theorem dL_law_254 : decode cL_law 254 = .ok (.aload 4, 2) := by decide +kernel
theorem dL_law_256 : decode cL_law 256 = .ok (.iconst 0, 1) := by decide +kernel
theorem dL_law_257 : decode cL_law 257 = .ok (.daload, 1) := by decide +kernel
theorem dL_law_258 : decode cL_law 258 = .ok (.dload 7, 2) := by decide +kernel
theorem dL_law_260 : decode cL_law 260 = .ok (.dcmp .l, 1) := by decide +kernel
theorem dL_law_261 : decode cL_law 261 = .ok (.ifCond .eq 25, 3) := by decide +kernel
theorem dL_law_264 : decode cL_law 264 = .ok (.aload 4, 2) := by decide +kernel
theorem dL_law_266 : decode cL_law 266 = .ok (.iconst 0, 1) := by decide +kernel
theorem dL_law_267 : decode cL_law 267 = .ok (.daload, 1) := by decide +kernel
theorem dL_law_268 : decode cL_law 268 = .ok (.aload 4, 2) := by decide +kernel
theorem dL_law_270 : decode cL_law 270 = .ok (.iconst 0, 1) := by decide +kernel
theorem dL_law_271 : decode cL_law 271 = .ok (.daload, 1) := by decide +kernel
theorem dL_law_272 : decode cL_law 272 = .ok (.dcmp .l, 1) := by decide +kernel
theorem dL_law_273 : decode cL_law 273 = .ok (.ifCond .eq 11, 3) := by decide +kernel
theorem dL_law_276 : decode cL_law 276 = .ok (.dload 7, 2) := by decide +kernel
theorem dL_law_278 : decode cL_law 278 = .ok (.dload 7, 2) := by decide +kernel
theorem dL_law_280 : decode cL_law 280 = .ok (.dcmp .l, 1) := by decide +kernel
theorem dL_law_281 : decode cL_law 281 = .ok (.ifCond .ne 5, 3) := by decide +kernel
theorem dL_law_284 : decode cL_law 284 = .ok (.iconst 0, 1) := by decide +kernel
theorem dL_law_285 : decode cL_law 285 = .ok (.ireturn, 1) := by decide +kernel
theorem dL_law_286 : decode cL_law 286 = .ok (.goto 1645, 3) := by decide +kernel
def tL_law_c0 : Tb := [(180, .inl (f_aload 1, 181)), (181, .inl (f_aload 0, 182)), (182, .inl (f_iload 5, 184)), (184, .inl (f_ci (1), 185)), (185, .inl (f_iadd, 186)), (186, .inr (.inr (.inl (0, 187, 0, m0)))), (187, .inl (f_i2d, 188)), (188, .inl (f_cd 4593671619917905920, 191)), (191, .inr (.inr (.inl (9, 192, 0, m0)))), (192, .inl (f_aload 0, 193)), (193, .inl (f_iload 5, 195)), (195, .inl (f_ci (2), 196)), (196, .inl (f_iadd, 197)), (197, .inr (.inr (.inl (0, 198, 0, m0)))), (198, .inl (f_i2d, 199)), (199, .inl (f_cd 4593671619917905920, 202)), (202, .inr (.inr (.inl (9, 203, 0, m0)))), (203, .inl (f_aload 4, 205)), (208, .inl (f_istore 10 6, 210)), (210, .inl (f_aload 2, 211)), (211, .inl (f_aload 0, 212)), (212, .inl (f_iload 5, 214)), (214, .inl (f_ci (1), 215)), (215, .inl (f_iadd, 216)), (216, .inr (.inr (.inl (0, 217, 0, m0)))), (217, .inl (f_i2d, 218)), (218, .inl (f_cd 4593671619917905920, 221)), (221, .inr (.inr (.inl (9, 222, 0, m0)))), (222, .inl (f_aload 0, 223)), (223, .inl (f_iload 5, 225)), (225, .inl (f_ci (2), 226)), (226, .inl (f_iadd, 227)), (227, .inr (.inr (.inl (0, 228, 0, m0)))), (228, .inl (f_i2d, 229)), (229, .inl (f_cd 4593671619917905920, 232)), (232, .inr (.inr (.inl (9, 233, 0, m0)))), (233, .inr (.inr (.inl (13, 236, 3, mX7_setSource)))), (236, .inl (f_dstore 10 7, 238)), (238, .inl (f_aload 2, 239)), (239, .inr (.inr (.inl (13, 242, 1, mX7_thrown)))), (242, .inl (f_iload 6, 244)), (244, .inr (.inl (b_icmp_eq, 249, 247))), (247, .inl (f_ci (0), 248)), (248, .inr (.inr (.inl (15, 249, 0, m0)))), (249, .inl (f_iload 6, 251)), (251, .inr (.inl (b_if_eq, 254, 286))), (254, .inl (f_aload 4, 256)), (256, .inl (f_ci (0), 257)), (257, .inr (.inr (.inl (1, 258, 0, m0)))), (258, .inl (f_dload 7, 260)), (260, .inl (f_dcmpl, 261)), (261, .inr (.inl (b_if_eq, 286, 264))), (264, .inl (f_aload 4, 266)), (266, .inl (f_ci (0), 267)), (267, .inr (.inr (.inl (1, 268, 0, m0)))), (268, .inl (f_aload 4, 270)), (270, .inl (f_ci (0), 271)), (271, .inr (.inr (.inl (1, 272, 0, m0)))), (272, .inl (f_dcmpl, 273)), (273, .inr (.inl (b_if_eq, 284, 276))), (276, .inl (f_dload 7, 278)), (278, .inl (f_dload 7, 280)), (280, .inl (f_dcmpl, 281)), (281, .inr (.inl (b_if_eq, 284, 286))), (284, .inl (f_ci (0), 285)), (285, .inr (.inr (.inl (15, 286, 0, m0)))), (286, .inl (f_id, 1931))]
set_option maxRecDepth 10000 in
theorem kL_law_c0 {X : Ctx} (h : sCx X mL_law) : tab X mL_law tL_law_c0 :=
  tab_cons (eS (st_aloadn h rfl dL_law_180)) (
  tab_cons (eS (st_aloadn h rfl dL_law_181)) (
  tab_cons (eS (st_iload h dL_law_182)) (
  tab_cons (eS (st_iconst h (by decide +kernel) dL_law_184)) (
  tab_cons (eS (st_iadd h dL_law_185)) (
  tab_cons (eO (so_iaload h dL_law_186)) (
  tab_cons (eS (st_i2d h dL_law_187)) (
  tab_cons (eS (st_ldc2d h gl_92 dL_law_188)) (
  tab_cons (eO (so_dmul h dL_law_191)) (
  tab_cons (eS (st_aloadn h rfl dL_law_192)) (
  tab_cons (eS (st_iload h dL_law_193)) (
  tab_cons (eS (st_iconst h (by decide +kernel) dL_law_195)) (
  tab_cons (eS (st_iadd h dL_law_196)) (
  tab_cons (eO (so_iaload h dL_law_197)) (
  tab_cons (eS (st_i2d h dL_law_198)) (
  tab_cons (eS (st_ldc2d h gl_92 dL_law_199)) (
  tab_cons (eO (so_dmul h dL_law_202)) (
  tab_cons (eS (st_aload h dL_law_203)) (
  tab_cons (eS (st_istore h dL_law_208)) (
  tab_cons (eS (st_aloadn h rfl dL_law_210)) (
  tab_cons (eS (st_aloadn h rfl dL_law_211)) (
  tab_cons (eS (st_iload h dL_law_212)) (
  tab_cons (eS (st_iconst h (by decide +kernel) dL_law_214)) (
  tab_cons (eS (st_iadd h dL_law_215)) (
  tab_cons (eO (so_iaload h dL_law_216)) (
  tab_cons (eS (st_i2d h dL_law_217)) (
  tab_cons (eS (st_ldc2d h gl_92 dL_law_218)) (
  tab_cons (eO (so_dmul h dL_law_221)) (
  tab_cons (eS (st_aloadn h rfl dL_law_222)) (
  tab_cons (eS (st_iload h dL_law_223)) (
  tab_cons (eS (st_iconst h (by decide +kernel) dL_law_225)) (
  tab_cons (eS (st_iadd h dL_law_226)) (
  tab_cons (eO (so_iaload h dL_law_227)) (
  tab_cons (eS (st_i2d h dL_law_228)) (
  tab_cons (eS (st_ldc2d h gl_92 dL_law_229)) (
  tab_cons (eO (so_dmul h dL_law_232)) (
  tab_cons (eO (so_callV h gl_93 gl_94 gl_95 gw_295 gl_97 ⟨by decide +kernel, by decide +kernel, by decide +kernel, by decide +kernel⟩ ⟨by decide +kernel, by decide +kernel⟩ dL_law_233)) (
  tab_cons (eS (st_dstore h dL_law_236)) (
  tab_cons (eS (st_aloadn h rfl dL_law_238)) (
  tab_cons (eO (so_callV h gl_98 gl_99 gl_100 gw_295 gl_101 ⟨by decide +kernel, by decide +kernel, by decide +kernel, by decide +kernel⟩ ⟨by decide +kernel, by decide +kernel⟩ dL_law_239)) (
  tab_cons (eS (st_iload h dL_law_242)) (
  tab_cons (eB (sb_icmp_eq h dL_law_244 (by decide))) (
  tab_cons (eS (st_iconst h (by decide +kernel) dL_law_247)) (
  tab_cons (eO (so_ireturn h dL_law_248)) (
  tab_cons (eS (st_iload h dL_law_249)) (
  tab_cons (eB (sb_if_ne h dL_law_251 (by decide))) (
  tab_cons (eS (st_aload h dL_law_254)) (
  tab_cons (eS (st_iconst h (by decide +kernel) dL_law_256)) (
  tab_cons (eO (so_daload h dL_law_257)) (
  tab_cons (eS (st_dload h dL_law_258)) (
  tab_cons (eS (st_dcmpl h dL_law_260)) (
  tab_cons (eB (sb_if_eq h dL_law_261 (by decide))) (
  tab_cons (eS (st_aload h dL_law_264)) (
  tab_cons (eS (st_iconst h (by decide +kernel) dL_law_266)) (
  tab_cons (eO (so_daload h dL_law_267)) (
  tab_cons (eS (st_aload h dL_law_268)) (
  tab_cons (eS (st_iconst h (by decide +kernel) dL_law_270)) (
  tab_cons (eO (so_daload h dL_law_271)) (
  tab_cons (eS (st_dcmpl h dL_law_272)) (
  tab_cons (eB (sb_if_eq h dL_law_273 (by decide))) (
  tab_cons (eS (st_dload h dL_law_276)) (
  tab_cons (eS (st_dload h dL_law_278)) (
  tab_cons (eS (st_dcmpl h dL_law_280)) (
  tab_cons (eB (sb_if_ne h dL_law_281 (by decide))) (
  tab_cons (eS (st_iconst h (by decide +kernel) dL_law_284)) (
  tab_cons (eO (so_ireturn h dL_law_285)) (
  tab_cons (eS (st_goto h dL_law_286 (by decide))) (
  tab_nil)))))))))))))))))))))))))))))))))))))))))))))))))))))))))))))))))))
theorem dL_law_289 : decode cL_law 289 = .ok (.aload_n 1, 1) := by decide +kernel
theorem dL_law_290 : decode cL_law 290 = .ok (.aload_n 0, 1) := by decide +kernel
theorem dL_law_291 : decode cL_law 291 = .ok (.iload 5, 2) := by decide +kernel
theorem dL_law_293 : decode cL_law 293 = .ok (.iconst 1, 1) := by decide +kernel
theorem dL_law_294 : decode cL_law 294 = .ok (.iadd, 1) := by decide +kernel
theorem dL_law_295 : decode cL_law 295 = .ok (.iaload, 1) := by decide +kernel
theorem dL_law_296 : decode cL_law 296 = .ok (.aload_n 0, 1) := by decide +kernel
theorem dL_law_297 : decode cL_law 297 = .ok (.iload 5, 2) := by decide +kernel
theorem dL_law_299 : decode cL_law 299 = .ok (.iconst 2, 1) := by decide +kernel
theorem dL_law_300 : decode cL_law 300 = .ok (.iadd, 1) := by decide +kernel
theorem dL_law_301 : decode cL_law 301 = .ok (.iaload, 1) := by decide +kernel
theorem dL_law_302 : decode cL_law 302 = .ok (.i2d, 1) := by decide +kernel
theorem dL_law_303 : decode cL_law 303 = .ok (.ldc2_w 97, 3) := by decide +kernel
theorem dL_law_306 : decode cL_law 306 = .ok (.dmul, 1) := by decide +kernel
theorem dL_law_307 : decode cL_law 307 = .ok (.aload_n 3, 1) := by decide +kernel
theorem dL_law_308 : decode cL_law 308 = .ok (.invokestatic 108, 3) := by decide +kernel
theorem dL_law_311 : decode cL_law 311 = .ok (.istore 6, 2) := by decide +kernel
theorem dL_law_313 : decode cL_law 313 = .ok (.aload_n 2, 1) := by decide +kernel
theorem dL_law_314 : decode cL_law 314 = .ok (.aload_n 0, 1) := by decide +kernel
theorem dL_law_315 : decode cL_law 315 = .ok (.iload 5, 2) := by decide +kernel
theorem dL_law_317 : decode cL_law 317 = .ok (.iconst 1, 1) := by decide +kernel
theorem dL_law_318 : decode cL_law 318 = .ok (.iadd, 1) := by decide +kernel
theorem dL_law_319 : decode cL_law 319 = .ok (.iaload, 1) := by decide +kernel
theorem dL_law_320 : decode cL_law 320 = .ok (.aload_n 0, 1) := by decide +kernel
theorem dL_law_321 : decode cL_law 321 = .ok (.iload 5, 2) := by decide +kernel
theorem dL_law_323 : decode cL_law 323 = .ok (.iconst 2, 1) := by decide +kernel
theorem dL_law_324 : decode cL_law 324 = .ok (.iadd, 1) := by decide +kernel
theorem dL_law_325 : decode cL_law 325 = .ok (.iaload, 1) := by decide +kernel
theorem dL_law_326 : decode cL_law 326 = .ok (.i2d, 1) := by decide +kernel
theorem dL_law_327 : decode cL_law 327 = .ok (.ldc2_w 97, 3) := by decide +kernel
theorem dL_law_330 : decode cL_law 330 = .ok (.dmul, 1) := by decide +kernel
theorem dL_law_331 : decode cL_law 331 = .ok (.invokevirtual 111, 3) := by decide +kernel
theorem dL_law_334 : decode cL_law 334 = .ok (.istore 7, 2) := by decide +kernel
theorem dL_law_336 : decode cL_law 336 = .ok (.aload_n 2, 1) := by decide +kernel
theorem dL_law_337 : decode cL_law 337 = .ok (.invokevirtual 105, 3) := by decide +kernel
theorem dL_law_340 : decode cL_law 340 = .ok (.iload 6, 2) := by decide +kernel
theorem dL_law_342 : decode cL_law 342 = .ok (.if_icmp .eq 5, 3) := by decide +kernel
theorem dL_law_345 : decode cL_law 345 = .ok (.iconst 0, 1) := by decide +kernel
theorem dL_law_346 : decode cL_law 346 = .ok (.ireturn, 1) := by decide +kernel
theorem dL_law_347 : decode cL_law 347 = .ok (.iload 6, 2) := by decide +kernel
theorem dL_law_349 : decode cL_law 349 = .ok (.ifCond .ne 15, 3) := by decide +kernel
theorem dL_law_352 : decode cL_law 352 = .ok (.aload_n 3, 1) := by decide +kernel
theorem dL_law_353 : decode cL_law 353 = .ok (.iconst 0, 1) := by decide +kernel
theorem dL_law_354 : decode cL_law 354 = .ok (.laload, 1) := by decide +kernel
theorem dL_law_355 : decode cL_law 355 = .ok (.iload 7, 2) := by decide +kernel
theorem dL_law_357 : decode cL_law 357 = .ok (.i2l, 1) := by decide +kernel
theorem dL_law_358 : decode cL_law 358 = .ok (.lcmp, 1) := by decide +kernel
theorem dL_law_359 : decode cL_law 359 = .ok (.ifCond .eq 5, 3) := by decide +kernel
theorem dL_law_362 : decode cL_law 362 = .ok (.iconst 0, 1) := by decide +kernel
theorem dL_law_363 : decode cL_law 363 = .ok (.ireturn, 1) := by decide +kernel
theorem dL_law_364 : decode cL_law 364 = .ok (.goto 1567, 3) := by decide +kernel
def tL_law_c1 : Tb := [(289, .inl (f_aload 1, 290)), (290, .inl (f_aload 0, 291)), (291, .inl (f_iload 5, 293)), (293, .inl (f_ci (1), 294)), (294, .inl (f_iadd, 295)), (295, .inr (.inr (.inl (0, 296, 0, m0)))), (296, .inl (f_aload 0, 297)), (297, .inl (f_iload 5, 299)), (299, .inl (f_ci (2), 300)), (300, .inl (f_iadd, 301)), (301, .inr (.inr (.inl (0, 302, 0, m0)))), (302, .inl (f_i2d, 303)), (303, .inl (f_cd 4593671619917905920, 306)), (306, .inr (.inr (.inl (9, 307, 0, m0)))), (307, .inl (f_aload 3, 308)), (311, .inl (f_istore 10 6, 313)), (313, .inl (f_aload 2, 314)), (314, .inl (f_aload 0, 315)), (315, .inl (f_iload 5, 317)), (317, .inl (f_ci (1), 318)), (318, .inl (f_iadd, 319)), (319, .inr (.inr (.inl (0, 320, 0, m0)))), (320, .inl (f_aload 0, 321)), (321, .inl (f_iload 5, 323)), (323, .inl (f_ci (2), 324)), (324, .inl (f_iadd, 325)), (325, .inr (.inr (.inl (0, 326, 0, m0)))), (326, .inl (f_i2d, 327)), (327, .inl (f_cd 4593671619917905920, 330)), (330, .inr (.inr (.inl (9, 331, 0, m0)))), (331, .inr (.inr (.inl (13, 334, 3, mX7_addLine)))), (334, .inl (f_istore 10 7, 336)), (336, .inl (f_aload 2, 337)), (337, .inr (.inr (.inl (13, 340, 1, mX7_thrown)))), (340, .inl (f_iload 6, 342)), (342, .inr (.inl (b_icmp_eq, 347, 345))), (345, .inl (f_ci (0), 346)), (346, .inr (.inr (.inl (15, 347, 0, m0)))), (347, .inl (f_iload 6, 349)), (349, .inr (.inl (b_if_eq, 352, 364))), (352, .inl (f_aload 3, 353)), (353, .inl (f_ci (0), 354)), (354, .inr (.inr (.inl (2, 355, 0, m0)))), (355, .inl (f_iload 7, 357)), (357, .inl (f_i2l, 358)), (358, .inl (f_lcmp, 359)), (359, .inr (.inl (b_if_eq, 364, 362))), (362, .inl (f_ci (0), 363)), (363, .inr (.inr (.inl (15, 364, 0, m0)))), (364, .inl (f_id, 1931))]
set_option maxRecDepth 10000 in
theorem kL_law_c1 {X : Ctx} (h : sCx X mL_law) : tab X mL_law tL_law_c1 :=
  tab_cons (eS (st_aloadn h rfl dL_law_289)) (
  tab_cons (eS (st_aloadn h rfl dL_law_290)) (
  tab_cons (eS (st_iload h dL_law_291)) (
  tab_cons (eS (st_iconst h (by decide +kernel) dL_law_293)) (
  tab_cons (eS (st_iadd h dL_law_294)) (
  tab_cons (eO (so_iaload h dL_law_295)) (
  tab_cons (eS (st_aloadn h rfl dL_law_296)) (
  tab_cons (eS (st_iload h dL_law_297)) (
  tab_cons (eS (st_iconst h (by decide +kernel) dL_law_299)) (
  tab_cons (eS (st_iadd h dL_law_300)) (
  tab_cons (eO (so_iaload h dL_law_301)) (
  tab_cons (eS (st_i2d h dL_law_302)) (
  tab_cons (eS (st_ldc2d h gl_92 dL_law_303)) (
  tab_cons (eO (so_dmul h dL_law_306)) (
  tab_cons (eS (st_aloadn h rfl dL_law_307)) (
  tab_cons (eS (st_istore h dL_law_311)) (
  tab_cons (eS (st_aloadn h rfl dL_law_313)) (
  tab_cons (eS (st_aloadn h rfl dL_law_314)) (
  tab_cons (eS (st_iload h dL_law_315)) (
  tab_cons (eS (st_iconst h (by decide +kernel) dL_law_317)) (
  tab_cons (eS (st_iadd h dL_law_318)) (
  tab_cons (eO (so_iaload h dL_law_319)) (
  tab_cons (eS (st_aloadn h rfl dL_law_320)) (
  tab_cons (eS (st_iload h dL_law_321)) (
  tab_cons (eS (st_iconst h (by decide +kernel) dL_law_323)) (
  tab_cons (eS (st_iadd h dL_law_324)) (
  tab_cons (eO (so_iaload h dL_law_325)) (
  tab_cons (eS (st_i2d h dL_law_326)) (
  tab_cons (eS (st_ldc2d h gl_92 dL_law_327)) (
  tab_cons (eO (so_dmul h dL_law_330)) (
  tab_cons (eO (so_callV h gl_102 gl_103 gl_104 gw_295 gl_105 ⟨by decide +kernel, by decide +kernel, by decide +kernel, by decide +kernel⟩ ⟨by decide +kernel, by decide +kernel⟩ dL_law_331)) (
  tab_cons (eS (st_istore h dL_law_334)) (
  tab_cons (eS (st_aloadn h rfl dL_law_336)) (
  tab_cons (eO (so_callV h gl_98 gl_99 gl_100 gw_295 gl_101 ⟨by decide +kernel, by decide +kernel, by decide +kernel, by decide +kernel⟩ ⟨by decide +kernel, by decide +kernel⟩ dL_law_337)) (
  tab_cons (eS (st_iload h dL_law_340)) (
  tab_cons (eB (sb_icmp_eq h dL_law_342 (by decide))) (
  tab_cons (eS (st_iconst h (by decide +kernel) dL_law_345)) (
  tab_cons (eO (so_ireturn h dL_law_346)) (
  tab_cons (eS (st_iload h dL_law_347)) (
  tab_cons (eB (sb_if_ne h dL_law_349 (by decide))) (
  tab_cons (eS (st_aloadn h rfl dL_law_352)) (
  tab_cons (eS (st_iconst h (by decide +kernel) dL_law_353)) (
  tab_cons (eO (so_laload h dL_law_354)) (
  tab_cons (eS (st_iload h dL_law_355)) (
  tab_cons (eS (st_i2l h dL_law_357)) (
  tab_cons (eS (st_lcmp h dL_law_358)) (
  tab_cons (eB (sb_if_eq h dL_law_359 (by decide))) (
  tab_cons (eS (st_iconst h (by decide +kernel) dL_law_362)) (
  tab_cons (eO (so_ireturn h dL_law_363)) (
  tab_cons (eS (st_goto h dL_law_364 (by decide))) (
  tab_nil))))))))))))))))))))))))))))))))))))))))))))))))))
theorem dL_law_367 : decode cL_law 367 = .ok (.aload_n 1, 1) := by decide +kernel
theorem dL_law_368 : decode cL_law 368 = .ok (.aload_n 0, 1) := by decide +kernel
theorem dL_law_369 : decode cL_law 369 = .ok (.iload 5, 2) := by decide +kernel
theorem dL_law_371 : decode cL_law 371 = .ok (.iconst 1, 1) := by decide +kernel
theorem dL_law_372 : decode cL_law 372 = .ok (.iadd, 1) := by decide +kernel
theorem dL_law_373 : decode cL_law 373 = .ok (.iaload, 1) := by decide +kernel
theorem dL_law_374 : decode cL_law 374 = .ok (.aload_n 0, 1) := by decide +kernel
theorem dL_law_375 : decode cL_law 375 = .ok (.iload 5, 2) := by decide +kernel
theorem dL_law_377 : decode cL_law 377 = .ok (.iconst 2, 1) := by decide +kernel
theorem dL_law_378 : decode cL_law 378 = .ok (.iadd, 1) := by decide +kernel
theorem dL_law_379 : decode cL_law 379 = .ok (.iaload, 1) := by decide +kernel
theorem dL_law_380 : decode cL_law 380 = .ok (.aload_n 3, 1) := by decide +kernel
theorem dL_law_381 : decode cL_law 381 = .ok (.invokestatic 112, 3) := by decide +kernel
theorem dL_law_384 : decode cL_law 384 = .ok (.istore 6, 2) := by decide +kernel
theorem dL_law_386 : decode cL_law 386 = .ok (.aload_n 2, 1) := by decide +kernel
theorem dL_law_387 : decode cL_law 387 = .ok (.aload_n 0, 1) := by decide +kernel
theorem dL_law_388 : decode cL_law 388 = .ok (.iload 5, 2) := by decide +kernel
theorem dL_law_390 : decode cL_law 390 = .ok (.iconst 1, 1) := by decide +kernel
theorem dL_law_391 : decode cL_law 391 = .ok (.iadd, 1) := by decide +kernel
theorem dL_law_392 : decode cL_law 392 = .ok (.iaload, 1) := by decide +kernel
theorem dL_law_393 : decode cL_law 393 = .ok (.aload_n 0, 1) := by decide +kernel
theorem dL_law_394 : decode cL_law 394 = .ok (.iload 5, 2) := by decide +kernel
theorem dL_law_396 : decode cL_law 396 = .ok (.iconst 2, 1) := by decide +kernel
theorem dL_law_397 : decode cL_law 397 = .ok (.iadd, 1) := by decide +kernel
theorem dL_law_398 : decode cL_law 398 = .ok (.iaload, 1) := by decide +kernel
theorem dL_law_399 : decode cL_law 399 = .ok (.invokevirtual 115, 3) := by decide +kernel
theorem dL_law_402 : decode cL_law 402 = .ok (.istore 7, 2) := by decide +kernel
theorem dL_law_404 : decode cL_law 404 = .ok (.aload_n 2, 1) := by decide +kernel
theorem dL_law_405 : decode cL_law 405 = .ok (.invokevirtual 105, 3) := by decide +kernel
theorem dL_law_408 : decode cL_law 408 = .ok (.iload 6, 2) := by decide +kernel
theorem dL_law_410 : decode cL_law 410 = .ok (.if_icmp .eq 5, 3) := by decide +kernel
theorem dL_law_413 : decode cL_law 413 = .ok (.iconst 0, 1) := by decide +kernel
theorem dL_law_414 : decode cL_law 414 = .ok (.ireturn, 1) := by decide +kernel
theorem dL_law_415 : decode cL_law 415 = .ok (.iload 6, 2) := by decide +kernel
theorem dL_law_417 : decode cL_law 417 = .ok (.ifCond .ne 15, 3) := by decide +kernel
theorem dL_law_420 : decode cL_law 420 = .ok (.aload_n 3, 1) := by decide +kernel
theorem dL_law_421 : decode cL_law 421 = .ok (.iconst 0, 1) := by decide +kernel
theorem dL_law_422 : decode cL_law 422 = .ok (.laload, 1) := by decide +kernel
theorem dL_law_423 : decode cL_law 423 = .ok (.iload 7, 2) := by decide +kernel
theorem dL_law_425 : decode cL_law 425 = .ok (.i2l, 1) := by decide +kernel
theorem dL_law_426 : decode cL_law 426 = .ok (.lcmp, 1) := by decide +kernel
theorem dL_law_427 : decode cL_law 427 = .ok (.ifCond .eq 5, 3) := by decide +kernel
theorem dL_law_430 : decode cL_law 430 = .ok (.iconst 0, 1) := by decide +kernel
theorem dL_law_431 : decode cL_law 431 = .ok (.ireturn, 1) := by decide +kernel
theorem dL_law_432 : decode cL_law 432 = .ok (.goto 1499, 3) := by decide +kernel
def tL_law_c2 : Tb := [(367, .inl (f_aload 1, 368)), (368, .inl (f_aload 0, 369)), (369, .inl (f_iload 5, 371)), (371, .inl (f_ci (1), 372)), (372, .inl (f_iadd, 373)), (373, .inr (.inr (.inl (0, 374, 0, m0)))), (374, .inl (f_aload 0, 375)), (375, .inl (f_iload 5, 377)), (377, .inl (f_ci (2), 378)), (378, .inl (f_iadd, 379)), (379, .inr (.inr (.inl (0, 380, 0, m0)))), (380, .inl (f_aload 3, 381)), (384, .inl (f_istore 10 6, 386)), (386, .inl (f_aload 2, 387)), (387, .inl (f_aload 0, 388)), (388, .inl (f_iload 5, 390)), (390, .inl (f_ci (1), 391)), (391, .inl (f_iadd, 392)), (392, .inr (.inr (.inl (0, 393, 0, m0)))), (393, .inl (f_aload 0, 394)), (394, .inl (f_iload 5, 396)), (396, .inl (f_ci (2), 397)), (397, .inl (f_iadd, 398)), (398, .inr (.inr (.inl (0, 399, 0, m0)))), (399, .inr (.inr (.inl (13, 402, 3, mX7_setLoad)))), (402, .inl (f_istore 10 7, 404)), (404, .inl (f_aload 2, 405)), (405, .inr (.inr (.inl (13, 408, 1, mX7_thrown)))), (408, .inl (f_iload 6, 410)), (410, .inr (.inl (b_icmp_eq, 415, 413))), (413, .inl (f_ci (0), 414)), (414, .inr (.inr (.inl (15, 415, 0, m0)))), (415, .inl (f_iload 6, 417)), (417, .inr (.inl (b_if_eq, 420, 432))), (420, .inl (f_aload 3, 421)), (421, .inl (f_ci (0), 422)), (422, .inr (.inr (.inl (2, 423, 0, m0)))), (423, .inl (f_iload 7, 425)), (425, .inl (f_i2l, 426)), (426, .inl (f_lcmp, 427)), (427, .inr (.inl (b_if_eq, 432, 430))), (430, .inl (f_ci (0), 431)), (431, .inr (.inr (.inl (15, 432, 0, m0)))), (432, .inl (f_id, 1931))]
set_option maxRecDepth 10000 in
theorem kL_law_c2 {X : Ctx} (h : sCx X mL_law) : tab X mL_law tL_law_c2 :=
  tab_cons (eS (st_aloadn h rfl dL_law_367)) (
  tab_cons (eS (st_aloadn h rfl dL_law_368)) (
  tab_cons (eS (st_iload h dL_law_369)) (
  tab_cons (eS (st_iconst h (by decide +kernel) dL_law_371)) (
  tab_cons (eS (st_iadd h dL_law_372)) (
  tab_cons (eO (so_iaload h dL_law_373)) (
  tab_cons (eS (st_aloadn h rfl dL_law_374)) (
  tab_cons (eS (st_iload h dL_law_375)) (
  tab_cons (eS (st_iconst h (by decide +kernel) dL_law_377)) (
  tab_cons (eS (st_iadd h dL_law_378)) (
  tab_cons (eO (so_iaload h dL_law_379)) (
  tab_cons (eS (st_aloadn h rfl dL_law_380)) (
  tab_cons (eS (st_istore h dL_law_384)) (
  tab_cons (eS (st_aloadn h rfl dL_law_386)) (
  tab_cons (eS (st_aloadn h rfl dL_law_387)) (
  tab_cons (eS (st_iload h dL_law_388)) (
  tab_cons (eS (st_iconst h (by decide +kernel) dL_law_390)) (
  tab_cons (eS (st_iadd h dL_law_391)) (
  tab_cons (eO (so_iaload h dL_law_392)) (
  tab_cons (eS (st_aloadn h rfl dL_law_393)) (
  tab_cons (eS (st_iload h dL_law_394)) (
  tab_cons (eS (st_iconst h (by decide +kernel) dL_law_396)) (
  tab_cons (eS (st_iadd h dL_law_397)) (
  tab_cons (eO (so_iaload h dL_law_398)) (
  tab_cons (eO (so_callV h gl_106 gl_107 gl_108 gw_295 gl_109 ⟨by decide +kernel, by decide +kernel, by decide +kernel, by decide +kernel⟩ ⟨by decide +kernel, by decide +kernel⟩ dL_law_399)) (
  tab_cons (eS (st_istore h dL_law_402)) (
  tab_cons (eS (st_aloadn h rfl dL_law_404)) (
  tab_cons (eO (so_callV h gl_98 gl_99 gl_100 gw_295 gl_101 ⟨by decide +kernel, by decide +kernel, by decide +kernel, by decide +kernel⟩ ⟨by decide +kernel, by decide +kernel⟩ dL_law_405)) (
  tab_cons (eS (st_iload h dL_law_408)) (
  tab_cons (eB (sb_icmp_eq h dL_law_410 (by decide))) (
  tab_cons (eS (st_iconst h (by decide +kernel) dL_law_413)) (
  tab_cons (eO (so_ireturn h dL_law_414)) (
  tab_cons (eS (st_iload h dL_law_415)) (
  tab_cons (eB (sb_if_ne h dL_law_417 (by decide))) (
  tab_cons (eS (st_aloadn h rfl dL_law_420)) (
  tab_cons (eS (st_iconst h (by decide +kernel) dL_law_421)) (
  tab_cons (eO (so_laload h dL_law_422)) (
  tab_cons (eS (st_iload h dL_law_423)) (
  tab_cons (eS (st_i2l h dL_law_425)) (
  tab_cons (eS (st_lcmp h dL_law_426)) (
  tab_cons (eB (sb_if_eq h dL_law_427 (by decide))) (
  tab_cons (eS (st_iconst h (by decide +kernel) dL_law_430)) (
  tab_cons (eO (so_ireturn h dL_law_431)) (
  tab_cons (eS (st_goto h dL_law_432 (by decide))) (
  tab_nil))))))))))))))))))))))))))))))))))))))))))))
theorem dL_law_435 : decode cL_law 435 = .ok (.aload_n 1, 1) := by decide +kernel
theorem dL_law_436 : decode cL_law 436 = .ok (.aload_n 0, 1) := by decide +kernel
theorem dL_law_437 : decode cL_law 437 = .ok (.iload 5, 2) := by decide +kernel
theorem dL_law_439 : decode cL_law 439 = .ok (.iconst 1, 1) := by decide +kernel
theorem dL_law_440 : decode cL_law 440 = .ok (.iadd, 1) := by decide +kernel
theorem dL_law_441 : decode cL_law 441 = .ok (.iaload, 1) := by decide +kernel
theorem dL_law_442 : decode cL_law 442 = .ok (.aload_n 3, 1) := by decide +kernel
theorem dL_law_443 : decode cL_law 443 = .ok (.invokestatic 116, 3) := by decide +kernel
theorem dL_law_446 : decode cL_law 446 = .ok (.istore 6, 2) := by decide +kernel
theorem dL_law_448 : decode cL_law 448 = .ok (.aload_n 2, 1) := by decide +kernel
theorem dL_law_449 : decode cL_law 449 = .ok (.aload_n 0, 1) := by decide +kernel
theorem dL_law_450 : decode cL_law 450 = .ok (.iload 5, 2) := by decide +kernel
theorem dL_law_452 : decode cL_law 452 = .ok (.iconst 1, 1) := by decide +kernel
theorem dL_law_453 : decode cL_law 453 = .ok (.iadd, 1) := by decide +kernel
theorem dL_law_454 : decode cL_law 454 = .ok (.iaload, 1) := by decide +kernel
theorem dL_law_455 : decode cL_law 455 = .ok (.invokevirtual 119, 3) := by decide +kernel
theorem dL_law_458 : decode cL_law 458 = .ok (.istore 7, 2) := by decide +kernel
theorem dL_law_460 : decode cL_law 460 = .ok (.aload_n 2, 1) := by decide +kernel
theorem dL_law_461 : decode cL_law 461 = .ok (.invokevirtual 105, 3) := by decide +kernel
theorem dL_law_464 : decode cL_law 464 = .ok (.iload 6, 2) := by decide +kernel
theorem dL_law_466 : decode cL_law 466 = .ok (.if_icmp .eq 5, 3) := by decide +kernel
theorem dL_law_469 : decode cL_law 469 = .ok (.iconst 0, 1) := by decide +kernel
theorem dL_law_470 : decode cL_law 470 = .ok (.ireturn, 1) := by decide +kernel
theorem dL_law_471 : decode cL_law 471 = .ok (.iload 6, 2) := by decide +kernel
theorem dL_law_473 : decode cL_law 473 = .ok (.ifCond .ne 15, 3) := by decide +kernel
theorem dL_law_476 : decode cL_law 476 = .ok (.aload_n 3, 1) := by decide +kernel
theorem dL_law_477 : decode cL_law 477 = .ok (.iconst 0, 1) := by decide +kernel
theorem dL_law_478 : decode cL_law 478 = .ok (.laload, 1) := by decide +kernel
theorem dL_law_479 : decode cL_law 479 = .ok (.iload 7, 2) := by decide +kernel
theorem dL_law_481 : decode cL_law 481 = .ok (.i2l, 1) := by decide +kernel
theorem dL_law_482 : decode cL_law 482 = .ok (.lcmp, 1) := by decide +kernel
theorem dL_law_483 : decode cL_law 483 = .ok (.ifCond .eq 5, 3) := by decide +kernel
theorem dL_law_486 : decode cL_law 486 = .ok (.iconst 0, 1) := by decide +kernel
theorem dL_law_487 : decode cL_law 487 = .ok (.ireturn, 1) := by decide +kernel
theorem dL_law_488 : decode cL_law 488 = .ok (.goto 1443, 3) := by decide +kernel
def tL_law_c3 : Tb := [(435, .inl (f_aload 1, 436)), (436, .inl (f_aload 0, 437)), (437, .inl (f_iload 5, 439)), (439, .inl (f_ci (1), 440)), (440, .inl (f_iadd, 441)), (441, .inr (.inr (.inl (0, 442, 0, m0)))), (442, .inl (f_aload 3, 443)), (446, .inl (f_istore 10 6, 448)), (448, .inl (f_aload 2, 449)), (449, .inl (f_aload 0, 450)), (450, .inl (f_iload 5, 452)), (452, .inl (f_ci (1), 453)), (453, .inl (f_iadd, 454)), (454, .inr (.inr (.inl (0, 455, 0, m0)))), (455, .inr (.inr (.inl (13, 458, 2, mX7_loadCurrent)))), (458, .inl (f_istore 10 7, 460)), (460, .inl (f_aload 2, 461)), (461, .inr (.inr (.inl (13, 464, 1, mX7_thrown)))), (464, .inl (f_iload 6, 466)), (466, .inr (.inl (b_icmp_eq, 471, 469))), (469, .inl (f_ci (0), 470)), (470, .inr (.inr (.inl (15, 471, 0, m0)))), (471, .inl (f_iload 6, 473)), (473, .inr (.inl (b_if_eq, 476, 488))), (476, .inl (f_aload 3, 477)), (477, .inl (f_ci (0), 478)), (478, .inr (.inr (.inl (2, 479, 0, m0)))), (479, .inl (f_iload 7, 481)), (481, .inl (f_i2l, 482)), (482, .inl (f_lcmp, 483)), (483, .inr (.inl (b_if_eq, 488, 486))), (486, .inl (f_ci (0), 487)), (487, .inr (.inr (.inl (15, 488, 0, m0)))), (488, .inl (f_id, 1931))]
set_option maxRecDepth 10000 in
theorem kL_law_c3 {X : Ctx} (h : sCx X mL_law) : tab X mL_law tL_law_c3 :=
  tab_cons (eS (st_aloadn h rfl dL_law_435)) (
  tab_cons (eS (st_aloadn h rfl dL_law_436)) (
  tab_cons (eS (st_iload h dL_law_437)) (
  tab_cons (eS (st_iconst h (by decide +kernel) dL_law_439)) (
  tab_cons (eS (st_iadd h dL_law_440)) (
  tab_cons (eO (so_iaload h dL_law_441)) (
  tab_cons (eS (st_aloadn h rfl dL_law_442)) (
  tab_cons (eS (st_istore h dL_law_446)) (
  tab_cons (eS (st_aloadn h rfl dL_law_448)) (
  tab_cons (eS (st_aloadn h rfl dL_law_449)) (
  tab_cons (eS (st_iload h dL_law_450)) (
  tab_cons (eS (st_iconst h (by decide +kernel) dL_law_452)) (
  tab_cons (eS (st_iadd h dL_law_453)) (
  tab_cons (eO (so_iaload h dL_law_454)) (
  tab_cons (eO (so_callV h gl_110 gl_111 gl_112 gw_295 gl_113 ⟨by decide +kernel, by decide +kernel, by decide +kernel, by decide +kernel⟩ ⟨by decide +kernel, by decide +kernel⟩ dL_law_455)) (
  tab_cons (eS (st_istore h dL_law_458)) (
  tab_cons (eS (st_aloadn h rfl dL_law_460)) (
  tab_cons (eO (so_callV h gl_98 gl_99 gl_100 gw_295 gl_101 ⟨by decide +kernel, by decide +kernel, by decide +kernel, by decide +kernel⟩ ⟨by decide +kernel, by decide +kernel⟩ dL_law_461)) (
  tab_cons (eS (st_iload h dL_law_464)) (
  tab_cons (eB (sb_icmp_eq h dL_law_466 (by decide))) (
  tab_cons (eS (st_iconst h (by decide +kernel) dL_law_469)) (
  tab_cons (eO (so_ireturn h dL_law_470)) (
  tab_cons (eS (st_iload h dL_law_471)) (
  tab_cons (eB (sb_if_ne h dL_law_473 (by decide))) (
  tab_cons (eS (st_aloadn h rfl dL_law_476)) (
  tab_cons (eS (st_iconst h (by decide +kernel) dL_law_477)) (
  tab_cons (eO (so_laload h dL_law_478)) (
  tab_cons (eS (st_iload h dL_law_479)) (
  tab_cons (eS (st_i2l h dL_law_481)) (
  tab_cons (eS (st_lcmp h dL_law_482)) (
  tab_cons (eB (sb_if_eq h dL_law_483 (by decide))) (
  tab_cons (eS (st_iconst h (by decide +kernel) dL_law_486)) (
  tab_cons (eO (so_ireturn h dL_law_487)) (
  tab_cons (eS (st_goto h dL_law_488 (by decide))) (
  tab_nil))))))))))))))))))))))))))))))))))
theorem dL_law_491 : decode cL_law 491 = .ok (.aload_n 1, 1) := by decide +kernel
theorem dL_law_492 : decode cL_law 492 = .ok (.aload_n 0, 1) := by decide +kernel
theorem dL_law_493 : decode cL_law 493 = .ok (.iload 5, 2) := by decide +kernel
theorem dL_law_495 : decode cL_law 495 = .ok (.iconst 1, 1) := by decide +kernel
theorem dL_law_496 : decode cL_law 496 = .ok (.iadd, 1) := by decide +kernel
theorem dL_law_497 : decode cL_law 497 = .ok (.iaload, 1) := by decide +kernel
theorem dL_law_498 : decode cL_law 498 = .ok (.aload_n 0, 1) := by decide +kernel
theorem dL_law_499 : decode cL_law 499 = .ok (.iload 5, 2) := by decide +kernel
theorem dL_law_501 : decode cL_law 501 = .ok (.iconst 2, 1) := by decide +kernel
theorem dL_law_502 : decode cL_law 502 = .ok (.iadd, 1) := by decide +kernel
theorem dL_law_503 : decode cL_law 503 = .ok (.iaload, 1) := by decide +kernel
theorem dL_law_504 : decode cL_law 504 = .ok (.aload 4, 2) := by decide +kernel
theorem dL_law_506 : decode cL_law 506 = .ok (.invokestatic 120, 3) := by decide +kernel
theorem dL_law_509 : decode cL_law 509 = .ok (.istore 6, 2) := by decide +kernel
theorem dL_law_511 : decode cL_law 511 = .ok (.aload_n 2, 1) := by decide +kernel
theorem dL_law_512 : decode cL_law 512 = .ok (.aload_n 0, 1) := by decide +kernel
theorem dL_law_513 : decode cL_law 513 = .ok (.iload 5, 2) := by decide +kernel
theorem dL_law_515 : decode cL_law 515 = .ok (.iconst 1, 1) := by decide +kernel
theorem dL_law_516 : decode cL_law 516 = .ok (.iadd, 1) := by decide +kernel
theorem dL_law_517 : decode cL_law 517 = .ok (.iaload, 1) := by decide +kernel
theorem dL_law_518 : decode cL_law 518 = .ok (.aload_n 0, 1) := by decide +kernel
theorem dL_law_519 : decode cL_law 519 = .ok (.iload 5, 2) := by decide +kernel
theorem dL_law_521 : decode cL_law 521 = .ok (.iconst 2, 1) := by decide +kernel
theorem dL_law_522 : decode cL_law 522 = .ok (.iadd, 1) := by decide +kernel
theorem dL_law_523 : decode cL_law 523 = .ok (.iaload, 1) := by decide +kernel
theorem dL_law_524 : decode cL_law 524 = .ok (.invokevirtual 123, 3) := by decide +kernel
theorem dL_law_527 : decode cL_law 527 = .ok (.dstore 7, 2) := by decide +kernel
theorem dL_law_529 : decode cL_law 529 = .ok (.aload_n 2, 1) := by decide +kernel
theorem dL_law_530 : decode cL_law 530 = .ok (.invokevirtual 105, 3) := by decide +kernel
theorem dL_law_533 : decode cL_law 533 = .ok (.iload 6, 2) := by decide +kernel
theorem dL_law_535 : decode cL_law 535 = .ok (.if_icmp .eq 5, 3) := by decide +kernel
theorem dL_law_538 : decode cL_law 538 = .ok (.iconst 0, 1) := by decide +kernel
theorem dL_law_539 : decode cL_law 539 = .ok (.ireturn, 1) := by decide +kernel
theorem dL_law_540 : decode cL_law 540 = .ok (.iload 6, 2) := by decide +kernel
theorem dL_law_542 : decode cL_law 542 = .ok (.ifCond .ne 35, 3) := by decide +kernel
theorem dL_law_545 : decode cL_law 545 = .ok (.aload 4, 2) := by decide +kernel
theorem dL_law_547 : decode cL_law 547 = .ok (.iconst 0, 1) := by decide +kernel
theorem dL_law_548 : decode cL_law 548 = .ok (.daload, 1) := by decide +kernel
theorem dL_law_549 : decode cL_law 549 = .ok (.dload 7, 2) := by decide +kernel
theorem dL_law_551 : decode cL_law 551 = .ok (.dcmp .l, 1) := by decide +kernel
theorem dL_law_552 : decode cL_law 552 = .ok (.ifCond .eq 25, 3) := by decide +kernel
theorem dL_law_555 : decode cL_law 555 = .ok (.aload 4, 2) := by decide +kernel
theorem dL_law_557 : decode cL_law 557 = .ok (.iconst 0, 1) := by decide +kernel
theorem dL_law_558 : decode cL_law 558 = .ok (.daload, 1) := by decide +kernel
theorem dL_law_559 : decode cL_law 559 = .ok (.aload 4, 2) := by decide +kernel
theorem dL_law_561 : decode cL_law 561 = .ok (.iconst 0, 1) := by decide +kernel
theorem dL_law_562 : decode cL_law 562 = .ok (.daload, 1) := by decide +kernel
theorem dL_law_563 : decode cL_law 563 = .ok (.dcmp .l, 1) := by decide +kernel
theorem dL_law_564 : decode cL_law 564 = .ok (.ifCond .eq 11, 3) := by decide +kernel
theorem dL_law_567 : decode cL_law 567 = .ok (.dload 7, 2) := by decide +kernel
theorem dL_law_569 : decode cL_law 569 = .ok (.dload 7, 2) := by decide +kernel
theorem dL_law_571 : decode cL_law 571 = .ok (.dcmp .l, 1) := by decide +kernel
theorem dL_law_572 : decode cL_law 572 = .ok (.ifCond .ne 5, 3) := by decide +kernel
theorem dL_law_575 : decode cL_law 575 = .ok (.iconst 0, 1) := by decide +kernel
theorem dL_law_576 : decode cL_law 576 = .ok (.ireturn, 1) := by decide +kernel
theorem dL_law_577 : decode cL_law 577 = .ok (.goto 1354, 3) := by decide +kernel
def tL_law_c4 : Tb := [(491, .inl (f_aload 1, 492)), (492, .inl (f_aload 0, 493)), (493, .inl (f_iload 5, 495)), (495, .inl (f_ci (1), 496)), (496, .inl (f_iadd, 497)), (497, .inr (.inr (.inl (0, 498, 0, m0)))), (498, .inl (f_aload 0, 499)), (499, .inl (f_iload 5, 501)), (501, .inl (f_ci (2), 502)), (502, .inl (f_iadd, 503)), (503, .inr (.inr (.inl (0, 504, 0, m0)))), (504, .inl (f_aload 4, 506)), (509, .inl (f_istore 10 6, 511)), (511, .inl (f_aload 2, 512)), (512, .inl (f_aload 0, 513)), (513, .inl (f_iload 5, 515)), (515, .inl (f_ci (1), 516)), (516, .inl (f_iadd, 517)), (517, .inr (.inr (.inl (0, 518, 0, m0)))), (518, .inl (f_aload 0, 519)), (519, .inl (f_iload 5, 521)), (521, .inl (f_ci (2), 522)), (522, .inl (f_iadd, 523)), (523, .inr (.inr (.inl (0, 524, 0, m0)))), (524, .inr (.inr (.inl (13, 527, 3, mX7_faultCurrent)))), (527, .inl (f_dstore 10 7, 529)), (529, .inl (f_aload 2, 530)), (530, .inr (.inr (.inl (13, 533, 1, mX7_thrown)))), (533, .inl (f_iload 6, 535)), (535, .inr (.inl (b_icmp_eq, 540, 538))), (538, .inl (f_ci (0), 539)), (539, .inr (.inr (.inl (15, 540, 0, m0)))), (540, .inl (f_iload 6, 542)), (542, .inr (.inl (b_if_eq, 545, 577))), (545, .inl (f_aload 4, 547)), (547, .inl (f_ci (0), 548)), (548, .inr (.inr (.inl (1, 549, 0, m0)))), (549, .inl (f_dload 7, 551)), (551, .inl (f_dcmpl, 552)), (552, .inr (.inl (b_if_eq, 577, 555))), (555, .inl (f_aload 4, 557)), (557, .inl (f_ci (0), 558)), (558, .inr (.inr (.inl (1, 559, 0, m0)))), (559, .inl (f_aload 4, 561)), (561, .inl (f_ci (0), 562)), (562, .inr (.inr (.inl (1, 563, 0, m0)))), (563, .inl (f_dcmpl, 564)), (564, .inr (.inl (b_if_eq, 575, 567))), (567, .inl (f_dload 7, 569)), (569, .inl (f_dload 7, 571)), (571, .inl (f_dcmpl, 572)), (572, .inr (.inl (b_if_eq, 575, 577))), (575, .inl (f_ci (0), 576)), (576, .inr (.inr (.inl (15, 577, 0, m0)))), (577, .inl (f_id, 1931))]
set_option maxRecDepth 10000 in
theorem kL_law_c4 {X : Ctx} (h : sCx X mL_law) : tab X mL_law tL_law_c4 :=
  tab_cons (eS (st_aloadn h rfl dL_law_491)) (
  tab_cons (eS (st_aloadn h rfl dL_law_492)) (
  tab_cons (eS (st_iload h dL_law_493)) (
  tab_cons (eS (st_iconst h (by decide +kernel) dL_law_495)) (
  tab_cons (eS (st_iadd h dL_law_496)) (
  tab_cons (eO (so_iaload h dL_law_497)) (
  tab_cons (eS (st_aloadn h rfl dL_law_498)) (
  tab_cons (eS (st_iload h dL_law_499)) (
  tab_cons (eS (st_iconst h (by decide +kernel) dL_law_501)) (
  tab_cons (eS (st_iadd h dL_law_502)) (
  tab_cons (eO (so_iaload h dL_law_503)) (
  tab_cons (eS (st_aload h dL_law_504)) (
  tab_cons (eS (st_istore h dL_law_509)) (
  tab_cons (eS (st_aloadn h rfl dL_law_511)) (
  tab_cons (eS (st_aloadn h rfl dL_law_512)) (
  tab_cons (eS (st_iload h dL_law_513)) (
  tab_cons (eS (st_iconst h (by decide +kernel) dL_law_515)) (
  tab_cons (eS (st_iadd h dL_law_516)) (
  tab_cons (eO (so_iaload h dL_law_517)) (
  tab_cons (eS (st_aloadn h rfl dL_law_518)) (
  tab_cons (eS (st_iload h dL_law_519)) (
  tab_cons (eS (st_iconst h (by decide +kernel) dL_law_521)) (
  tab_cons (eS (st_iadd h dL_law_522)) (
  tab_cons (eO (so_iaload h dL_law_523)) (
  tab_cons (eO (so_callV h gl_114 gl_115 gl_116 gw_295 gl_117 ⟨by decide +kernel, by decide +kernel, by decide +kernel, by decide +kernel⟩ ⟨by decide +kernel, by decide +kernel⟩ dL_law_524)) (
  tab_cons (eS (st_dstore h dL_law_527)) (
  tab_cons (eS (st_aloadn h rfl dL_law_529)) (
  tab_cons (eO (so_callV h gl_98 gl_99 gl_100 gw_295 gl_101 ⟨by decide +kernel, by decide +kernel, by decide +kernel, by decide +kernel⟩ ⟨by decide +kernel, by decide +kernel⟩ dL_law_530)) (
  tab_cons (eS (st_iload h dL_law_533)) (
  tab_cons (eB (sb_icmp_eq h dL_law_535 (by decide))) (
  tab_cons (eS (st_iconst h (by decide +kernel) dL_law_538)) (
  tab_cons (eO (so_ireturn h dL_law_539)) (
  tab_cons (eS (st_iload h dL_law_540)) (
  tab_cons (eB (sb_if_ne h dL_law_542 (by decide))) (
  tab_cons (eS (st_aload h dL_law_545)) (
  tab_cons (eS (st_iconst h (by decide +kernel) dL_law_547)) (
  tab_cons (eO (so_daload h dL_law_548)) (
  tab_cons (eS (st_dload h dL_law_549)) (
  tab_cons (eS (st_dcmpl h dL_law_551)) (
  tab_cons (eB (sb_if_eq h dL_law_552 (by decide))) (
  tab_cons (eS (st_aload h dL_law_555)) (
  tab_cons (eS (st_iconst h (by decide +kernel) dL_law_557)) (
  tab_cons (eO (so_daload h dL_law_558)) (
  tab_cons (eS (st_aload h dL_law_559)) (
  tab_cons (eS (st_iconst h (by decide +kernel) dL_law_561)) (
  tab_cons (eO (so_daload h dL_law_562)) (
  tab_cons (eS (st_dcmpl h dL_law_563)) (
  tab_cons (eB (sb_if_eq h dL_law_564 (by decide))) (
  tab_cons (eS (st_dload h dL_law_567)) (
  tab_cons (eS (st_dload h dL_law_569)) (
  tab_cons (eS (st_dcmpl h dL_law_571)) (
  tab_cons (eB (sb_if_ne h dL_law_572 (by decide))) (
  tab_cons (eS (st_iconst h (by decide +kernel) dL_law_575)) (
  tab_cons (eO (so_ireturn h dL_law_576)) (
  tab_cons (eS (st_goto h dL_law_577 (by decide))) (
  tab_nil)))))))))))))))))))))))))))))))))))))))))))))))))))))))
theorem dL_law_580 : decode cL_law 580 = .ok (.aload_n 1, 1) := by decide +kernel
theorem dL_law_581 : decode cL_law 581 = .ok (.aload_n 0, 1) := by decide +kernel
theorem dL_law_582 : decode cL_law 582 = .ok (.iload 5, 2) := by decide +kernel
theorem dL_law_584 : decode cL_law 584 = .ok (.iconst 1, 1) := by decide +kernel
theorem dL_law_585 : decode cL_law 585 = .ok (.iadd, 1) := by decide +kernel
theorem dL_law_586 : decode cL_law 586 = .ok (.iaload, 1) := by decide +kernel
theorem dL_law_587 : decode cL_law 587 = .ok (.aload_n 0, 1) := by decide +kernel
theorem dL_law_588 : decode cL_law 588 = .ok (.iload 5, 2) := by decide +kernel
theorem dL_law_590 : decode cL_law 590 = .ok (.iconst 2, 1) := by decide +kernel
theorem dL_law_591 : decode cL_law 591 = .ok (.iadd, 1) := by decide +kernel
theorem dL_law_592 : decode cL_law 592 = .ok (.iaload, 1) := by decide +kernel
theorem dL_law_593 : decode cL_law 593 = .ok (.aload_n 0, 1) := by decide +kernel
theorem dL_law_594 : decode cL_law 594 = .ok (.iload 5, 2) := by decide +kernel
theorem dL_law_596 : decode cL_law 596 = .ok (.iconst 3, 1) := by decide +kernel
theorem dL_law_597 : decode cL_law 597 = .ok (.iadd, 1) := by decide +kernel
theorem dL_law_598 : decode cL_law 598 = .ok (.iaload, 1) := by decide +kernel
theorem dL_law_599 : decode cL_law 599 = .ok (.aload_n 0, 1) := by decide +kernel
theorem dL_law_600 : decode cL_law 600 = .ok (.iload 5, 2) := by decide +kernel
theorem dL_law_602 : decode cL_law 602 = .ok (.iconst 4, 1) := by decide +kernel
theorem dL_law_603 : decode cL_law 603 = .ok (.iadd, 1) := by decide +kernel
theorem dL_law_604 : decode cL_law 604 = .ok (.iaload, 1) := by decide +kernel
theorem dL_law_605 : decode cL_law 605 = .ok (.aload_n 3, 1) := by decide +kernel
theorem dL_law_606 : decode cL_law 606 = .ok (.invokestatic 124, 3) := by decide +kernel
theorem dL_law_609 : decode cL_law 609 = .ok (.istore 6, 2) := by decide +kernel
theorem dL_law_611 : decode cL_law 611 = .ok (.aload_n 2, 1) := by decide +kernel
theorem dL_law_612 : decode cL_law 612 = .ok (.aload_n 0, 1) := by decide +kernel
theorem dL_law_613 : decode cL_law 613 = .ok (.iload 5, 2) := by decide +kernel
theorem dL_law_615 : decode cL_law 615 = .ok (.iconst 1, 1) := by decide +kernel
theorem dL_law_616 : decode cL_law 616 = .ok (.iadd, 1) := by decide +kernel
theorem dL_law_617 : decode cL_law 617 = .ok (.iaload, 1) := by decide +kernel
theorem dL_law_618 : decode cL_law 618 = .ok (.aload_n 0, 1) := by decide +kernel
theorem dL_law_619 : decode cL_law 619 = .ok (.iload 5, 2) := by decide +kernel
theorem dL_law_621 : decode cL_law 621 = .ok (.iconst 2, 1) := by decide +kernel
theorem dL_law_622 : decode cL_law 622 = .ok (.iadd, 1) := by decide +kernel
theorem dL_law_623 : decode cL_law 623 = .ok (.iaload, 1) := by decide +kernel
theorem dL_law_624 : decode cL_law 624 = .ok (.aload_n 0, 1) := by decide +kernel
theorem dL_law_625 : decode cL_law 625 = .ok (.iload 5, 2) := by decide +kernel
theorem dL_law_627 : decode cL_law 627 = .ok (.iconst 3, 1) := by decide +kernel
theorem dL_law_628 : decode cL_law 628 = .ok (.iadd, 1) := by decide +kernel
theorem dL_law_629 : decode cL_law 629 = .ok (.iaload, 1) := by decide +kernel
theorem dL_law_630 : decode cL_law 630 = .ok (.aload_n 0, 1) := by decide +kernel
theorem dL_law_631 : decode cL_law 631 = .ok (.iload 5, 2) := by decide +kernel
theorem dL_law_633 : decode cL_law 633 = .ok (.iconst 4, 1) := by decide +kernel
theorem dL_law_634 : decode cL_law 634 = .ok (.iadd, 1) := by decide +kernel
theorem dL_law_635 : decode cL_law 635 = .ok (.iaload, 1) := by decide +kernel
theorem dL_law_636 : decode cL_law 636 = .ok (.invokevirtual 127, 3) := by decide +kernel
theorem dL_law_639 : decode cL_law 639 = .ok (.istore 7, 2) := by decide +kernel
theorem dL_law_641 : decode cL_law 641 = .ok (.aload_n 2, 1) := by decide +kernel
theorem dL_law_642 : decode cL_law 642 = .ok (.invokevirtual 105, 3) := by decide +kernel
theorem dL_law_645 : decode cL_law 645 = .ok (.iload 6, 2) := by decide +kernel
theorem dL_law_647 : decode cL_law 647 = .ok (.if_icmp .eq 5, 3) := by decide +kernel
theorem dL_law_650 : decode cL_law 650 = .ok (.iconst 0, 1) := by decide +kernel
theorem dL_law_651 : decode cL_law 651 = .ok (.ireturn, 1) := by decide +kernel
theorem dL_law_652 : decode cL_law 652 = .ok (.iload 6, 2) := by decide +kernel
theorem dL_law_654 : decode cL_law 654 = .ok (.ifCond .ne 15, 3) := by decide +kernel
theorem dL_law_657 : decode cL_law 657 = .ok (.aload_n 3, 1) := by decide +kernel
theorem dL_law_658 : decode cL_law 658 = .ok (.iconst 0, 1) := by decide +kernel
theorem dL_law_659 : decode cL_law 659 = .ok (.laload, 1) := by decide +kernel
theorem dL_law_660 : decode cL_law 660 = .ok (.iload 7, 2) := by decide +kernel
theorem dL_law_662 : decode cL_law 662 = .ok (.i2l, 1) := by decide +kernel
theorem dL_law_663 : decode cL_law 663 = .ok (.lcmp, 1) := by decide +kernel
theorem dL_law_664 : decode cL_law 664 = .ok (.ifCond .eq 5, 3) := by decide +kernel
theorem dL_law_667 : decode cL_law 667 = .ok (.iconst 0, 1) := by decide +kernel
theorem dL_law_668 : decode cL_law 668 = .ok (.ireturn, 1) := by decide +kernel
theorem dL_law_669 : decode cL_law 669 = .ok (.goto 1262, 3) := by decide +kernel
def tL_law_c5 : Tb := [(580, .inl (f_aload 1, 581)), (581, .inl (f_aload 0, 582)), (582, .inl (f_iload 5, 584)), (584, .inl (f_ci (1), 585)), (585, .inl (f_iadd, 586)), (586, .inr (.inr (.inl (0, 587, 0, m0)))), (587, .inl (f_aload 0, 588)), (588, .inl (f_iload 5, 590)), (590, .inl (f_ci (2), 591)), (591, .inl (f_iadd, 592)), (592, .inr (.inr (.inl (0, 593, 0, m0)))), (593, .inl (f_aload 0, 594)), (594, .inl (f_iload 5, 596)), (596, .inl (f_ci (3), 597)), (597, .inl (f_iadd, 598)), (598, .inr (.inr (.inl (0, 599, 0, m0)))), (599, .inl (f_aload 0, 600)), (600, .inl (f_iload 5, 602)), (602, .inl (f_ci (4), 603)), (603, .inl (f_iadd, 604)), (604, .inr (.inr (.inl (0, 605, 0, m0)))), (605, .inl (f_aload 3, 606)), (609, .inl (f_istore 10 6, 611)), (611, .inl (f_aload 2, 612)), (612, .inl (f_aload 0, 613)), (613, .inl (f_iload 5, 615)), (615, .inl (f_ci (1), 616)), (616, .inl (f_iadd, 617)), (617, .inr (.inr (.inl (0, 618, 0, m0)))), (618, .inl (f_aload 0, 619)), (619, .inl (f_iload 5, 621)), (621, .inl (f_ci (2), 622)), (622, .inl (f_iadd, 623)), (623, .inr (.inr (.inl (0, 624, 0, m0)))), (624, .inl (f_aload 0, 625)), (625, .inl (f_iload 5, 627)), (627, .inl (f_ci (3), 628)), (628, .inl (f_iadd, 629)), (629, .inr (.inr (.inl (0, 630, 0, m0)))), (630, .inl (f_aload 0, 631)), (631, .inl (f_iload 5, 633)), (633, .inl (f_ci (4), 634)), (634, .inl (f_iadd, 635)), (635, .inr (.inr (.inl (0, 636, 0, m0)))), (636, .inr (.inr (.inl (13, 639, 5, mX7_setRelay)))), (639, .inl (f_istore 10 7, 641)), (641, .inl (f_aload 2, 642)), (642, .inr (.inr (.inl (13, 645, 1, mX7_thrown)))), (645, .inl (f_iload 6, 647)), (647, .inr (.inl (b_icmp_eq, 652, 650))), (650, .inl (f_ci (0), 651)), (651, .inr (.inr (.inl (15, 652, 0, m0)))), (652, .inl (f_iload 6, 654)), (654, .inr (.inl (b_if_eq, 657, 669))), (657, .inl (f_aload 3, 658)), (658, .inl (f_ci (0), 659)), (659, .inr (.inr (.inl (2, 660, 0, m0)))), (660, .inl (f_iload 7, 662)), (662, .inl (f_i2l, 663)), (663, .inl (f_lcmp, 664)), (664, .inr (.inl (b_if_eq, 669, 667))), (667, .inl (f_ci (0), 668)), (668, .inr (.inr (.inl (15, 669, 0, m0)))), (669, .inl (f_id, 1931))]
set_option maxRecDepth 10000 in
theorem kL_law_c5 {X : Ctx} (h : sCx X mL_law) : tab X mL_law tL_law_c5 :=
  tab_cons (eS (st_aloadn h rfl dL_law_580)) (
  tab_cons (eS (st_aloadn h rfl dL_law_581)) (
  tab_cons (eS (st_iload h dL_law_582)) (
  tab_cons (eS (st_iconst h (by decide +kernel) dL_law_584)) (
  tab_cons (eS (st_iadd h dL_law_585)) (
  tab_cons (eO (so_iaload h dL_law_586)) (
  tab_cons (eS (st_aloadn h rfl dL_law_587)) (
  tab_cons (eS (st_iload h dL_law_588)) (
  tab_cons (eS (st_iconst h (by decide +kernel) dL_law_590)) (
  tab_cons (eS (st_iadd h dL_law_591)) (
  tab_cons (eO (so_iaload h dL_law_592)) (
  tab_cons (eS (st_aloadn h rfl dL_law_593)) (
  tab_cons (eS (st_iload h dL_law_594)) (
  tab_cons (eS (st_iconst h (by decide +kernel) dL_law_596)) (
  tab_cons (eS (st_iadd h dL_law_597)) (
  tab_cons (eO (so_iaload h dL_law_598)) (
  tab_cons (eS (st_aloadn h rfl dL_law_599)) (
  tab_cons (eS (st_iload h dL_law_600)) (
  tab_cons (eS (st_iconst h (by decide +kernel) dL_law_602)) (
  tab_cons (eS (st_iadd h dL_law_603)) (
  tab_cons (eO (so_iaload h dL_law_604)) (
  tab_cons (eS (st_aloadn h rfl dL_law_605)) (
  tab_cons (eS (st_istore h dL_law_609)) (
  tab_cons (eS (st_aloadn h rfl dL_law_611)) (
  tab_cons (eS (st_aloadn h rfl dL_law_612)) (
  tab_cons (eS (st_iload h dL_law_613)) (
  tab_cons (eS (st_iconst h (by decide +kernel) dL_law_615)) (
  tab_cons (eS (st_iadd h dL_law_616)) (
  tab_cons (eO (so_iaload h dL_law_617)) (
  tab_cons (eS (st_aloadn h rfl dL_law_618)) (
  tab_cons (eS (st_iload h dL_law_619)) (
  tab_cons (eS (st_iconst h (by decide +kernel) dL_law_621)) (
  tab_cons (eS (st_iadd h dL_law_622)) (
  tab_cons (eO (so_iaload h dL_law_623)) (
  tab_cons (eS (st_aloadn h rfl dL_law_624)) (
  tab_cons (eS (st_iload h dL_law_625)) (
  tab_cons (eS (st_iconst h (by decide +kernel) dL_law_627)) (
  tab_cons (eS (st_iadd h dL_law_628)) (
  tab_cons (eO (so_iaload h dL_law_629)) (
  tab_cons (eS (st_aloadn h rfl dL_law_630)) (
  tab_cons (eS (st_iload h dL_law_631)) (
  tab_cons (eS (st_iconst h (by decide +kernel) dL_law_633)) (
  tab_cons (eS (st_iadd h dL_law_634)) (
  tab_cons (eO (so_iaload h dL_law_635)) (
  tab_cons (eO (so_callV h gl_118 gl_119 gl_120 gw_295 gl_121 ⟨by decide +kernel, by decide +kernel, by decide +kernel, by decide +kernel⟩ ⟨by decide +kernel, by decide +kernel⟩ dL_law_636)) (
  tab_cons (eS (st_istore h dL_law_639)) (
  tab_cons (eS (st_aloadn h rfl dL_law_641)) (
  tab_cons (eO (so_callV h gl_98 gl_99 gl_100 gw_295 gl_101 ⟨by decide +kernel, by decide +kernel, by decide +kernel, by decide +kernel⟩ ⟨by decide +kernel, by decide +kernel⟩ dL_law_642)) (
  tab_cons (eS (st_iload h dL_law_645)) (
  tab_cons (eB (sb_icmp_eq h dL_law_647 (by decide))) (
  tab_cons (eS (st_iconst h (by decide +kernel) dL_law_650)) (
  tab_cons (eO (so_ireturn h dL_law_651)) (
  tab_cons (eS (st_iload h dL_law_652)) (
  tab_cons (eB (sb_if_ne h dL_law_654 (by decide))) (
  tab_cons (eS (st_aloadn h rfl dL_law_657)) (
  tab_cons (eS (st_iconst h (by decide +kernel) dL_law_658)) (
  tab_cons (eO (so_laload h dL_law_659)) (
  tab_cons (eS (st_iload h dL_law_660)) (
  tab_cons (eS (st_i2l h dL_law_662)) (
  tab_cons (eS (st_lcmp h dL_law_663)) (
  tab_cons (eB (sb_if_eq h dL_law_664 (by decide))) (
  tab_cons (eS (st_iconst h (by decide +kernel) dL_law_667)) (
  tab_cons (eO (so_ireturn h dL_law_668)) (
  tab_cons (eS (st_goto h dL_law_669 (by decide))) (
  tab_nil))))))))))))))))))))))))))))))))))))))))))))))))))))))))))))))))
theorem dL_law_672 : decode cL_law 672 = .ok (.aload_n 1, 1) := by decide +kernel
theorem dL_law_673 : decode cL_law 673 = .ok (.aload_n 0, 1) := by decide +kernel
theorem dL_law_674 : decode cL_law 674 = .ok (.iload 5, 2) := by decide +kernel
theorem dL_law_676 : decode cL_law 676 = .ok (.iconst 1, 1) := by decide +kernel
theorem dL_law_677 : decode cL_law 677 = .ok (.iadd, 1) := by decide +kernel
theorem dL_law_678 : decode cL_law 678 = .ok (.iaload, 1) := by decide +kernel
theorem dL_law_679 : decode cL_law 679 = .ok (.aload_n 0, 1) := by decide +kernel
theorem dL_law_680 : decode cL_law 680 = .ok (.iload 5, 2) := by decide +kernel
theorem dL_law_682 : decode cL_law 682 = .ok (.iconst 2, 1) := by decide +kernel
theorem dL_law_683 : decode cL_law 683 = .ok (.iadd, 1) := by decide +kernel
theorem dL_law_684 : decode cL_law 684 = .ok (.iaload, 1) := by decide +kernel
theorem dL_law_685 : decode cL_law 685 = .ok (.aload_n 3, 1) := by decide +kernel
theorem dL_law_686 : decode cL_law 686 = .ok (.invokestatic 128, 3) := by decide +kernel
theorem dL_law_689 : decode cL_law 689 = .ok (.istore 6, 2) := by decide +kernel
theorem dL_law_691 : decode cL_law 691 = .ok (.aload_n 2, 1) := by decide +kernel
theorem dL_law_692 : decode cL_law 692 = .ok (.aload_n 0, 1) := by decide +kernel
theorem dL_law_693 : decode cL_law 693 = .ok (.iload 5, 2) := by decide +kernel
theorem dL_law_695 : decode cL_law 695 = .ok (.iconst 1, 1) := by decide +kernel
theorem dL_law_696 : decode cL_law 696 = .ok (.iadd, 1) := by decide +kernel
theorem dL_law_697 : decode cL_law 697 = .ok (.iaload, 1) := by decide +kernel
theorem dL_law_698 : decode cL_law 698 = .ok (.aload_n 0, 1) := by decide +kernel
theorem dL_law_699 : decode cL_law 699 = .ok (.iload 5, 2) := by decide +kernel
theorem dL_law_701 : decode cL_law 701 = .ok (.iconst 2, 1) := by decide +kernel
theorem dL_law_702 : decode cL_law 702 = .ok (.iadd, 1) := by decide +kernel
theorem dL_law_703 : decode cL_law 703 = .ok (.iaload, 1) := by decide +kernel
theorem dL_law_704 : decode cL_law 704 = .ok (.invokevirtual 130, 3) := by decide +kernel
theorem dL_law_707 : decode cL_law 707 = .ok (.istore 7, 2) := by decide +kernel
theorem dL_law_709 : decode cL_law 709 = .ok (.aload_n 2, 1) := by decide +kernel
theorem dL_law_710 : decode cL_law 710 = .ok (.invokevirtual 105, 3) := by decide +kernel
theorem dL_law_713 : decode cL_law 713 = .ok (.iload 6, 2) := by decide +kernel
theorem dL_law_715 : decode cL_law 715 = .ok (.if_icmp .eq 5, 3) := by decide +kernel
theorem dL_law_718 : decode cL_law 718 = .ok (.iconst 0, 1) := by decide +kernel
theorem dL_law_719 : decode cL_law 719 = .ok (.ireturn, 1) := by decide +kernel
theorem dL_law_720 : decode cL_law 720 = .ok (.iload 6, 2) := by decide +kernel
theorem dL_law_722 : decode cL_law 722 = .ok (.ifCond .ne 15, 3) := by decide +kernel
theorem dL_law_725 : decode cL_law 725 = .ok (.aload_n 3, 1) := by decide +kernel
theorem dL_law_726 : decode cL_law 726 = .ok (.iconst 0, 1) := by decide +kernel
theorem dL_law_727 : decode cL_law 727 = .ok (.laload, 1) := by decide +kernel
theorem dL_law_728 : decode cL_law 728 = .ok (.iload 7, 2) := by decide +kernel
theorem dL_law_730 : decode cL_law 730 = .ok (.i2l, 1) := by decide +kernel
theorem dL_law_731 : decode cL_law 731 = .ok (.lcmp, 1) := by decide +kernel
theorem dL_law_732 : decode cL_law 732 = .ok (.ifCond .eq 5, 3) := by decide +kernel
theorem dL_law_735 : decode cL_law 735 = .ok (.iconst 0, 1) := by decide +kernel
theorem dL_law_736 : decode cL_law 736 = .ok (.ireturn, 1) := by decide +kernel
theorem dL_law_737 : decode cL_law 737 = .ok (.goto 1194, 3) := by decide +kernel
def tL_law_c6 : Tb := [(672, .inl (f_aload 1, 673)), (673, .inl (f_aload 0, 674)), (674, .inl (f_iload 5, 676)), (676, .inl (f_ci (1), 677)), (677, .inl (f_iadd, 678)), (678, .inr (.inr (.inl (0, 679, 0, m0)))), (679, .inl (f_aload 0, 680)), (680, .inl (f_iload 5, 682)), (682, .inl (f_ci (2), 683)), (683, .inl (f_iadd, 684)), (684, .inr (.inr (.inl (0, 685, 0, m0)))), (685, .inl (f_aload 3, 686)), (689, .inl (f_istore 10 6, 691)), (691, .inl (f_aload 2, 692)), (692, .inl (f_aload 0, 693)), (693, .inl (f_iload 5, 695)), (695, .inl (f_ci (1), 696)), (696, .inl (f_iadd, 697)), (697, .inr (.inr (.inl (0, 698, 0, m0)))), (698, .inl (f_aload 0, 699)), (699, .inl (f_iload 5, 701)), (701, .inl (f_ci (2), 702)), (702, .inl (f_iadd, 703)), (703, .inr (.inr (.inl (0, 704, 0, m0)))), (704, .inr (.inr (.inl (13, 707, 3, mX7_setInstantaneous)))), (707, .inl (f_istore 10 7, 709)), (709, .inl (f_aload 2, 710)), (710, .inr (.inr (.inl (13, 713, 1, mX7_thrown)))), (713, .inl (f_iload 6, 715)), (715, .inr (.inl (b_icmp_eq, 720, 718))), (718, .inl (f_ci (0), 719)), (719, .inr (.inr (.inl (15, 720, 0, m0)))), (720, .inl (f_iload 6, 722)), (722, .inr (.inl (b_if_eq, 725, 737))), (725, .inl (f_aload 3, 726)), (726, .inl (f_ci (0), 727)), (727, .inr (.inr (.inl (2, 728, 0, m0)))), (728, .inl (f_iload 7, 730)), (730, .inl (f_i2l, 731)), (731, .inl (f_lcmp, 732)), (732, .inr (.inl (b_if_eq, 737, 735))), (735, .inl (f_ci (0), 736)), (736, .inr (.inr (.inl (15, 737, 0, m0)))), (737, .inl (f_id, 1931))]
set_option maxRecDepth 10000 in
theorem kL_law_c6 {X : Ctx} (h : sCx X mL_law) : tab X mL_law tL_law_c6 :=
  tab_cons (eS (st_aloadn h rfl dL_law_672)) (
  tab_cons (eS (st_aloadn h rfl dL_law_673)) (
  tab_cons (eS (st_iload h dL_law_674)) (
  tab_cons (eS (st_iconst h (by decide +kernel) dL_law_676)) (
  tab_cons (eS (st_iadd h dL_law_677)) (
  tab_cons (eO (so_iaload h dL_law_678)) (
  tab_cons (eS (st_aloadn h rfl dL_law_679)) (
  tab_cons (eS (st_iload h dL_law_680)) (
  tab_cons (eS (st_iconst h (by decide +kernel) dL_law_682)) (
  tab_cons (eS (st_iadd h dL_law_683)) (
  tab_cons (eO (so_iaload h dL_law_684)) (
  tab_cons (eS (st_aloadn h rfl dL_law_685)) (
  tab_cons (eS (st_istore h dL_law_689)) (
  tab_cons (eS (st_aloadn h rfl dL_law_691)) (
  tab_cons (eS (st_aloadn h rfl dL_law_692)) (
  tab_cons (eS (st_iload h dL_law_693)) (
  tab_cons (eS (st_iconst h (by decide +kernel) dL_law_695)) (
  tab_cons (eS (st_iadd h dL_law_696)) (
  tab_cons (eO (so_iaload h dL_law_697)) (
  tab_cons (eS (st_aloadn h rfl dL_law_698)) (
  tab_cons (eS (st_iload h dL_law_699)) (
  tab_cons (eS (st_iconst h (by decide +kernel) dL_law_701)) (
  tab_cons (eS (st_iadd h dL_law_702)) (
  tab_cons (eO (so_iaload h dL_law_703)) (
  tab_cons (eO (so_callV h gl_122 gl_123 gl_124 gw_295 gl_125 ⟨by decide +kernel, by decide +kernel, by decide +kernel, by decide +kernel⟩ ⟨by decide +kernel, by decide +kernel⟩ dL_law_704)) (
  tab_cons (eS (st_istore h dL_law_707)) (
  tab_cons (eS (st_aloadn h rfl dL_law_709)) (
  tab_cons (eO (so_callV h gl_98 gl_99 gl_100 gw_295 gl_101 ⟨by decide +kernel, by decide +kernel, by decide +kernel, by decide +kernel⟩ ⟨by decide +kernel, by decide +kernel⟩ dL_law_710)) (
  tab_cons (eS (st_iload h dL_law_713)) (
  tab_cons (eB (sb_icmp_eq h dL_law_715 (by decide))) (
  tab_cons (eS (st_iconst h (by decide +kernel) dL_law_718)) (
  tab_cons (eO (so_ireturn h dL_law_719)) (
  tab_cons (eS (st_iload h dL_law_720)) (
  tab_cons (eB (sb_if_ne h dL_law_722 (by decide))) (
  tab_cons (eS (st_aloadn h rfl dL_law_725)) (
  tab_cons (eS (st_iconst h (by decide +kernel) dL_law_726)) (
  tab_cons (eO (so_laload h dL_law_727)) (
  tab_cons (eS (st_iload h dL_law_728)) (
  tab_cons (eS (st_i2l h dL_law_730)) (
  tab_cons (eS (st_lcmp h dL_law_731)) (
  tab_cons (eB (sb_if_eq h dL_law_732 (by decide))) (
  tab_cons (eS (st_iconst h (by decide +kernel) dL_law_735)) (
  tab_cons (eO (so_ireturn h dL_law_736)) (
  tab_cons (eS (st_goto h dL_law_737 (by decide))) (
  tab_nil))))))))))))))))))))))))))))))))))))))))))))
theorem dL_law_740 : decode cL_law 740 = .ok (.aload_n 1, 1) := by decide +kernel
theorem dL_law_741 : decode cL_law 741 = .ok (.aload_n 0, 1) := by decide +kernel
theorem dL_law_742 : decode cL_law 742 = .ok (.iload 5, 2) := by decide +kernel
theorem dL_law_744 : decode cL_law 744 = .ok (.iconst 1, 1) := by decide +kernel
theorem dL_law_745 : decode cL_law 745 = .ok (.iadd, 1) := by decide +kernel
theorem dL_law_746 : decode cL_law 746 = .ok (.iaload, 1) := by decide +kernel
theorem dL_law_747 : decode cL_law 747 = .ok (.aload_n 0, 1) := by decide +kernel
theorem dL_law_748 : decode cL_law 748 = .ok (.iload 5, 2) := by decide +kernel
theorem dL_law_750 : decode cL_law 750 = .ok (.iconst 2, 1) := by decide +kernel
theorem dL_law_751 : decode cL_law 751 = .ok (.iadd, 1) := by decide +kernel
theorem dL_law_752 : decode cL_law 752 = .ok (.iaload, 1) := by decide +kernel
theorem dL_law_753 : decode cL_law 753 = .ok (.aload_n 3, 1) := by decide +kernel
theorem dL_law_754 : decode cL_law 754 = .ok (.invokestatic 131, 3) := by decide +kernel
theorem dL_law_757 : decode cL_law 757 = .ok (.istore 6, 2) := by decide +kernel
theorem dL_law_759 : decode cL_law 759 = .ok (.aload_n 2, 1) := by decide +kernel
theorem dL_law_760 : decode cL_law 760 = .ok (.aload_n 0, 1) := by decide +kernel
theorem dL_law_761 : decode cL_law 761 = .ok (.iload 5, 2) := by decide +kernel
theorem dL_law_763 : decode cL_law 763 = .ok (.iconst 1, 1) := by decide +kernel
theorem dL_law_764 : decode cL_law 764 = .ok (.iadd, 1) := by decide +kernel
theorem dL_law_765 : decode cL_law 765 = .ok (.iaload, 1) := by decide +kernel
theorem dL_law_766 : decode cL_law 766 = .ok (.aload_n 0, 1) := by decide +kernel
theorem dL_law_767 : decode cL_law 767 = .ok (.iload 5, 2) := by decide +kernel
theorem dL_law_769 : decode cL_law 769 = .ok (.iconst 2, 1) := by decide +kernel
theorem dL_law_770 : decode cL_law 770 = .ok (.iadd, 1) := by decide +kernel
theorem dL_law_771 : decode cL_law 771 = .ok (.iaload, 1) := by decide +kernel
theorem dL_law_772 : decode cL_law 772 = .ok (.invokevirtual 133, 3) := by decide +kernel
theorem dL_law_775 : decode cL_law 775 = .ok (.istore 7, 2) := by decide +kernel
theorem dL_law_777 : decode cL_law 777 = .ok (.aload_n 2, 1) := by decide +kernel
theorem dL_law_778 : decode cL_law 778 = .ok (.invokevirtual 105, 3) := by decide +kernel
theorem dL_law_781 : decode cL_law 781 = .ok (.iload 6, 2) := by decide +kernel
theorem dL_law_783 : decode cL_law 783 = .ok (.if_icmp .eq 5, 3) := by decide +kernel
theorem dL_law_786 : decode cL_law 786 = .ok (.iconst 0, 1) := by decide +kernel
theorem dL_law_787 : decode cL_law 787 = .ok (.ireturn, 1) := by decide +kernel
theorem dL_law_788 : decode cL_law 788 = .ok (.iload 6, 2) := by decide +kernel
theorem dL_law_790 : decode cL_law 790 = .ok (.ifCond .ne 15, 3) := by decide +kernel
theorem dL_law_793 : decode cL_law 793 = .ok (.aload_n 3, 1) := by decide +kernel
theorem dL_law_794 : decode cL_law 794 = .ok (.iconst 0, 1) := by decide +kernel
theorem dL_law_795 : decode cL_law 795 = .ok (.laload, 1) := by decide +kernel
theorem dL_law_796 : decode cL_law 796 = .ok (.iload 7, 2) := by decide +kernel
theorem dL_law_798 : decode cL_law 798 = .ok (.i2l, 1) := by decide +kernel
theorem dL_law_799 : decode cL_law 799 = .ok (.lcmp, 1) := by decide +kernel
theorem dL_law_800 : decode cL_law 800 = .ok (.ifCond .eq 5, 3) := by decide +kernel
theorem dL_law_803 : decode cL_law 803 = .ok (.iconst 0, 1) := by decide +kernel
theorem dL_law_804 : decode cL_law 804 = .ok (.ireturn, 1) := by decide +kernel
theorem dL_law_805 : decode cL_law 805 = .ok (.goto 1126, 3) := by decide +kernel
def tL_law_c7 : Tb := [(740, .inl (f_aload 1, 741)), (741, .inl (f_aload 0, 742)), (742, .inl (f_iload 5, 744)), (744, .inl (f_ci (1), 745)), (745, .inl (f_iadd, 746)), (746, .inr (.inr (.inl (0, 747, 0, m0)))), (747, .inl (f_aload 0, 748)), (748, .inl (f_iload 5, 750)), (750, .inl (f_ci (2), 751)), (751, .inl (f_iadd, 752)), (752, .inr (.inr (.inl (0, 753, 0, m0)))), (753, .inl (f_aload 3, 754)), (757, .inl (f_istore 10 6, 759)), (759, .inl (f_aload 2, 760)), (760, .inl (f_aload 0, 761)), (761, .inl (f_iload 5, 763)), (763, .inl (f_ci (1), 764)), (764, .inl (f_iadd, 765)), (765, .inr (.inr (.inl (0, 766, 0, m0)))), (766, .inl (f_aload 0, 767)), (767, .inl (f_iload 5, 769)), (769, .inl (f_ci (2), 770)), (770, .inl (f_iadd, 771)), (771, .inr (.inr (.inl (0, 772, 0, m0)))), (772, .inr (.inr (.inl (13, 775, 3, mX7_setShots)))), (775, .inl (f_istore 10 7, 777)), (777, .inl (f_aload 2, 778)), (778, .inr (.inr (.inl (13, 781, 1, mX7_thrown)))), (781, .inl (f_iload 6, 783)), (783, .inr (.inl (b_icmp_eq, 788, 786))), (786, .inl (f_ci (0), 787)), (787, .inr (.inr (.inl (15, 788, 0, m0)))), (788, .inl (f_iload 6, 790)), (790, .inr (.inl (b_if_eq, 793, 805))), (793, .inl (f_aload 3, 794)), (794, .inl (f_ci (0), 795)), (795, .inr (.inr (.inl (2, 796, 0, m0)))), (796, .inl (f_iload 7, 798)), (798, .inl (f_i2l, 799)), (799, .inl (f_lcmp, 800)), (800, .inr (.inl (b_if_eq, 805, 803))), (803, .inl (f_ci (0), 804)), (804, .inr (.inr (.inl (15, 805, 0, m0)))), (805, .inl (f_id, 1931))]
set_option maxRecDepth 10000 in
theorem kL_law_c7 {X : Ctx} (h : sCx X mL_law) : tab X mL_law tL_law_c7 :=
  tab_cons (eS (st_aloadn h rfl dL_law_740)) (
  tab_cons (eS (st_aloadn h rfl dL_law_741)) (
  tab_cons (eS (st_iload h dL_law_742)) (
  tab_cons (eS (st_iconst h (by decide +kernel) dL_law_744)) (
  tab_cons (eS (st_iadd h dL_law_745)) (
  tab_cons (eO (so_iaload h dL_law_746)) (
  tab_cons (eS (st_aloadn h rfl dL_law_747)) (
  tab_cons (eS (st_iload h dL_law_748)) (
  tab_cons (eS (st_iconst h (by decide +kernel) dL_law_750)) (
  tab_cons (eS (st_iadd h dL_law_751)) (
  tab_cons (eO (so_iaload h dL_law_752)) (
  tab_cons (eS (st_aloadn h rfl dL_law_753)) (
  tab_cons (eS (st_istore h dL_law_757)) (
  tab_cons (eS (st_aloadn h rfl dL_law_759)) (
  tab_cons (eS (st_aloadn h rfl dL_law_760)) (
  tab_cons (eS (st_iload h dL_law_761)) (
  tab_cons (eS (st_iconst h (by decide +kernel) dL_law_763)) (
  tab_cons (eS (st_iadd h dL_law_764)) (
  tab_cons (eO (so_iaload h dL_law_765)) (
  tab_cons (eS (st_aloadn h rfl dL_law_766)) (
  tab_cons (eS (st_iload h dL_law_767)) (
  tab_cons (eS (st_iconst h (by decide +kernel) dL_law_769)) (
  tab_cons (eS (st_iadd h dL_law_770)) (
  tab_cons (eO (so_iaload h dL_law_771)) (
  tab_cons (eO (so_callV h gl_126 gl_127 gl_128 gw_295 gl_129 ⟨by decide +kernel, by decide +kernel, by decide +kernel, by decide +kernel⟩ ⟨by decide +kernel, by decide +kernel⟩ dL_law_772)) (
  tab_cons (eS (st_istore h dL_law_775)) (
  tab_cons (eS (st_aloadn h rfl dL_law_777)) (
  tab_cons (eO (so_callV h gl_98 gl_99 gl_100 gw_295 gl_101 ⟨by decide +kernel, by decide +kernel, by decide +kernel, by decide +kernel⟩ ⟨by decide +kernel, by decide +kernel⟩ dL_law_778)) (
  tab_cons (eS (st_iload h dL_law_781)) (
  tab_cons (eB (sb_icmp_eq h dL_law_783 (by decide))) (
  tab_cons (eS (st_iconst h (by decide +kernel) dL_law_786)) (
  tab_cons (eO (so_ireturn h dL_law_787)) (
  tab_cons (eS (st_iload h dL_law_788)) (
  tab_cons (eB (sb_if_ne h dL_law_790 (by decide))) (
  tab_cons (eS (st_aloadn h rfl dL_law_793)) (
  tab_cons (eS (st_iconst h (by decide +kernel) dL_law_794)) (
  tab_cons (eO (so_laload h dL_law_795)) (
  tab_cons (eS (st_iload h dL_law_796)) (
  tab_cons (eS (st_i2l h dL_law_798)) (
  tab_cons (eS (st_lcmp h dL_law_799)) (
  tab_cons (eB (sb_if_eq h dL_law_800 (by decide))) (
  tab_cons (eS (st_iconst h (by decide +kernel) dL_law_803)) (
  tab_cons (eO (so_ireturn h dL_law_804)) (
  tab_cons (eS (st_goto h dL_law_805 (by decide))) (
  tab_nil))))))))))))))))))))))))))))))))))))))))))))
theorem dL_law_808 : decode cL_law 808 = .ok (.aload_n 1, 1) := by decide +kernel
theorem dL_law_809 : decode cL_law 809 = .ok (.aload_n 0, 1) := by decide +kernel
theorem dL_law_810 : decode cL_law 810 = .ok (.iload 5, 2) := by decide +kernel
theorem dL_law_812 : decode cL_law 812 = .ok (.iconst 1, 1) := by decide +kernel
theorem dL_law_813 : decode cL_law 813 = .ok (.iadd, 1) := by decide +kernel
theorem dL_law_814 : decode cL_law 814 = .ok (.iaload, 1) := by decide +kernel
theorem dL_law_815 : decode cL_law 815 = .ok (.aload_n 0, 1) := by decide +kernel
theorem dL_law_816 : decode cL_law 816 = .ok (.iload 5, 2) := by decide +kernel
theorem dL_law_818 : decode cL_law 818 = .ok (.iconst 2, 1) := by decide +kernel
theorem dL_law_819 : decode cL_law 819 = .ok (.iadd, 1) := by decide +kernel
theorem dL_law_820 : decode cL_law 820 = .ok (.iaload, 1) := by decide +kernel
theorem dL_law_821 : decode cL_law 821 = .ok (.ifCond .eq 7, 3) := by decide +kernel
theorem dL_law_824 : decode cL_law 824 = .ok (.iconst 1, 1) := by decide +kernel
theorem dL_law_825 : decode cL_law 825 = .ok (.goto 4, 3) := by decide +kernel
theorem dL_law_828 : decode cL_law 828 = .ok (.iconst 0, 1) := by decide +kernel
theorem dL_law_829 : decode cL_law 829 = .ok (.aload_n 3, 1) := by decide +kernel
theorem dL_law_830 : decode cL_law 830 = .ok (.invokestatic 134, 3) := by decide +kernel
theorem dL_law_833 : decode cL_law 833 = .ok (.istore 6, 2) := by decide +kernel
theorem dL_law_835 : decode cL_law 835 = .ok (.aload_n 2, 1) := by decide +kernel
theorem dL_law_836 : decode cL_law 836 = .ok (.aload_n 0, 1) := by decide +kernel
theorem dL_law_837 : decode cL_law 837 = .ok (.iload 5, 2) := by decide +kernel
theorem dL_law_839 : decode cL_law 839 = .ok (.iconst 1, 1) := by decide +kernel
theorem dL_law_840 : decode cL_law 840 = .ok (.iadd, 1) := by decide +kernel
theorem dL_law_841 : decode cL_law 841 = .ok (.iaload, 1) := by decide +kernel
theorem dL_law_842 : decode cL_law 842 = .ok (.aload_n 0, 1) := by decide +kernel
theorem dL_law_843 : decode cL_law 843 = .ok (.iload 5, 2) := by decide +kernel
theorem dL_law_845 : decode cL_law 845 = .ok (.iconst 2, 1) := by decide +kernel
theorem dL_law_846 : decode cL_law 846 = .ok (.iadd, 1) := by decide +kernel
theorem dL_law_847 : decode cL_law 847 = .ok (.iaload, 1) := by decide +kernel
theorem dL_law_848 : decode cL_law 848 = .ok (.ifCond .eq 7, 3) := by decide +kernel
theorem dL_law_851 : decode cL_law 851 = .ok (.iconst 1, 1) := by decide +kernel
theorem dL_law_852 : decode cL_law 852 = .ok (.goto 4, 3) := by decide +kernel
theorem dL_law_855 : decode cL_law 855 = .ok (.iconst 0, 1) := by decide +kernel
theorem dL_law_856 : decode cL_law 856 = .ok (.invokevirtual 137, 3) := by decide +kernel
theorem dL_law_859 : decode cL_law 859 = .ok (.istore 7, 2) := by decide +kernel
theorem dL_law_861 : decode cL_law 861 = .ok (.aload_n 2, 1) := by decide +kernel
theorem dL_law_862 : decode cL_law 862 = .ok (.invokevirtual 105, 3) := by decide +kernel
theorem dL_law_865 : decode cL_law 865 = .ok (.iload 6, 2) := by decide +kernel
theorem dL_law_867 : decode cL_law 867 = .ok (.if_icmp .eq 5, 3) := by decide +kernel
theorem dL_law_870 : decode cL_law 870 = .ok (.iconst 0, 1) := by decide +kernel
theorem dL_law_871 : decode cL_law 871 = .ok (.ireturn, 1) := by decide +kernel
theorem dL_law_872 : decode cL_law 872 = .ok (.iload 6, 2) := by decide +kernel
theorem dL_law_874 : decode cL_law 874 = .ok (.ifCond .ne 22, 3) := by decide +kernel
theorem dL_law_877 : decode cL_law 877 = .ok (.aload_n 3, 1) := by decide +kernel
theorem dL_law_878 : decode cL_law 878 = .ok (.iconst 0, 1) := by decide +kernel
theorem dL_law_879 : decode cL_law 879 = .ok (.laload, 1) := by decide +kernel
theorem dL_law_880 : decode cL_law 880 = .ok (.iload 7, 2) := by decide +kernel
theorem dL_law_882 : decode cL_law 882 = .ok (.ifCond .eq 7, 3) := by decide +kernel
theorem dL_law_885 : decode cL_law 885 = .ok (.lconst 1, 1) := by decide +kernel
theorem dL_law_886 : decode cL_law 886 = .ok (.goto 4, 3) := by decide +kernel
theorem dL_law_889 : decode cL_law 889 = .ok (.lconst 0, 1) := by decide +kernel
theorem dL_law_890 : decode cL_law 890 = .ok (.lcmp, 1) := by decide +kernel
theorem dL_law_891 : decode cL_law 891 = .ok (.ifCond .eq 5, 3) := by decide +kernel
theorem dL_law_894 : decode cL_law 894 = .ok (.iconst 0, 1) := by decide +kernel
theorem dL_law_895 : decode cL_law 895 = .ok (.ireturn, 1) := by decide +kernel
theorem dL_law_896 : decode cL_law 896 = .ok (.goto 1035, 3) := by decide +kernel
def tL_law_c8 : Tb := [(808, .inl (f_aload 1, 809)), (809, .inl (f_aload 0, 810)), (810, .inl (f_iload 5, 812)), (812, .inl (f_ci (1), 813)), (813, .inl (f_iadd, 814)), (814, .inr (.inr (.inl (0, 815, 0, m0)))), (815, .inl (f_aload 0, 816)), (816, .inl (f_iload 5, 818)), (818, .inl (f_ci (2), 819)), (819, .inl (f_iadd, 820)), (820, .inr (.inr (.inl (0, 821, 0, m0)))), (821, .inr (.inl (b_if_eq, 828, 824))), (824, .inl (f_ci (1), 825)), (825, .inl (f_id, 829)), (828, .inl (f_ci (0), 829)), (829, .inl (f_aload 3, 830)), (833, .inl (f_istore 10 6, 835)), (835, .inl (f_aload 2, 836)), (836, .inl (f_aload 0, 837)), (837, .inl (f_iload 5, 839)), (839, .inl (f_ci (1), 840)), (840, .inl (f_iadd, 841)), (841, .inr (.inr (.inl (0, 842, 0, m0)))), (842, .inl (f_aload 0, 843)), (843, .inl (f_iload 5, 845)), (845, .inl (f_ci (2), 846)), (846, .inl (f_iadd, 847)), (847, .inr (.inr (.inl (0, 848, 0, m0)))), (848, .inr (.inl (b_if_eq, 855, 851))), (851, .inl (f_ci (1), 852)), (852, .inl (f_id, 856)), (855, .inl (f_ci (0), 856)), (856, .inr (.inr (.inl (13, 859, 3, mX7_setStuck)))), (859, .inl (f_istore 10 7, 861)), (861, .inl (f_aload 2, 862)), (862, .inr (.inr (.inl (13, 865, 1, mX7_thrown)))), (865, .inl (f_iload 6, 867)), (867, .inr (.inl (b_icmp_eq, 872, 870))), (870, .inl (f_ci (0), 871)), (871, .inr (.inr (.inl (15, 872, 0, m0)))), (872, .inl (f_iload 6, 874)), (874, .inr (.inl (b_if_eq, 877, 896))), (877, .inl (f_aload 3, 878)), (878, .inl (f_ci (0), 879)), (879, .inr (.inr (.inl (2, 880, 0, m0)))), (880, .inl (f_iload 7, 882)), (882, .inr (.inl (b_if_eq, 889, 885))), (885, .inl (f_cl 1, 886)), (886, .inl (f_id, 890)), (889, .inl (f_cl 0, 890)), (890, .inl (f_lcmp, 891)), (891, .inr (.inl (b_if_eq, 896, 894))), (894, .inl (f_ci (0), 895)), (895, .inr (.inr (.inl (15, 896, 0, m0)))), (896, .inl (f_id, 1931))]
set_option maxRecDepth 10000 in
theorem kL_law_c8 {X : Ctx} (h : sCx X mL_law) : tab X mL_law tL_law_c8 :=
  tab_cons (eS (st_aloadn h rfl dL_law_808)) (
  tab_cons (eS (st_aloadn h rfl dL_law_809)) (
  tab_cons (eS (st_iload h dL_law_810)) (
  tab_cons (eS (st_iconst h (by decide +kernel) dL_law_812)) (
  tab_cons (eS (st_iadd h dL_law_813)) (
  tab_cons (eO (so_iaload h dL_law_814)) (
  tab_cons (eS (st_aloadn h rfl dL_law_815)) (
  tab_cons (eS (st_iload h dL_law_816)) (
  tab_cons (eS (st_iconst h (by decide +kernel) dL_law_818)) (
  tab_cons (eS (st_iadd h dL_law_819)) (
  tab_cons (eO (so_iaload h dL_law_820)) (
  tab_cons (eB (sb_if_eq h dL_law_821 (by decide))) (
  tab_cons (eS (st_iconst h (by decide +kernel) dL_law_824)) (
  tab_cons (eS (st_goto h dL_law_825 (by decide))) (
  tab_cons (eS (st_iconst h (by decide +kernel) dL_law_828)) (
  tab_cons (eS (st_aloadn h rfl dL_law_829)) (
  tab_cons (eS (st_istore h dL_law_833)) (
  tab_cons (eS (st_aloadn h rfl dL_law_835)) (
  tab_cons (eS (st_aloadn h rfl dL_law_836)) (
  tab_cons (eS (st_iload h dL_law_837)) (
  tab_cons (eS (st_iconst h (by decide +kernel) dL_law_839)) (
  tab_cons (eS (st_iadd h dL_law_840)) (
  tab_cons (eO (so_iaload h dL_law_841)) (
  tab_cons (eS (st_aloadn h rfl dL_law_842)) (
  tab_cons (eS (st_iload h dL_law_843)) (
  tab_cons (eS (st_iconst h (by decide +kernel) dL_law_845)) (
  tab_cons (eS (st_iadd h dL_law_846)) (
  tab_cons (eO (so_iaload h dL_law_847)) (
  tab_cons (eB (sb_if_eq h dL_law_848 (by decide))) (
  tab_cons (eS (st_iconst h (by decide +kernel) dL_law_851)) (
  tab_cons (eS (st_goto h dL_law_852 (by decide))) (
  tab_cons (eS (st_iconst h (by decide +kernel) dL_law_855)) (
  tab_cons (eO (so_callV h gl_130 gl_131 gl_132 gw_295 gl_133 ⟨by decide +kernel, by decide +kernel, by decide +kernel, by decide +kernel⟩ ⟨by decide +kernel, by decide +kernel⟩ dL_law_856)) (
  tab_cons (eS (st_istore h dL_law_859)) (
  tab_cons (eS (st_aloadn h rfl dL_law_861)) (
  tab_cons (eO (so_callV h gl_98 gl_99 gl_100 gw_295 gl_101 ⟨by decide +kernel, by decide +kernel, by decide +kernel, by decide +kernel⟩ ⟨by decide +kernel, by decide +kernel⟩ dL_law_862)) (
  tab_cons (eS (st_iload h dL_law_865)) (
  tab_cons (eB (sb_icmp_eq h dL_law_867 (by decide))) (
  tab_cons (eS (st_iconst h (by decide +kernel) dL_law_870)) (
  tab_cons (eO (so_ireturn h dL_law_871)) (
  tab_cons (eS (st_iload h dL_law_872)) (
  tab_cons (eB (sb_if_ne h dL_law_874 (by decide))) (
  tab_cons (eS (st_aloadn h rfl dL_law_877)) (
  tab_cons (eS (st_iconst h (by decide +kernel) dL_law_878)) (
  tab_cons (eO (so_laload h dL_law_879)) (
  tab_cons (eS (st_iload h dL_law_880)) (
  tab_cons (eB (sb_if_eq h dL_law_882 (by decide))) (
  tab_cons (eS (st_lconst h (by decide +kernel) dL_law_885)) (
  tab_cons (eS (st_goto h dL_law_886 (by decide))) (
  tab_cons (eS (st_lconst h (by decide +kernel) dL_law_889)) (
  tab_cons (eS (st_lcmp h dL_law_890)) (
  tab_cons (eB (sb_if_eq h dL_law_891 (by decide))) (
  tab_cons (eS (st_iconst h (by decide +kernel) dL_law_894)) (
  tab_cons (eO (so_ireturn h dL_law_895)) (
  tab_cons (eS (st_goto h dL_law_896 (by decide))) (
  tab_nil)))))))))))))))))))))))))))))))))))))))))))))))))))))))
