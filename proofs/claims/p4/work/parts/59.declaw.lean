/-- the rows of a code, all at once -/
def dk (c : ByteArray) (l : List (Nat × Instr × Nat)) : Bool := l.all fun r => decide (decode c r.1 = .ok (r.2.1, r.2.2))
theorem dk_at {c : ByteArray} {l : List (Nat × Instr × Nat)} {r : Nat × Instr × Nat} (h : dk c l = true) (i : Nat) (hi : l[i]? = some r) : decode c r.1 = .ok (r.2.1, r.2.2) := of_decide_eq_true (List.all_eq_true.mp h r (List.mem_of_getElem? hi))
theorem dg_cL_law_0 : dk cL_law [(0, .new 8, 3), (3, .dup, 1), (4, .invokespecial 177, 3), (7, .astore_n 1, 1), (8, .new 178, 3), (11, .dup, 1), (12, .invokespecial 180, 3), (15, .astore_n 2, 1), (16, .new 14, 3), (19, .dup, 1), (20, .invokespecial 181, 3), (23, .astore_n 3, 1), (24, .iconst 0, 1), (25, .istore 4, 2), (27, .iload 4, 2), (29, .aload_n 0, 1), (30, .arraylength, 1), (31, .iconst 5, 1), (32, .isub, 1), (33, .if_icmp .gt 2414, 3), (36, .aload_n 0, 1), (37, .iload 4, 2), (39, .iaload, 1), (40, .bipush 63, 2), (42, .iand, 1), (43, .tableswitch 2398 0 51 #[221, 285, 325, 394, 434, 474, 526, 566, 606, 674, 742, 810, 878, 946, 1014, 1054, 1094, 1134, 1162, 1190, 1218, 1246, 1274, 1299, 1339, 1367, 1395, 1423, 1463, 1503, 1531, 1571, 1611, 1679, 1707, 1735, 1799, 1839, 1879, 1919, 1971, 2023, 2075, 2115, 2143, 2211, 2251, 2291, 2331, 2344, 2372, 2385], 221), (264, .aload_n 1, 1), (265, .aload_n 0, 1), (266, .iload 4, 2), (268, .iconst 1, 1), (269, .iadd, 1), (270, .iaload, 1)] = true := by decide +kernel
theorem dL_law_0 : decode cL_law 0 = .ok (.new 8, 3) := dk_at (r := (0, .new 8, 3)) dg_cL_law_0 0 rfl
theorem dL_law_3 : decode cL_law 3 = .ok (.dup, 1) := dk_at (r := (3, .dup, 1)) dg_cL_law_0 1 rfl
theorem dL_law_4 : decode cL_law 4 = .ok (.invokespecial 177, 3) := dk_at (r := (4, .invokespecial 177, 3)) dg_cL_law_0 2 rfl
theorem dL_law_7 : decode cL_law 7 = .ok (.astore_n 1, 1) := dk_at (r := (7, .astore_n 1, 1)) dg_cL_law_0 3 rfl
theorem dL_law_8 : decode cL_law 8 = .ok (.new 178, 3) := dk_at (r := (8, .new 178, 3)) dg_cL_law_0 4 rfl
theorem dL_law_11 : decode cL_law 11 = .ok (.dup, 1) := dk_at (r := (11, .dup, 1)) dg_cL_law_0 5 rfl
theorem dL_law_12 : decode cL_law 12 = .ok (.invokespecial 180, 3) := dk_at (r := (12, .invokespecial 180, 3)) dg_cL_law_0 6 rfl
theorem dL_law_15 : decode cL_law 15 = .ok (.astore_n 2, 1) := dk_at (r := (15, .astore_n 2, 1)) dg_cL_law_0 7 rfl
theorem dL_law_16 : decode cL_law 16 = .ok (.new 14, 3) := dk_at (r := (16, .new 14, 3)) dg_cL_law_0 8 rfl
theorem dL_law_19 : decode cL_law 19 = .ok (.dup, 1) := dk_at (r := (19, .dup, 1)) dg_cL_law_0 9 rfl
theorem dL_law_20 : decode cL_law 20 = .ok (.invokespecial 181, 3) := dk_at (r := (20, .invokespecial 181, 3)) dg_cL_law_0 10 rfl
theorem dL_law_23 : decode cL_law 23 = .ok (.astore_n 3, 1) := dk_at (r := (23, .astore_n 3, 1)) dg_cL_law_0 11 rfl
theorem dL_law_24 : decode cL_law 24 = .ok (.iconst 0, 1) := dk_at (r := (24, .iconst 0, 1)) dg_cL_law_0 12 rfl
theorem dL_law_25 : decode cL_law 25 = .ok (.istore 4, 2) := dk_at (r := (25, .istore 4, 2)) dg_cL_law_0 13 rfl
theorem dL_law_27 : decode cL_law 27 = .ok (.iload 4, 2) := dk_at (r := (27, .iload 4, 2)) dg_cL_law_0 14 rfl
theorem dL_law_29 : decode cL_law 29 = .ok (.aload_n 0, 1) := dk_at (r := (29, .aload_n 0, 1)) dg_cL_law_0 15 rfl
theorem dL_law_30 : decode cL_law 30 = .ok (.arraylength, 1) := dk_at (r := (30, .arraylength, 1)) dg_cL_law_0 16 rfl
theorem dL_law_31 : decode cL_law 31 = .ok (.iconst 5, 1) := dk_at (r := (31, .iconst 5, 1)) dg_cL_law_0 17 rfl
theorem dL_law_32 : decode cL_law 32 = .ok (.isub, 1) := dk_at (r := (32, .isub, 1)) dg_cL_law_0 18 rfl
theorem dL_law_33 : decode cL_law 33 = .ok (.if_icmp .gt 2414, 3) := dk_at (r := (33, .if_icmp .gt 2414, 3)) dg_cL_law_0 19 rfl
theorem dL_law_36 : decode cL_law 36 = .ok (.aload_n 0, 1) := dk_at (r := (36, .aload_n 0, 1)) dg_cL_law_0 20 rfl
theorem dL_law_37 : decode cL_law 37 = .ok (.iload 4, 2) := dk_at (r := (37, .iload 4, 2)) dg_cL_law_0 21 rfl
theorem dL_law_39 : decode cL_law 39 = .ok (.iaload, 1) := dk_at (r := (39, .iaload, 1)) dg_cL_law_0 22 rfl
theorem dL_law_40 : decode cL_law 40 = .ok (.bipush 63, 2) := dk_at (r := (40, .bipush 63, 2)) dg_cL_law_0 23 rfl
theorem dL_law_42 : decode cL_law 42 = .ok (.iand, 1) := dk_at (r := (42, .iand, 1)) dg_cL_law_0 24 rfl
theorem dL_law_43 : decode cL_law 43 = .ok (.tableswitch 2398 0 51 #[221, 285, 325, 394, 434, 474, 526, 566, 606, 674, 742, 810, 878, 946, 1014, 1054, 1094, 1134, 1162, 1190, 1218, 1246, 1274, 1299, 1339, 1367, 1395, 1423, 1463, 1503, 1531, 1571, 1611, 1679, 1707, 1735, 1799, 1839, 1879, 1919, 1971, 2023, 2075, 2115, 2143, 2211, 2251, 2291, 2331, 2344, 2372, 2385], 221) := dk_at (r := (43, .tableswitch 2398 0 51 #[221, 285, 325, 394, 434, 474, 526, 566, 606, 674, 742, 810, 878, 946, 1014, 1054, 1094, 1134, 1162, 1190, 1218, 1246, 1274, 1299, 1339, 1367, 1395, 1423, 1463, 1503, 1531, 1571, 1611, 1679, 1707, 1735, 1799, 1839, 1879, 1919, 1971, 2023, 2075, 2115, 2143, 2211, 2251, 2291, 2331, 2344, 2372, 2385], 221)) dg_cL_law_0 25 rfl
theorem dL_law_264 : decode cL_law 264 = .ok (.aload_n 1, 1) := dk_at (r := (264, .aload_n 1, 1)) dg_cL_law_0 26 rfl
theorem dL_law_265 : decode cL_law 265 = .ok (.aload_n 0, 1) := dk_at (r := (265, .aload_n 0, 1)) dg_cL_law_0 27 rfl
theorem dL_law_266 : decode cL_law 266 = .ok (.iload 4, 2) := dk_at (r := (266, .iload 4, 2)) dg_cL_law_0 28 rfl
theorem dL_law_268 : decode cL_law 268 = .ok (.iconst 1, 1) := dk_at (r := (268, .iconst 1, 1)) dg_cL_law_0 29 rfl
theorem dL_law_269 : decode cL_law 269 = .ok (.iadd, 1) := dk_at (r := (269, .iadd, 1)) dg_cL_law_0 30 rfl
theorem dL_law_270 : decode cL_law 270 = .ok (.iaload, 1) := dk_at (r := (270, .iaload, 1)) dg_cL_law_0 31 rfl
theorem dg_cL_law_1 : dk cL_law [(271, .aload_n 0, 1), (272, .iload 4, 2), (274, .iconst 2, 1), (275, .iadd, 1), (276, .iaload, 1), (277, .aload_n 0, 1), (278, .iload 4, 2), (280, .iconst 3, 1), (281, .iadd, 1), (282, .iaload, 1), (283, .aload_n 0, 1), (284, .iload 4, 2), (286, .iconst 4, 1), (287, .iadd, 1), (288, .iaload, 1), (289, .aload_n 3, 1), (290, .invokestatic 182, 3), (293, .istore 5, 2), (295, .aload_n 2, 1), (296, .aload_n 0, 1), (297, .iload 4, 2), (299, .iconst 1, 1), (300, .iadd, 1), (301, .iaload, 1), (302, .aload_n 0, 1), (303, .iload 4, 2), (305, .iconst 2, 1), (306, .iadd, 1), (307, .iaload, 1), (308, .aload_n 0, 1), (309, .iload 4, 2), (311, .iconst 3, 1)] = true := by decide +kernel
theorem dL_law_271 : decode cL_law 271 = .ok (.aload_n 0, 1) := dk_at (r := (271, .aload_n 0, 1)) dg_cL_law_1 0 rfl
theorem dL_law_272 : decode cL_law 272 = .ok (.iload 4, 2) := dk_at (r := (272, .iload 4, 2)) dg_cL_law_1 1 rfl
theorem dL_law_274 : decode cL_law 274 = .ok (.iconst 2, 1) := dk_at (r := (274, .iconst 2, 1)) dg_cL_law_1 2 rfl
theorem dL_law_275 : decode cL_law 275 = .ok (.iadd, 1) := dk_at (r := (275, .iadd, 1)) dg_cL_law_1 3 rfl
theorem dL_law_276 : decode cL_law 276 = .ok (.iaload, 1) := dk_at (r := (276, .iaload, 1)) dg_cL_law_1 4 rfl
theorem dL_law_277 : decode cL_law 277 = .ok (.aload_n 0, 1) := dk_at (r := (277, .aload_n 0, 1)) dg_cL_law_1 5 rfl
theorem dL_law_278 : decode cL_law 278 = .ok (.iload 4, 2) := dk_at (r := (278, .iload 4, 2)) dg_cL_law_1 6 rfl
theorem dL_law_280 : decode cL_law 280 = .ok (.iconst 3, 1) := dk_at (r := (280, .iconst 3, 1)) dg_cL_law_1 7 rfl
theorem dL_law_281 : decode cL_law 281 = .ok (.iadd, 1) := dk_at (r := (281, .iadd, 1)) dg_cL_law_1 8 rfl
theorem dL_law_282 : decode cL_law 282 = .ok (.iaload, 1) := dk_at (r := (282, .iaload, 1)) dg_cL_law_1 9 rfl
theorem dL_law_283 : decode cL_law 283 = .ok (.aload_n 0, 1) := dk_at (r := (283, .aload_n 0, 1)) dg_cL_law_1 10 rfl
theorem dL_law_284 : decode cL_law 284 = .ok (.iload 4, 2) := dk_at (r := (284, .iload 4, 2)) dg_cL_law_1 11 rfl
theorem dL_law_286 : decode cL_law 286 = .ok (.iconst 4, 1) := dk_at (r := (286, .iconst 4, 1)) dg_cL_law_1 12 rfl
theorem dL_law_287 : decode cL_law 287 = .ok (.iadd, 1) := dk_at (r := (287, .iadd, 1)) dg_cL_law_1 13 rfl
theorem dL_law_288 : decode cL_law 288 = .ok (.iaload, 1) := dk_at (r := (288, .iaload, 1)) dg_cL_law_1 14 rfl
theorem dL_law_289 : decode cL_law 289 = .ok (.aload_n 3, 1) := dk_at (r := (289, .aload_n 3, 1)) dg_cL_law_1 15 rfl
theorem dL_law_290 : decode cL_law 290 = .ok (.invokestatic 182, 3) := dk_at (r := (290, .invokestatic 182, 3)) dg_cL_law_1 16 rfl
theorem dL_law_293 : decode cL_law 293 = .ok (.istore 5, 2) := dk_at (r := (293, .istore 5, 2)) dg_cL_law_1 17 rfl
theorem dL_law_295 : decode cL_law 295 = .ok (.aload_n 2, 1) := dk_at (r := (295, .aload_n 2, 1)) dg_cL_law_1 18 rfl
theorem dL_law_296 : decode cL_law 296 = .ok (.aload_n 0, 1) := dk_at (r := (296, .aload_n 0, 1)) dg_cL_law_1 19 rfl
theorem dL_law_297 : decode cL_law 297 = .ok (.iload 4, 2) := dk_at (r := (297, .iload 4, 2)) dg_cL_law_1 20 rfl
theorem dL_law_299 : decode cL_law 299 = .ok (.iconst 1, 1) := dk_at (r := (299, .iconst 1, 1)) dg_cL_law_1 21 rfl
theorem dL_law_300 : decode cL_law 300 = .ok (.iadd, 1) := dk_at (r := (300, .iadd, 1)) dg_cL_law_1 22 rfl
theorem dL_law_301 : decode cL_law 301 = .ok (.iaload, 1) := dk_at (r := (301, .iaload, 1)) dg_cL_law_1 23 rfl
theorem dL_law_302 : decode cL_law 302 = .ok (.aload_n 0, 1) := dk_at (r := (302, .aload_n 0, 1)) dg_cL_law_1 24 rfl
theorem dL_law_303 : decode cL_law 303 = .ok (.iload 4, 2) := dk_at (r := (303, .iload 4, 2)) dg_cL_law_1 25 rfl
theorem dL_law_305 : decode cL_law 305 = .ok (.iconst 2, 1) := dk_at (r := (305, .iconst 2, 1)) dg_cL_law_1 26 rfl
theorem dL_law_306 : decode cL_law 306 = .ok (.iadd, 1) := dk_at (r := (306, .iadd, 1)) dg_cL_law_1 27 rfl
theorem dL_law_307 : decode cL_law 307 = .ok (.iaload, 1) := dk_at (r := (307, .iaload, 1)) dg_cL_law_1 28 rfl
theorem dL_law_308 : decode cL_law 308 = .ok (.aload_n 0, 1) := dk_at (r := (308, .aload_n 0, 1)) dg_cL_law_1 29 rfl
theorem dL_law_309 : decode cL_law 309 = .ok (.iload 4, 2) := dk_at (r := (309, .iload 4, 2)) dg_cL_law_1 30 rfl
theorem dL_law_311 : decode cL_law 311 = .ok (.iconst 3, 1) := dk_at (r := (311, .iconst 3, 1)) dg_cL_law_1 31 rfl
theorem dg_cL_law_2 : dk cL_law [(312, .iadd, 1), (313, .iaload, 1), (314, .aload_n 0, 1), (315, .iload 4, 2), (317, .iconst 4, 1), (318, .iadd, 1), (319, .iaload, 1), (320, .invokevirtual 187, 3), (323, .istore 6, 2), (325, .goto 2116, 3), (328, .aload_n 1, 1), (329, .aload_n 0, 1), (330, .iload 4, 2), (332, .iconst 1, 1), (333, .iadd, 1), (334, .iaload, 1), (335, .aload_n 0, 1), (336, .iload 4, 2), (338, .iconst 2, 1), (339, .iadd, 1), (340, .iaload, 1), (341, .aload_n 3, 1), (342, .invokestatic 188, 3), (345, .istore 5, 2), (347, .aload_n 2, 1), (348, .aload_n 0, 1), (349, .iload 4, 2), (351, .iconst 1, 1), (352, .iadd, 1), (353, .iaload, 1), (354, .aload_n 0, 1), (355, .iload 4, 2)] = true := by decide +kernel
theorem dL_law_312 : decode cL_law 312 = .ok (.iadd, 1) := dk_at (r := (312, .iadd, 1)) dg_cL_law_2 0 rfl
theorem dL_law_313 : decode cL_law 313 = .ok (.iaload, 1) := dk_at (r := (313, .iaload, 1)) dg_cL_law_2 1 rfl
theorem dL_law_314 : decode cL_law 314 = .ok (.aload_n 0, 1) := dk_at (r := (314, .aload_n 0, 1)) dg_cL_law_2 2 rfl
theorem dL_law_315 : decode cL_law 315 = .ok (.iload 4, 2) := dk_at (r := (315, .iload 4, 2)) dg_cL_law_2 3 rfl
theorem dL_law_317 : decode cL_law 317 = .ok (.iconst 4, 1) := dk_at (r := (317, .iconst 4, 1)) dg_cL_law_2 4 rfl
theorem dL_law_318 : decode cL_law 318 = .ok (.iadd, 1) := dk_at (r := (318, .iadd, 1)) dg_cL_law_2 5 rfl
theorem dL_law_319 : decode cL_law 319 = .ok (.iaload, 1) := dk_at (r := (319, .iaload, 1)) dg_cL_law_2 6 rfl
theorem dL_law_320 : decode cL_law 320 = .ok (.invokevirtual 187, 3) := dk_at (r := (320, .invokevirtual 187, 3)) dg_cL_law_2 7 rfl
theorem dL_law_323 : decode cL_law 323 = .ok (.istore 6, 2) := dk_at (r := (323, .istore 6, 2)) dg_cL_law_2 8 rfl
theorem dL_law_325 : decode cL_law 325 = .ok (.goto 2116, 3) := dk_at (r := (325, .goto 2116, 3)) dg_cL_law_2 9 rfl
theorem dL_law_328 : decode cL_law 328 = .ok (.aload_n 1, 1) := dk_at (r := (328, .aload_n 1, 1)) dg_cL_law_2 10 rfl
theorem dL_law_329 : decode cL_law 329 = .ok (.aload_n 0, 1) := dk_at (r := (329, .aload_n 0, 1)) dg_cL_law_2 11 rfl
theorem dL_law_330 : decode cL_law 330 = .ok (.iload 4, 2) := dk_at (r := (330, .iload 4, 2)) dg_cL_law_2 12 rfl
theorem dL_law_332 : decode cL_law 332 = .ok (.iconst 1, 1) := dk_at (r := (332, .iconst 1, 1)) dg_cL_law_2 13 rfl
theorem dL_law_333 : decode cL_law 333 = .ok (.iadd, 1) := dk_at (r := (333, .iadd, 1)) dg_cL_law_2 14 rfl
theorem dL_law_334 : decode cL_law 334 = .ok (.iaload, 1) := dk_at (r := (334, .iaload, 1)) dg_cL_law_2 15 rfl
theorem dL_law_335 : decode cL_law 335 = .ok (.aload_n 0, 1) := dk_at (r := (335, .aload_n 0, 1)) dg_cL_law_2 16 rfl
theorem dL_law_336 : decode cL_law 336 = .ok (.iload 4, 2) := dk_at (r := (336, .iload 4, 2)) dg_cL_law_2 17 rfl
theorem dL_law_338 : decode cL_law 338 = .ok (.iconst 2, 1) := dk_at (r := (338, .iconst 2, 1)) dg_cL_law_2 18 rfl
theorem dL_law_339 : decode cL_law 339 = .ok (.iadd, 1) := dk_at (r := (339, .iadd, 1)) dg_cL_law_2 19 rfl
theorem dL_law_340 : decode cL_law 340 = .ok (.iaload, 1) := dk_at (r := (340, .iaload, 1)) dg_cL_law_2 20 rfl
theorem dL_law_341 : decode cL_law 341 = .ok (.aload_n 3, 1) := dk_at (r := (341, .aload_n 3, 1)) dg_cL_law_2 21 rfl
theorem dL_law_342 : decode cL_law 342 = .ok (.invokestatic 188, 3) := dk_at (r := (342, .invokestatic 188, 3)) dg_cL_law_2 22 rfl
theorem dL_law_345 : decode cL_law 345 = .ok (.istore 5, 2) := dk_at (r := (345, .istore 5, 2)) dg_cL_law_2 23 rfl
theorem dL_law_347 : decode cL_law 347 = .ok (.aload_n 2, 1) := dk_at (r := (347, .aload_n 2, 1)) dg_cL_law_2 24 rfl
theorem dL_law_348 : decode cL_law 348 = .ok (.aload_n 0, 1) := dk_at (r := (348, .aload_n 0, 1)) dg_cL_law_2 25 rfl
theorem dL_law_349 : decode cL_law 349 = .ok (.iload 4, 2) := dk_at (r := (349, .iload 4, 2)) dg_cL_law_2 26 rfl
theorem dL_law_351 : decode cL_law 351 = .ok (.iconst 1, 1) := dk_at (r := (351, .iconst 1, 1)) dg_cL_law_2 27 rfl
theorem dL_law_352 : decode cL_law 352 = .ok (.iadd, 1) := dk_at (r := (352, .iadd, 1)) dg_cL_law_2 28 rfl
theorem dL_law_353 : decode cL_law 353 = .ok (.iaload, 1) := dk_at (r := (353, .iaload, 1)) dg_cL_law_2 29 rfl
theorem dL_law_354 : decode cL_law 354 = .ok (.aload_n 0, 1) := dk_at (r := (354, .aload_n 0, 1)) dg_cL_law_2 30 rfl
theorem dL_law_355 : decode cL_law 355 = .ok (.iload 4, 2) := dk_at (r := (355, .iload 4, 2)) dg_cL_law_2 31 rfl
theorem dg_cL_law_3 : dk cL_law [(357, .iconst 2, 1), (358, .iadd, 1), (359, .iaload, 1), (360, .invokevirtual 191, 3), (363, .istore 6, 2), (365, .goto 2076, 3), (368, .aload_n 1, 1), (369, .aload_n 0, 1), (370, .iload 4, 2), (372, .iconst 1, 1), (373, .iadd, 1), (374, .iaload, 1), (375, .aload_n 0, 1), (376, .iload 4, 2), (378, .iconst 2, 1), (379, .iadd, 1), (380, .iaload, 1), (381, .aload_n 3, 1), (382, .invokestatic 192, 3), (385, .istore 5, 2), (387, .aload_n 2, 1), (388, .aload_n 0, 1), (389, .iload 4, 2), (391, .iconst 1, 1), (392, .iadd, 1), (393, .iaload, 1), (394, .aload_n 0, 1), (395, .iload 4, 2), (397, .iconst 2, 1), (398, .iadd, 1), (399, .iaload, 1), (400, .invokevirtual 194, 3)] = true := by decide +kernel
theorem dL_law_357 : decode cL_law 357 = .ok (.iconst 2, 1) := dk_at (r := (357, .iconst 2, 1)) dg_cL_law_3 0 rfl
theorem dL_law_358 : decode cL_law 358 = .ok (.iadd, 1) := dk_at (r := (358, .iadd, 1)) dg_cL_law_3 1 rfl
theorem dL_law_359 : decode cL_law 359 = .ok (.iaload, 1) := dk_at (r := (359, .iaload, 1)) dg_cL_law_3 2 rfl
theorem dL_law_360 : decode cL_law 360 = .ok (.invokevirtual 191, 3) := dk_at (r := (360, .invokevirtual 191, 3)) dg_cL_law_3 3 rfl
theorem dL_law_363 : decode cL_law 363 = .ok (.istore 6, 2) := dk_at (r := (363, .istore 6, 2)) dg_cL_law_3 4 rfl
theorem dL_law_365 : decode cL_law 365 = .ok (.goto 2076, 3) := dk_at (r := (365, .goto 2076, 3)) dg_cL_law_3 5 rfl
theorem dL_law_368 : decode cL_law 368 = .ok (.aload_n 1, 1) := dk_at (r := (368, .aload_n 1, 1)) dg_cL_law_3 6 rfl
theorem dL_law_369 : decode cL_law 369 = .ok (.aload_n 0, 1) := dk_at (r := (369, .aload_n 0, 1)) dg_cL_law_3 7 rfl
theorem dL_law_370 : decode cL_law 370 = .ok (.iload 4, 2) := dk_at (r := (370, .iload 4, 2)) dg_cL_law_3 8 rfl
theorem dL_law_372 : decode cL_law 372 = .ok (.iconst 1, 1) := dk_at (r := (372, .iconst 1, 1)) dg_cL_law_3 9 rfl
theorem dL_law_373 : decode cL_law 373 = .ok (.iadd, 1) := dk_at (r := (373, .iadd, 1)) dg_cL_law_3 10 rfl
theorem dL_law_374 : decode cL_law 374 = .ok (.iaload, 1) := dk_at (r := (374, .iaload, 1)) dg_cL_law_3 11 rfl
theorem dL_law_375 : decode cL_law 375 = .ok (.aload_n 0, 1) := dk_at (r := (375, .aload_n 0, 1)) dg_cL_law_3 12 rfl
theorem dL_law_376 : decode cL_law 376 = .ok (.iload 4, 2) := dk_at (r := (376, .iload 4, 2)) dg_cL_law_3 13 rfl
theorem dL_law_378 : decode cL_law 378 = .ok (.iconst 2, 1) := dk_at (r := (378, .iconst 2, 1)) dg_cL_law_3 14 rfl
theorem dL_law_379 : decode cL_law 379 = .ok (.iadd, 1) := dk_at (r := (379, .iadd, 1)) dg_cL_law_3 15 rfl
theorem dL_law_380 : decode cL_law 380 = .ok (.iaload, 1) := dk_at (r := (380, .iaload, 1)) dg_cL_law_3 16 rfl
theorem dL_law_381 : decode cL_law 381 = .ok (.aload_n 3, 1) := dk_at (r := (381, .aload_n 3, 1)) dg_cL_law_3 17 rfl
theorem dL_law_382 : decode cL_law 382 = .ok (.invokestatic 192, 3) := dk_at (r := (382, .invokestatic 192, 3)) dg_cL_law_3 18 rfl
theorem dL_law_385 : decode cL_law 385 = .ok (.istore 5, 2) := dk_at (r := (385, .istore 5, 2)) dg_cL_law_3 19 rfl
theorem dL_law_387 : decode cL_law 387 = .ok (.aload_n 2, 1) := dk_at (r := (387, .aload_n 2, 1)) dg_cL_law_3 20 rfl
theorem dL_law_388 : decode cL_law 388 = .ok (.aload_n 0, 1) := dk_at (r := (388, .aload_n 0, 1)) dg_cL_law_3 21 rfl
theorem dL_law_389 : decode cL_law 389 = .ok (.iload 4, 2) := dk_at (r := (389, .iload 4, 2)) dg_cL_law_3 22 rfl
theorem dL_law_391 : decode cL_law 391 = .ok (.iconst 1, 1) := dk_at (r := (391, .iconst 1, 1)) dg_cL_law_3 23 rfl
theorem dL_law_392 : decode cL_law 392 = .ok (.iadd, 1) := dk_at (r := (392, .iadd, 1)) dg_cL_law_3 24 rfl
theorem dL_law_393 : decode cL_law 393 = .ok (.iaload, 1) := dk_at (r := (393, .iaload, 1)) dg_cL_law_3 25 rfl
theorem dL_law_394 : decode cL_law 394 = .ok (.aload_n 0, 1) := dk_at (r := (394, .aload_n 0, 1)) dg_cL_law_3 26 rfl
theorem dL_law_395 : decode cL_law 395 = .ok (.iload 4, 2) := dk_at (r := (395, .iload 4, 2)) dg_cL_law_3 27 rfl
theorem dL_law_397 : decode cL_law 397 = .ok (.iconst 2, 1) := dk_at (r := (397, .iconst 2, 1)) dg_cL_law_3 28 rfl
theorem dL_law_398 : decode cL_law 398 = .ok (.iadd, 1) := dk_at (r := (398, .iadd, 1)) dg_cL_law_3 29 rfl
theorem dL_law_399 : decode cL_law 399 = .ok (.iaload, 1) := dk_at (r := (399, .iaload, 1)) dg_cL_law_3 30 rfl
theorem dL_law_400 : decode cL_law 400 = .ok (.invokevirtual 194, 3) := dk_at (r := (400, .invokevirtual 194, 3)) dg_cL_law_3 31 rfl
theorem dg_cL_law_4 : dk cL_law [(403, .istore 6, 2), (405, .aload_n 2, 1), (406, .invokevirtual 195, 3), (409, .iload 5, 2), (411, .if_icmp .eq 5, 3), (414, .iconst 0, 1), (415, .ireturn, 1), (416, .iload 5, 2), (418, .ifCond .ne 16, 3), (421, .aload_n 3, 1), (422, .getfield 13, 3), (425, .iload 6, 2), (427, .i2l, 1), (428, .lcmp, 1), (429, .ifCond .eq 5, 3), (432, .iconst 0, 1), (433, .ireturn, 1), (434, .goto 2007, 3), (437, .aload_n 1, 1), (438, .aload_n 0, 1), (439, .iload 4, 2), (441, .iconst 1, 1), (442, .iadd, 1), (443, .iaload, 1), (444, .aload_n 0, 1), (445, .iload 4, 2), (447, .iconst 2, 1), (448, .iadd, 1), (449, .iaload, 1), (450, .aload_n 3, 1), (451, .invokestatic 199, 3), (454, .istore 5, 2)] = true := by decide +kernel
theorem dL_law_403 : decode cL_law 403 = .ok (.istore 6, 2) := dk_at (r := (403, .istore 6, 2)) dg_cL_law_4 0 rfl
theorem dL_law_405 : decode cL_law 405 = .ok (.aload_n 2, 1) := dk_at (r := (405, .aload_n 2, 1)) dg_cL_law_4 1 rfl
theorem dL_law_406 : decode cL_law 406 = .ok (.invokevirtual 195, 3) := dk_at (r := (406, .invokevirtual 195, 3)) dg_cL_law_4 2 rfl
theorem dL_law_409 : decode cL_law 409 = .ok (.iload 5, 2) := dk_at (r := (409, .iload 5, 2)) dg_cL_law_4 3 rfl
theorem dL_law_411 : decode cL_law 411 = .ok (.if_icmp .eq 5, 3) := dk_at (r := (411, .if_icmp .eq 5, 3)) dg_cL_law_4 4 rfl
theorem dL_law_414 : decode cL_law 414 = .ok (.iconst 0, 1) := dk_at (r := (414, .iconst 0, 1)) dg_cL_law_4 5 rfl
theorem dL_law_415 : decode cL_law 415 = .ok (.ireturn, 1) := dk_at (r := (415, .ireturn, 1)) dg_cL_law_4 6 rfl
theorem dL_law_416 : decode cL_law 416 = .ok (.iload 5, 2) := dk_at (r := (416, .iload 5, 2)) dg_cL_law_4 7 rfl
theorem dL_law_418 : decode cL_law 418 = .ok (.ifCond .ne 16, 3) := dk_at (r := (418, .ifCond .ne 16, 3)) dg_cL_law_4 8 rfl
theorem dL_law_421 : decode cL_law 421 = .ok (.aload_n 3, 1) := dk_at (r := (421, .aload_n 3, 1)) dg_cL_law_4 9 rfl
theorem dL_law_422 : decode cL_law 422 = .ok (.getfield 13, 3) := dk_at (r := (422, .getfield 13, 3)) dg_cL_law_4 10 rfl
theorem dL_law_425 : decode cL_law 425 = .ok (.iload 6, 2) := dk_at (r := (425, .iload 6, 2)) dg_cL_law_4 11 rfl
theorem dL_law_427 : decode cL_law 427 = .ok (.i2l, 1) := dk_at (r := (427, .i2l, 1)) dg_cL_law_4 12 rfl
theorem dL_law_428 : decode cL_law 428 = .ok (.lcmp, 1) := dk_at (r := (428, .lcmp, 1)) dg_cL_law_4 13 rfl
theorem dL_law_429 : decode cL_law 429 = .ok (.ifCond .eq 5, 3) := dk_at (r := (429, .ifCond .eq 5, 3)) dg_cL_law_4 14 rfl
theorem dL_law_432 : decode cL_law 432 = .ok (.iconst 0, 1) := dk_at (r := (432, .iconst 0, 1)) dg_cL_law_4 15 rfl
theorem dL_law_433 : decode cL_law 433 = .ok (.ireturn, 1) := dk_at (r := (433, .ireturn, 1)) dg_cL_law_4 16 rfl
theorem dL_law_434 : decode cL_law 434 = .ok (.goto 2007, 3) := dk_at (r := (434, .goto 2007, 3)) dg_cL_law_4 17 rfl
theorem dL_law_437 : decode cL_law 437 = .ok (.aload_n 1, 1) := dk_at (r := (437, .aload_n 1, 1)) dg_cL_law_4 18 rfl
theorem dL_law_438 : decode cL_law 438 = .ok (.aload_n 0, 1) := dk_at (r := (438, .aload_n 0, 1)) dg_cL_law_4 19 rfl
theorem dL_law_439 : decode cL_law 439 = .ok (.iload 4, 2) := dk_at (r := (439, .iload 4, 2)) dg_cL_law_4 20 rfl
theorem dL_law_441 : decode cL_law 441 = .ok (.iconst 1, 1) := dk_at (r := (441, .iconst 1, 1)) dg_cL_law_4 21 rfl
theorem dL_law_442 : decode cL_law 442 = .ok (.iadd, 1) := dk_at (r := (442, .iadd, 1)) dg_cL_law_4 22 rfl
theorem dL_law_443 : decode cL_law 443 = .ok (.iaload, 1) := dk_at (r := (443, .iaload, 1)) dg_cL_law_4 23 rfl
theorem dL_law_444 : decode cL_law 444 = .ok (.aload_n 0, 1) := dk_at (r := (444, .aload_n 0, 1)) dg_cL_law_4 24 rfl
theorem dL_law_445 : decode cL_law 445 = .ok (.iload 4, 2) := dk_at (r := (445, .iload 4, 2)) dg_cL_law_4 25 rfl
theorem dL_law_447 : decode cL_law 447 = .ok (.iconst 2, 1) := dk_at (r := (447, .iconst 2, 1)) dg_cL_law_4 26 rfl
theorem dL_law_448 : decode cL_law 448 = .ok (.iadd, 1) := dk_at (r := (448, .iadd, 1)) dg_cL_law_4 27 rfl
theorem dL_law_449 : decode cL_law 449 = .ok (.iaload, 1) := dk_at (r := (449, .iaload, 1)) dg_cL_law_4 28 rfl
theorem dL_law_450 : decode cL_law 450 = .ok (.aload_n 3, 1) := dk_at (r := (450, .aload_n 3, 1)) dg_cL_law_4 29 rfl
theorem dL_law_451 : decode cL_law 451 = .ok (.invokestatic 199, 3) := dk_at (r := (451, .invokestatic 199, 3)) dg_cL_law_4 30 rfl
theorem dL_law_454 : decode cL_law 454 = .ok (.istore 5, 2) := dk_at (r := (454, .istore 5, 2)) dg_cL_law_4 31 rfl
theorem dg_cL_law_5 : dk cL_law [(456, .aload_n 2, 1), (457, .aload_n 0, 1), (458, .iload 4, 2), (460, .iconst 1, 1), (461, .iadd, 1), (462, .iaload, 1), (463, .aload_n 0, 1), (464, .iload 4, 2), (466, .iconst 2, 1), (467, .iadd, 1), (468, .iaload, 1), (469, .invokevirtual 201, 3), (472, .istore 6, 2), (474, .goto 1967, 3), (477, .aload_n 1, 1), (478, .aload_n 0, 1), (479, .iload 4, 2), (481, .iconst 1, 1), (482, .iadd, 1), (483, .iaload, 1), (484, .aload_n 0, 1), (485, .iload 4, 2), (487, .iconst 2, 1), (488, .iadd, 1), (489, .iaload, 1), (490, .aload_n 3, 1), (491, .invokestatic 202, 3), (494, .istore 5, 2), (496, .aload_n 2, 1), (497, .aload_n 0, 1), (498, .iload 4, 2), (500, .iconst 1, 1)] = true := by decide +kernel
theorem dL_law_456 : decode cL_law 456 = .ok (.aload_n 2, 1) := dk_at (r := (456, .aload_n 2, 1)) dg_cL_law_5 0 rfl
theorem dL_law_457 : decode cL_law 457 = .ok (.aload_n 0, 1) := dk_at (r := (457, .aload_n 0, 1)) dg_cL_law_5 1 rfl
theorem dL_law_458 : decode cL_law 458 = .ok (.iload 4, 2) := dk_at (r := (458, .iload 4, 2)) dg_cL_law_5 2 rfl
theorem dL_law_460 : decode cL_law 460 = .ok (.iconst 1, 1) := dk_at (r := (460, .iconst 1, 1)) dg_cL_law_5 3 rfl
theorem dL_law_461 : decode cL_law 461 = .ok (.iadd, 1) := dk_at (r := (461, .iadd, 1)) dg_cL_law_5 4 rfl
theorem dL_law_462 : decode cL_law 462 = .ok (.iaload, 1) := dk_at (r := (462, .iaload, 1)) dg_cL_law_5 5 rfl
theorem dL_law_463 : decode cL_law 463 = .ok (.aload_n 0, 1) := dk_at (r := (463, .aload_n 0, 1)) dg_cL_law_5 6 rfl
theorem dL_law_464 : decode cL_law 464 = .ok (.iload 4, 2) := dk_at (r := (464, .iload 4, 2)) dg_cL_law_5 7 rfl
theorem dL_law_466 : decode cL_law 466 = .ok (.iconst 2, 1) := dk_at (r := (466, .iconst 2, 1)) dg_cL_law_5 8 rfl
theorem dL_law_467 : decode cL_law 467 = .ok (.iadd, 1) := dk_at (r := (467, .iadd, 1)) dg_cL_law_5 9 rfl
theorem dL_law_468 : decode cL_law 468 = .ok (.iaload, 1) := dk_at (r := (468, .iaload, 1)) dg_cL_law_5 10 rfl
theorem dL_law_469 : decode cL_law 469 = .ok (.invokevirtual 201, 3) := dk_at (r := (469, .invokevirtual 201, 3)) dg_cL_law_5 11 rfl
theorem dL_law_472 : decode cL_law 472 = .ok (.istore 6, 2) := dk_at (r := (472, .istore 6, 2)) dg_cL_law_5 12 rfl
theorem dL_law_474 : decode cL_law 474 = .ok (.goto 1967, 3) := dk_at (r := (474, .goto 1967, 3)) dg_cL_law_5 13 rfl
theorem dL_law_477 : decode cL_law 477 = .ok (.aload_n 1, 1) := dk_at (r := (477, .aload_n 1, 1)) dg_cL_law_5 14 rfl
theorem dL_law_478 : decode cL_law 478 = .ok (.aload_n 0, 1) := dk_at (r := (478, .aload_n 0, 1)) dg_cL_law_5 15 rfl
theorem dL_law_479 : decode cL_law 479 = .ok (.iload 4, 2) := dk_at (r := (479, .iload 4, 2)) dg_cL_law_5 16 rfl
theorem dL_law_481 : decode cL_law 481 = .ok (.iconst 1, 1) := dk_at (r := (481, .iconst 1, 1)) dg_cL_law_5 17 rfl
theorem dL_law_482 : decode cL_law 482 = .ok (.iadd, 1) := dk_at (r := (482, .iadd, 1)) dg_cL_law_5 18 rfl
theorem dL_law_483 : decode cL_law 483 = .ok (.iaload, 1) := dk_at (r := (483, .iaload, 1)) dg_cL_law_5 19 rfl
theorem dL_law_484 : decode cL_law 484 = .ok (.aload_n 0, 1) := dk_at (r := (484, .aload_n 0, 1)) dg_cL_law_5 20 rfl
theorem dL_law_485 : decode cL_law 485 = .ok (.iload 4, 2) := dk_at (r := (485, .iload 4, 2)) dg_cL_law_5 21 rfl
theorem dL_law_487 : decode cL_law 487 = .ok (.iconst 2, 1) := dk_at (r := (487, .iconst 2, 1)) dg_cL_law_5 22 rfl
theorem dL_law_488 : decode cL_law 488 = .ok (.iadd, 1) := dk_at (r := (488, .iadd, 1)) dg_cL_law_5 23 rfl
theorem dL_law_489 : decode cL_law 489 = .ok (.iaload, 1) := dk_at (r := (489, .iaload, 1)) dg_cL_law_5 24 rfl
theorem dL_law_490 : decode cL_law 490 = .ok (.aload_n 3, 1) := dk_at (r := (490, .aload_n 3, 1)) dg_cL_law_5 25 rfl
theorem dL_law_491 : decode cL_law 491 = .ok (.invokestatic 202, 3) := dk_at (r := (491, .invokestatic 202, 3)) dg_cL_law_5 26 rfl
theorem dL_law_494 : decode cL_law 494 = .ok (.istore 5, 2) := dk_at (r := (494, .istore 5, 2)) dg_cL_law_5 27 rfl
theorem dL_law_496 : decode cL_law 496 = .ok (.aload_n 2, 1) := dk_at (r := (496, .aload_n 2, 1)) dg_cL_law_5 28 rfl
theorem dL_law_497 : decode cL_law 497 = .ok (.aload_n 0, 1) := dk_at (r := (497, .aload_n 0, 1)) dg_cL_law_5 29 rfl
theorem dL_law_498 : decode cL_law 498 = .ok (.iload 4, 2) := dk_at (r := (498, .iload 4, 2)) dg_cL_law_5 30 rfl
theorem dL_law_500 : decode cL_law 500 = .ok (.iconst 1, 1) := dk_at (r := (500, .iconst 1, 1)) dg_cL_law_5 31 rfl
theorem dg_cL_law_6 : dk cL_law [(501, .iadd, 1), (502, .iaload, 1), (503, .aload_n 0, 1), (504, .iload 4, 2), (506, .iconst 2, 1), (507, .iadd, 1), (508, .iaload, 1), (509, .invokevirtual 204, 3), (512, .istore 6, 2), (514, .goto 1927, 3), (517, .aload_n 1, 1), (518, .aload_n 0, 1), (519, .iload 4, 2), (521, .iconst 1, 1), (522, .iadd, 1), (523, .iaload, 1), (524, .aload_n 0, 1), (525, .iload 4, 2), (527, .iconst 2, 1), (528, .iadd, 1), (529, .iaload, 1), (530, .aload_n 0, 1), (531, .iload 4, 2), (533, .iconst 3, 1), (534, .iadd, 1), (535, .iaload, 1), (536, .aload_n 3, 1), (537, .invokestatic 205, 3), (540, .istore 5, 2), (542, .aload_n 2, 1), (543, .aload_n 0, 1), (544, .iload 4, 2)] = true := by decide +kernel
theorem dL_law_501 : decode cL_law 501 = .ok (.iadd, 1) := dk_at (r := (501, .iadd, 1)) dg_cL_law_6 0 rfl
theorem dL_law_502 : decode cL_law 502 = .ok (.iaload, 1) := dk_at (r := (502, .iaload, 1)) dg_cL_law_6 1 rfl
theorem dL_law_503 : decode cL_law 503 = .ok (.aload_n 0, 1) := dk_at (r := (503, .aload_n 0, 1)) dg_cL_law_6 2 rfl
theorem dL_law_504 : decode cL_law 504 = .ok (.iload 4, 2) := dk_at (r := (504, .iload 4, 2)) dg_cL_law_6 3 rfl
theorem dL_law_506 : decode cL_law 506 = .ok (.iconst 2, 1) := dk_at (r := (506, .iconst 2, 1)) dg_cL_law_6 4 rfl
theorem dL_law_507 : decode cL_law 507 = .ok (.iadd, 1) := dk_at (r := (507, .iadd, 1)) dg_cL_law_6 5 rfl
theorem dL_law_508 : decode cL_law 508 = .ok (.iaload, 1) := dk_at (r := (508, .iaload, 1)) dg_cL_law_6 6 rfl
theorem dL_law_509 : decode cL_law 509 = .ok (.invokevirtual 204, 3) := dk_at (r := (509, .invokevirtual 204, 3)) dg_cL_law_6 7 rfl
theorem dL_law_512 : decode cL_law 512 = .ok (.istore 6, 2) := dk_at (r := (512, .istore 6, 2)) dg_cL_law_6 8 rfl
theorem dL_law_514 : decode cL_law 514 = .ok (.goto 1927, 3) := dk_at (r := (514, .goto 1927, 3)) dg_cL_law_6 9 rfl
theorem dL_law_517 : decode cL_law 517 = .ok (.aload_n 1, 1) := dk_at (r := (517, .aload_n 1, 1)) dg_cL_law_6 10 rfl
theorem dL_law_518 : decode cL_law 518 = .ok (.aload_n 0, 1) := dk_at (r := (518, .aload_n 0, 1)) dg_cL_law_6 11 rfl
theorem dL_law_519 : decode cL_law 519 = .ok (.iload 4, 2) := dk_at (r := (519, .iload 4, 2)) dg_cL_law_6 12 rfl
theorem dL_law_521 : decode cL_law 521 = .ok (.iconst 1, 1) := dk_at (r := (521, .iconst 1, 1)) dg_cL_law_6 13 rfl
theorem dL_law_522 : decode cL_law 522 = .ok (.iadd, 1) := dk_at (r := (522, .iadd, 1)) dg_cL_law_6 14 rfl
theorem dL_law_523 : decode cL_law 523 = .ok (.iaload, 1) := dk_at (r := (523, .iaload, 1)) dg_cL_law_6 15 rfl
theorem dL_law_524 : decode cL_law 524 = .ok (.aload_n 0, 1) := dk_at (r := (524, .aload_n 0, 1)) dg_cL_law_6 16 rfl
theorem dL_law_525 : decode cL_law 525 = .ok (.iload 4, 2) := dk_at (r := (525, .iload 4, 2)) dg_cL_law_6 17 rfl
theorem dL_law_527 : decode cL_law 527 = .ok (.iconst 2, 1) := dk_at (r := (527, .iconst 2, 1)) dg_cL_law_6 18 rfl
theorem dL_law_528 : decode cL_law 528 = .ok (.iadd, 1) := dk_at (r := (528, .iadd, 1)) dg_cL_law_6 19 rfl
theorem dL_law_529 : decode cL_law 529 = .ok (.iaload, 1) := dk_at (r := (529, .iaload, 1)) dg_cL_law_6 20 rfl
theorem dL_law_530 : decode cL_law 530 = .ok (.aload_n 0, 1) := dk_at (r := (530, .aload_n 0, 1)) dg_cL_law_6 21 rfl
theorem dL_law_531 : decode cL_law 531 = .ok (.iload 4, 2) := dk_at (r := (531, .iload 4, 2)) dg_cL_law_6 22 rfl
theorem dL_law_533 : decode cL_law 533 = .ok (.iconst 3, 1) := dk_at (r := (533, .iconst 3, 1)) dg_cL_law_6 23 rfl
theorem dL_law_534 : decode cL_law 534 = .ok (.iadd, 1) := dk_at (r := (534, .iadd, 1)) dg_cL_law_6 24 rfl
theorem dL_law_535 : decode cL_law 535 = .ok (.iaload, 1) := dk_at (r := (535, .iaload, 1)) dg_cL_law_6 25 rfl
theorem dL_law_536 : decode cL_law 536 = .ok (.aload_n 3, 1) := dk_at (r := (536, .aload_n 3, 1)) dg_cL_law_6 26 rfl
theorem dL_law_537 : decode cL_law 537 = .ok (.invokestatic 205, 3) := dk_at (r := (537, .invokestatic 205, 3)) dg_cL_law_6 27 rfl
theorem dL_law_540 : decode cL_law 540 = .ok (.istore 5, 2) := dk_at (r := (540, .istore 5, 2)) dg_cL_law_6 28 rfl
theorem dL_law_542 : decode cL_law 542 = .ok (.aload_n 2, 1) := dk_at (r := (542, .aload_n 2, 1)) dg_cL_law_6 29 rfl
theorem dL_law_543 : decode cL_law 543 = .ok (.aload_n 0, 1) := dk_at (r := (543, .aload_n 0, 1)) dg_cL_law_6 30 rfl
theorem dL_law_544 : decode cL_law 544 = .ok (.iload 4, 2) := dk_at (r := (544, .iload 4, 2)) dg_cL_law_6 31 rfl
theorem dg_cL_law_7 : dk cL_law [(546, .iconst 1, 1), (547, .iadd, 1), (548, .iaload, 1), (549, .aload_n 0, 1), (550, .iload 4, 2), (552, .iconst 2, 1), (553, .iadd, 1), (554, .iaload, 1), (555, .aload_n 0, 1), (556, .iload 4, 2), (558, .iconst 3, 1), (559, .iadd, 1), (560, .iaload, 1), (561, .invokevirtual 208, 3), (564, .istore 6, 2), (566, .goto 1875, 3), (569, .aload_n 1, 1), (570, .aload_n 0, 1), (571, .iload 4, 2), (573, .iconst 1, 1), (574, .iadd, 1), (575, .iaload, 1), (576, .aload_n 0, 1), (577, .iload 4, 2), (579, .iconst 2, 1), (580, .iadd, 1), (581, .iaload, 1), (582, .aload_n 3, 1), (583, .invokestatic 209, 3), (586, .istore 5, 2), (588, .aload_n 2, 1), (589, .aload_n 0, 1)] = true := by decide +kernel
theorem dL_law_546 : decode cL_law 546 = .ok (.iconst 1, 1) := dk_at (r := (546, .iconst 1, 1)) dg_cL_law_7 0 rfl
theorem dL_law_547 : decode cL_law 547 = .ok (.iadd, 1) := dk_at (r := (547, .iadd, 1)) dg_cL_law_7 1 rfl
theorem dL_law_548 : decode cL_law 548 = .ok (.iaload, 1) := dk_at (r := (548, .iaload, 1)) dg_cL_law_7 2 rfl
theorem dL_law_549 : decode cL_law 549 = .ok (.aload_n 0, 1) := dk_at (r := (549, .aload_n 0, 1)) dg_cL_law_7 3 rfl
theorem dL_law_550 : decode cL_law 550 = .ok (.iload 4, 2) := dk_at (r := (550, .iload 4, 2)) dg_cL_law_7 4 rfl
theorem dL_law_552 : decode cL_law 552 = .ok (.iconst 2, 1) := dk_at (r := (552, .iconst 2, 1)) dg_cL_law_7 5 rfl
theorem dL_law_553 : decode cL_law 553 = .ok (.iadd, 1) := dk_at (r := (553, .iadd, 1)) dg_cL_law_7 6 rfl
theorem dL_law_554 : decode cL_law 554 = .ok (.iaload, 1) := dk_at (r := (554, .iaload, 1)) dg_cL_law_7 7 rfl
theorem dL_law_555 : decode cL_law 555 = .ok (.aload_n 0, 1) := dk_at (r := (555, .aload_n 0, 1)) dg_cL_law_7 8 rfl
theorem dL_law_556 : decode cL_law 556 = .ok (.iload 4, 2) := dk_at (r := (556, .iload 4, 2)) dg_cL_law_7 9 rfl
theorem dL_law_558 : decode cL_law 558 = .ok (.iconst 3, 1) := dk_at (r := (558, .iconst 3, 1)) dg_cL_law_7 10 rfl
theorem dL_law_559 : decode cL_law 559 = .ok (.iadd, 1) := dk_at (r := (559, .iadd, 1)) dg_cL_law_7 11 rfl
theorem dL_law_560 : decode cL_law 560 = .ok (.iaload, 1) := dk_at (r := (560, .iaload, 1)) dg_cL_law_7 12 rfl
theorem dL_law_561 : decode cL_law 561 = .ok (.invokevirtual 208, 3) := dk_at (r := (561, .invokevirtual 208, 3)) dg_cL_law_7 13 rfl
theorem dL_law_564 : decode cL_law 564 = .ok (.istore 6, 2) := dk_at (r := (564, .istore 6, 2)) dg_cL_law_7 14 rfl
theorem dL_law_566 : decode cL_law 566 = .ok (.goto 1875, 3) := dk_at (r := (566, .goto 1875, 3)) dg_cL_law_7 15 rfl
theorem dL_law_569 : decode cL_law 569 = .ok (.aload_n 1, 1) := dk_at (r := (569, .aload_n 1, 1)) dg_cL_law_7 16 rfl
theorem dL_law_570 : decode cL_law 570 = .ok (.aload_n 0, 1) := dk_at (r := (570, .aload_n 0, 1)) dg_cL_law_7 17 rfl
theorem dL_law_571 : decode cL_law 571 = .ok (.iload 4, 2) := dk_at (r := (571, .iload 4, 2)) dg_cL_law_7 18 rfl
theorem dL_law_573 : decode cL_law 573 = .ok (.iconst 1, 1) := dk_at (r := (573, .iconst 1, 1)) dg_cL_law_7 19 rfl
theorem dL_law_574 : decode cL_law 574 = .ok (.iadd, 1) := dk_at (r := (574, .iadd, 1)) dg_cL_law_7 20 rfl
theorem dL_law_575 : decode cL_law 575 = .ok (.iaload, 1) := dk_at (r := (575, .iaload, 1)) dg_cL_law_7 21 rfl
theorem dL_law_576 : decode cL_law 576 = .ok (.aload_n 0, 1) := dk_at (r := (576, .aload_n 0, 1)) dg_cL_law_7 22 rfl
theorem dL_law_577 : decode cL_law 577 = .ok (.iload 4, 2) := dk_at (r := (577, .iload 4, 2)) dg_cL_law_7 23 rfl
theorem dL_law_579 : decode cL_law 579 = .ok (.iconst 2, 1) := dk_at (r := (579, .iconst 2, 1)) dg_cL_law_7 24 rfl
theorem dL_law_580 : decode cL_law 580 = .ok (.iadd, 1) := dk_at (r := (580, .iadd, 1)) dg_cL_law_7 25 rfl
theorem dL_law_581 : decode cL_law 581 = .ok (.iaload, 1) := dk_at (r := (581, .iaload, 1)) dg_cL_law_7 26 rfl
theorem dL_law_582 : decode cL_law 582 = .ok (.aload_n 3, 1) := dk_at (r := (582, .aload_n 3, 1)) dg_cL_law_7 27 rfl
theorem dL_law_583 : decode cL_law 583 = .ok (.invokestatic 209, 3) := dk_at (r := (583, .invokestatic 209, 3)) dg_cL_law_7 28 rfl
theorem dL_law_586 : decode cL_law 586 = .ok (.istore 5, 2) := dk_at (r := (586, .istore 5, 2)) dg_cL_law_7 29 rfl
theorem dL_law_588 : decode cL_law 588 = .ok (.aload_n 2, 1) := dk_at (r := (588, .aload_n 2, 1)) dg_cL_law_7 30 rfl
theorem dL_law_589 : decode cL_law 589 = .ok (.aload_n 0, 1) := dk_at (r := (589, .aload_n 0, 1)) dg_cL_law_7 31 rfl
theorem dg_cL_law_8 : dk cL_law [(590, .iload 4, 2), (592, .iconst 1, 1), (593, .iadd, 1), (594, .iaload, 1), (595, .aload_n 0, 1), (596, .iload 4, 2), (598, .iconst 2, 1), (599, .iadd, 1), (600, .iaload, 1), (601, .invokevirtual 211, 3), (604, .istore 6, 2), (606, .goto 1835, 3), (609, .aload_n 1, 1), (610, .aload_n 0, 1), (611, .iload 4, 2), (613, .iconst 1, 1), (614, .iadd, 1), (615, .iaload, 1), (616, .aload_n 0, 1), (617, .iload 4, 2), (619, .iconst 2, 1), (620, .iadd, 1), (621, .iaload, 1), (622, .aload_n 3, 1), (623, .invokestatic 212, 3), (626, .istore 5, 2), (628, .aload_n 2, 1), (629, .aload_n 0, 1), (630, .iload 4, 2), (632, .iconst 1, 1), (633, .iadd, 1), (634, .iaload, 1)] = true := by decide +kernel
theorem dL_law_590 : decode cL_law 590 = .ok (.iload 4, 2) := dk_at (r := (590, .iload 4, 2)) dg_cL_law_8 0 rfl
theorem dL_law_592 : decode cL_law 592 = .ok (.iconst 1, 1) := dk_at (r := (592, .iconst 1, 1)) dg_cL_law_8 1 rfl
theorem dL_law_593 : decode cL_law 593 = .ok (.iadd, 1) := dk_at (r := (593, .iadd, 1)) dg_cL_law_8 2 rfl
theorem dL_law_594 : decode cL_law 594 = .ok (.iaload, 1) := dk_at (r := (594, .iaload, 1)) dg_cL_law_8 3 rfl
theorem dL_law_595 : decode cL_law 595 = .ok (.aload_n 0, 1) := dk_at (r := (595, .aload_n 0, 1)) dg_cL_law_8 4 rfl
theorem dL_law_596 : decode cL_law 596 = .ok (.iload 4, 2) := dk_at (r := (596, .iload 4, 2)) dg_cL_law_8 5 rfl
theorem dL_law_598 : decode cL_law 598 = .ok (.iconst 2, 1) := dk_at (r := (598, .iconst 2, 1)) dg_cL_law_8 6 rfl
theorem dL_law_599 : decode cL_law 599 = .ok (.iadd, 1) := dk_at (r := (599, .iadd, 1)) dg_cL_law_8 7 rfl
theorem dL_law_600 : decode cL_law 600 = .ok (.iaload, 1) := dk_at (r := (600, .iaload, 1)) dg_cL_law_8 8 rfl
theorem dL_law_601 : decode cL_law 601 = .ok (.invokevirtual 211, 3) := dk_at (r := (601, .invokevirtual 211, 3)) dg_cL_law_8 9 rfl
theorem dL_law_604 : decode cL_law 604 = .ok (.istore 6, 2) := dk_at (r := (604, .istore 6, 2)) dg_cL_law_8 10 rfl
theorem dL_law_606 : decode cL_law 606 = .ok (.goto 1835, 3) := dk_at (r := (606, .goto 1835, 3)) dg_cL_law_8 11 rfl
theorem dL_law_609 : decode cL_law 609 = .ok (.aload_n 1, 1) := dk_at (r := (609, .aload_n 1, 1)) dg_cL_law_8 12 rfl
theorem dL_law_610 : decode cL_law 610 = .ok (.aload_n 0, 1) := dk_at (r := (610, .aload_n 0, 1)) dg_cL_law_8 13 rfl
theorem dL_law_611 : decode cL_law 611 = .ok (.iload 4, 2) := dk_at (r := (611, .iload 4, 2)) dg_cL_law_8 14 rfl
theorem dL_law_613 : decode cL_law 613 = .ok (.iconst 1, 1) := dk_at (r := (613, .iconst 1, 1)) dg_cL_law_8 15 rfl
theorem dL_law_614 : decode cL_law 614 = .ok (.iadd, 1) := dk_at (r := (614, .iadd, 1)) dg_cL_law_8 16 rfl
theorem dL_law_615 : decode cL_law 615 = .ok (.iaload, 1) := dk_at (r := (615, .iaload, 1)) dg_cL_law_8 17 rfl
theorem dL_law_616 : decode cL_law 616 = .ok (.aload_n 0, 1) := dk_at (r := (616, .aload_n 0, 1)) dg_cL_law_8 18 rfl
theorem dL_law_617 : decode cL_law 617 = .ok (.iload 4, 2) := dk_at (r := (617, .iload 4, 2)) dg_cL_law_8 19 rfl
theorem dL_law_619 : decode cL_law 619 = .ok (.iconst 2, 1) := dk_at (r := (619, .iconst 2, 1)) dg_cL_law_8 20 rfl
theorem dL_law_620 : decode cL_law 620 = .ok (.iadd, 1) := dk_at (r := (620, .iadd, 1)) dg_cL_law_8 21 rfl
theorem dL_law_621 : decode cL_law 621 = .ok (.iaload, 1) := dk_at (r := (621, .iaload, 1)) dg_cL_law_8 22 rfl
theorem dL_law_622 : decode cL_law 622 = .ok (.aload_n 3, 1) := dk_at (r := (622, .aload_n 3, 1)) dg_cL_law_8 23 rfl
theorem dL_law_623 : decode cL_law 623 = .ok (.invokestatic 212, 3) := dk_at (r := (623, .invokestatic 212, 3)) dg_cL_law_8 24 rfl
theorem dL_law_626 : decode cL_law 626 = .ok (.istore 5, 2) := dk_at (r := (626, .istore 5, 2)) dg_cL_law_8 25 rfl
theorem dL_law_628 : decode cL_law 628 = .ok (.aload_n 2, 1) := dk_at (r := (628, .aload_n 2, 1)) dg_cL_law_8 26 rfl
theorem dL_law_629 : decode cL_law 629 = .ok (.aload_n 0, 1) := dk_at (r := (629, .aload_n 0, 1)) dg_cL_law_8 27 rfl
theorem dL_law_630 : decode cL_law 630 = .ok (.iload 4, 2) := dk_at (r := (630, .iload 4, 2)) dg_cL_law_8 28 rfl
theorem dL_law_632 : decode cL_law 632 = .ok (.iconst 1, 1) := dk_at (r := (632, .iconst 1, 1)) dg_cL_law_8 29 rfl
theorem dL_law_633 : decode cL_law 633 = .ok (.iadd, 1) := dk_at (r := (633, .iadd, 1)) dg_cL_law_8 30 rfl
theorem dL_law_634 : decode cL_law 634 = .ok (.iaload, 1) := dk_at (r := (634, .iaload, 1)) dg_cL_law_8 31 rfl
theorem dg_cL_law_9 : dk cL_law [(635, .aload_n 0, 1), (636, .iload 4, 2), (638, .iconst 2, 1), (639, .iadd, 1), (640, .iaload, 1), (641, .invokevirtual 214, 3), (644, .istore 6, 2), (646, .goto 1795, 3), (649, .aload_n 1, 1), (650, .aload_n 0, 1), (651, .iload 4, 2), (653, .iconst 1, 1), (654, .iadd, 1), (655, .iaload, 1), (656, .aload_n 0, 1), (657, .iload 4, 2), (659, .iconst 2, 1), (660, .iadd, 1), (661, .iaload, 1), (662, .aload_n 0, 1), (663, .iload 4, 2), (665, .iconst 3, 1), (666, .iadd, 1), (667, .iaload, 1), (668, .ifCond .eq 7, 3), (671, .iconst 1, 1), (672, .goto 4, 3), (675, .iconst 0, 1), (676, .aload_n 3, 1), (677, .invokestatic 215, 3), (680, .istore 5, 2), (682, .aload_n 2, 1)] = true := by decide +kernel
theorem dL_law_635 : decode cL_law 635 = .ok (.aload_n 0, 1) := dk_at (r := (635, .aload_n 0, 1)) dg_cL_law_9 0 rfl
theorem dL_law_636 : decode cL_law 636 = .ok (.iload 4, 2) := dk_at (r := (636, .iload 4, 2)) dg_cL_law_9 1 rfl
theorem dL_law_638 : decode cL_law 638 = .ok (.iconst 2, 1) := dk_at (r := (638, .iconst 2, 1)) dg_cL_law_9 2 rfl
theorem dL_law_639 : decode cL_law 639 = .ok (.iadd, 1) := dk_at (r := (639, .iadd, 1)) dg_cL_law_9 3 rfl
theorem dL_law_640 : decode cL_law 640 = .ok (.iaload, 1) := dk_at (r := (640, .iaload, 1)) dg_cL_law_9 4 rfl
theorem dL_law_641 : decode cL_law 641 = .ok (.invokevirtual 214, 3) := dk_at (r := (641, .invokevirtual 214, 3)) dg_cL_law_9 5 rfl
theorem dL_law_644 : decode cL_law 644 = .ok (.istore 6, 2) := dk_at (r := (644, .istore 6, 2)) dg_cL_law_9 6 rfl
theorem dL_law_646 : decode cL_law 646 = .ok (.goto 1795, 3) := dk_at (r := (646, .goto 1795, 3)) dg_cL_law_9 7 rfl
theorem dL_law_649 : decode cL_law 649 = .ok (.aload_n 1, 1) := dk_at (r := (649, .aload_n 1, 1)) dg_cL_law_9 8 rfl
theorem dL_law_650 : decode cL_law 650 = .ok (.aload_n 0, 1) := dk_at (r := (650, .aload_n 0, 1)) dg_cL_law_9 9 rfl
theorem dL_law_651 : decode cL_law 651 = .ok (.iload 4, 2) := dk_at (r := (651, .iload 4, 2)) dg_cL_law_9 10 rfl
theorem dL_law_653 : decode cL_law 653 = .ok (.iconst 1, 1) := dk_at (r := (653, .iconst 1, 1)) dg_cL_law_9 11 rfl
theorem dL_law_654 : decode cL_law 654 = .ok (.iadd, 1) := dk_at (r := (654, .iadd, 1)) dg_cL_law_9 12 rfl
theorem dL_law_655 : decode cL_law 655 = .ok (.iaload, 1) := dk_at (r := (655, .iaload, 1)) dg_cL_law_9 13 rfl
theorem dL_law_656 : decode cL_law 656 = .ok (.aload_n 0, 1) := dk_at (r := (656, .aload_n 0, 1)) dg_cL_law_9 14 rfl
theorem dL_law_657 : decode cL_law 657 = .ok (.iload 4, 2) := dk_at (r := (657, .iload 4, 2)) dg_cL_law_9 15 rfl
theorem dL_law_659 : decode cL_law 659 = .ok (.iconst 2, 1) := dk_at (r := (659, .iconst 2, 1)) dg_cL_law_9 16 rfl
theorem dL_law_660 : decode cL_law 660 = .ok (.iadd, 1) := dk_at (r := (660, .iadd, 1)) dg_cL_law_9 17 rfl
theorem dL_law_661 : decode cL_law 661 = .ok (.iaload, 1) := dk_at (r := (661, .iaload, 1)) dg_cL_law_9 18 rfl
theorem dL_law_662 : decode cL_law 662 = .ok (.aload_n 0, 1) := dk_at (r := (662, .aload_n 0, 1)) dg_cL_law_9 19 rfl
theorem dL_law_663 : decode cL_law 663 = .ok (.iload 4, 2) := dk_at (r := (663, .iload 4, 2)) dg_cL_law_9 20 rfl
theorem dL_law_665 : decode cL_law 665 = .ok (.iconst 3, 1) := dk_at (r := (665, .iconst 3, 1)) dg_cL_law_9 21 rfl
theorem dL_law_666 : decode cL_law 666 = .ok (.iadd, 1) := dk_at (r := (666, .iadd, 1)) dg_cL_law_9 22 rfl
theorem dL_law_667 : decode cL_law 667 = .ok (.iaload, 1) := dk_at (r := (667, .iaload, 1)) dg_cL_law_9 23 rfl
theorem dL_law_668 : decode cL_law 668 = .ok (.ifCond .eq 7, 3) := dk_at (r := (668, .ifCond .eq 7, 3)) dg_cL_law_9 24 rfl
theorem dL_law_671 : decode cL_law 671 = .ok (.iconst 1, 1) := dk_at (r := (671, .iconst 1, 1)) dg_cL_law_9 25 rfl
theorem dL_law_672 : decode cL_law 672 = .ok (.goto 4, 3) := dk_at (r := (672, .goto 4, 3)) dg_cL_law_9 26 rfl
theorem dL_law_675 : decode cL_law 675 = .ok (.iconst 0, 1) := dk_at (r := (675, .iconst 0, 1)) dg_cL_law_9 27 rfl
theorem dL_law_676 : decode cL_law 676 = .ok (.aload_n 3, 1) := dk_at (r := (676, .aload_n 3, 1)) dg_cL_law_9 28 rfl
theorem dL_law_677 : decode cL_law 677 = .ok (.invokestatic 215, 3) := dk_at (r := (677, .invokestatic 215, 3)) dg_cL_law_9 29 rfl
theorem dL_law_680 : decode cL_law 680 = .ok (.istore 5, 2) := dk_at (r := (680, .istore 5, 2)) dg_cL_law_9 30 rfl
theorem dL_law_682 : decode cL_law 682 = .ok (.aload_n 2, 1) := dk_at (r := (682, .aload_n 2, 1)) dg_cL_law_9 31 rfl
theorem dg_cL_law_10 : dk cL_law [(683, .aload_n 0, 1), (684, .iload 4, 2), (686, .iconst 1, 1), (687, .iadd, 1), (688, .iaload, 1), (689, .aload_n 0, 1), (690, .iload 4, 2), (692, .iconst 2, 1), (693, .iadd, 1), (694, .iaload, 1), (695, .aload_n 0, 1), (696, .iload 4, 2), (698, .iconst 3, 1), (699, .iadd, 1), (700, .iaload, 1), (701, .ifCond .eq 7, 3), (704, .iconst 1, 1), (705, .goto 4, 3), (708, .iconst 0, 1), (709, .invokevirtual 218, 3), (712, .istore 6, 2), (714, .goto 1727, 3), (717, .aload_n 1, 1), (718, .aload_n 0, 1), (719, .iload 4, 2), (721, .iconst 1, 1), (722, .iadd, 1), (723, .iaload, 1), (724, .aload_n 0, 1), (725, .iload 4, 2), (727, .iconst 2, 1), (728, .iadd, 1)] = true := by decide +kernel
theorem dL_law_683 : decode cL_law 683 = .ok (.aload_n 0, 1) := dk_at (r := (683, .aload_n 0, 1)) dg_cL_law_10 0 rfl
theorem dL_law_684 : decode cL_law 684 = .ok (.iload 4, 2) := dk_at (r := (684, .iload 4, 2)) dg_cL_law_10 1 rfl
theorem dL_law_686 : decode cL_law 686 = .ok (.iconst 1, 1) := dk_at (r := (686, .iconst 1, 1)) dg_cL_law_10 2 rfl
theorem dL_law_687 : decode cL_law 687 = .ok (.iadd, 1) := dk_at (r := (687, .iadd, 1)) dg_cL_law_10 3 rfl
theorem dL_law_688 : decode cL_law 688 = .ok (.iaload, 1) := dk_at (r := (688, .iaload, 1)) dg_cL_law_10 4 rfl
theorem dL_law_689 : decode cL_law 689 = .ok (.aload_n 0, 1) := dk_at (r := (689, .aload_n 0, 1)) dg_cL_law_10 5 rfl
theorem dL_law_690 : decode cL_law 690 = .ok (.iload 4, 2) := dk_at (r := (690, .iload 4, 2)) dg_cL_law_10 6 rfl
theorem dL_law_692 : decode cL_law 692 = .ok (.iconst 2, 1) := dk_at (r := (692, .iconst 2, 1)) dg_cL_law_10 7 rfl
theorem dL_law_693 : decode cL_law 693 = .ok (.iadd, 1) := dk_at (r := (693, .iadd, 1)) dg_cL_law_10 8 rfl
theorem dL_law_694 : decode cL_law 694 = .ok (.iaload, 1) := dk_at (r := (694, .iaload, 1)) dg_cL_law_10 9 rfl
theorem dL_law_695 : decode cL_law 695 = .ok (.aload_n 0, 1) := dk_at (r := (695, .aload_n 0, 1)) dg_cL_law_10 10 rfl
theorem dL_law_696 : decode cL_law 696 = .ok (.iload 4, 2) := dk_at (r := (696, .iload 4, 2)) dg_cL_law_10 11 rfl
theorem dL_law_698 : decode cL_law 698 = .ok (.iconst 3, 1) := dk_at (r := (698, .iconst 3, 1)) dg_cL_law_10 12 rfl
theorem dL_law_699 : decode cL_law 699 = .ok (.iadd, 1) := dk_at (r := (699, .iadd, 1)) dg_cL_law_10 13 rfl
theorem dL_law_700 : decode cL_law 700 = .ok (.iaload, 1) := dk_at (r := (700, .iaload, 1)) dg_cL_law_10 14 rfl
theorem dL_law_701 : decode cL_law 701 = .ok (.ifCond .eq 7, 3) := dk_at (r := (701, .ifCond .eq 7, 3)) dg_cL_law_10 15 rfl
theorem dL_law_704 : decode cL_law 704 = .ok (.iconst 1, 1) := dk_at (r := (704, .iconst 1, 1)) dg_cL_law_10 16 rfl
theorem dL_law_705 : decode cL_law 705 = .ok (.goto 4, 3) := dk_at (r := (705, .goto 4, 3)) dg_cL_law_10 17 rfl
theorem dL_law_708 : decode cL_law 708 = .ok (.iconst 0, 1) := dk_at (r := (708, .iconst 0, 1)) dg_cL_law_10 18 rfl
theorem dL_law_709 : decode cL_law 709 = .ok (.invokevirtual 218, 3) := dk_at (r := (709, .invokevirtual 218, 3)) dg_cL_law_10 19 rfl
theorem dL_law_712 : decode cL_law 712 = .ok (.istore 6, 2) := dk_at (r := (712, .istore 6, 2)) dg_cL_law_10 20 rfl
theorem dL_law_714 : decode cL_law 714 = .ok (.goto 1727, 3) := dk_at (r := (714, .goto 1727, 3)) dg_cL_law_10 21 rfl
theorem dL_law_717 : decode cL_law 717 = .ok (.aload_n 1, 1) := dk_at (r := (717, .aload_n 1, 1)) dg_cL_law_10 22 rfl
theorem dL_law_718 : decode cL_law 718 = .ok (.aload_n 0, 1) := dk_at (r := (718, .aload_n 0, 1)) dg_cL_law_10 23 rfl
theorem dL_law_719 : decode cL_law 719 = .ok (.iload 4, 2) := dk_at (r := (719, .iload 4, 2)) dg_cL_law_10 24 rfl
theorem dL_law_721 : decode cL_law 721 = .ok (.iconst 1, 1) := dk_at (r := (721, .iconst 1, 1)) dg_cL_law_10 25 rfl
theorem dL_law_722 : decode cL_law 722 = .ok (.iadd, 1) := dk_at (r := (722, .iadd, 1)) dg_cL_law_10 26 rfl
theorem dL_law_723 : decode cL_law 723 = .ok (.iaload, 1) := dk_at (r := (723, .iaload, 1)) dg_cL_law_10 27 rfl
theorem dL_law_724 : decode cL_law 724 = .ok (.aload_n 0, 1) := dk_at (r := (724, .aload_n 0, 1)) dg_cL_law_10 28 rfl
theorem dL_law_725 : decode cL_law 725 = .ok (.iload 4, 2) := dk_at (r := (725, .iload 4, 2)) dg_cL_law_10 29 rfl
theorem dL_law_727 : decode cL_law 727 = .ok (.iconst 2, 1) := dk_at (r := (727, .iconst 2, 1)) dg_cL_law_10 30 rfl
theorem dL_law_728 : decode cL_law 728 = .ok (.iadd, 1) := dk_at (r := (728, .iadd, 1)) dg_cL_law_10 31 rfl
theorem dg_cL_law_11 : dk cL_law [(729, .iaload, 1), (730, .aload_n 0, 1), (731, .iload 4, 2), (733, .iconst 3, 1), (734, .iadd, 1), (735, .iaload, 1), (736, .ifCond .eq 7, 3), (739, .iconst 1, 1), (740, .goto 4, 3), (743, .iconst 0, 1), (744, .aload_n 3, 1), (745, .invokestatic 219, 3), (748, .istore 5, 2), (750, .aload_n 2, 1), (751, .aload_n 0, 1), (752, .iload 4, 2), (754, .iconst 1, 1), (755, .iadd, 1), (756, .iaload, 1), (757, .aload_n 0, 1), (758, .iload 4, 2), (760, .iconst 2, 1), (761, .iadd, 1), (762, .iaload, 1), (763, .aload_n 0, 1), (764, .iload 4, 2), (766, .iconst 3, 1), (767, .iadd, 1), (768, .iaload, 1), (769, .ifCond .eq 7, 3), (772, .iconst 1, 1), (773, .goto 4, 3)] = true := by decide +kernel
theorem dL_law_729 : decode cL_law 729 = .ok (.iaload, 1) := dk_at (r := (729, .iaload, 1)) dg_cL_law_11 0 rfl
theorem dL_law_730 : decode cL_law 730 = .ok (.aload_n 0, 1) := dk_at (r := (730, .aload_n 0, 1)) dg_cL_law_11 1 rfl
theorem dL_law_731 : decode cL_law 731 = .ok (.iload 4, 2) := dk_at (r := (731, .iload 4, 2)) dg_cL_law_11 2 rfl
theorem dL_law_733 : decode cL_law 733 = .ok (.iconst 3, 1) := dk_at (r := (733, .iconst 3, 1)) dg_cL_law_11 3 rfl
theorem dL_law_734 : decode cL_law 734 = .ok (.iadd, 1) := dk_at (r := (734, .iadd, 1)) dg_cL_law_11 4 rfl
theorem dL_law_735 : decode cL_law 735 = .ok (.iaload, 1) := dk_at (r := (735, .iaload, 1)) dg_cL_law_11 5 rfl
theorem dL_law_736 : decode cL_law 736 = .ok (.ifCond .eq 7, 3) := dk_at (r := (736, .ifCond .eq 7, 3)) dg_cL_law_11 6 rfl
theorem dL_law_739 : decode cL_law 739 = .ok (.iconst 1, 1) := dk_at (r := (739, .iconst 1, 1)) dg_cL_law_11 7 rfl
theorem dL_law_740 : decode cL_law 740 = .ok (.goto 4, 3) := dk_at (r := (740, .goto 4, 3)) dg_cL_law_11 8 rfl
theorem dL_law_743 : decode cL_law 743 = .ok (.iconst 0, 1) := dk_at (r := (743, .iconst 0, 1)) dg_cL_law_11 9 rfl
theorem dL_law_744 : decode cL_law 744 = .ok (.aload_n 3, 1) := dk_at (r := (744, .aload_n 3, 1)) dg_cL_law_11 10 rfl
theorem dL_law_745 : decode cL_law 745 = .ok (.invokestatic 219, 3) := dk_at (r := (745, .invokestatic 219, 3)) dg_cL_law_11 11 rfl
theorem dL_law_748 : decode cL_law 748 = .ok (.istore 5, 2) := dk_at (r := (748, .istore 5, 2)) dg_cL_law_11 12 rfl
theorem dL_law_750 : decode cL_law 750 = .ok (.aload_n 2, 1) := dk_at (r := (750, .aload_n 2, 1)) dg_cL_law_11 13 rfl
theorem dL_law_751 : decode cL_law 751 = .ok (.aload_n 0, 1) := dk_at (r := (751, .aload_n 0, 1)) dg_cL_law_11 14 rfl
theorem dL_law_752 : decode cL_law 752 = .ok (.iload 4, 2) := dk_at (r := (752, .iload 4, 2)) dg_cL_law_11 15 rfl
theorem dL_law_754 : decode cL_law 754 = .ok (.iconst 1, 1) := dk_at (r := (754, .iconst 1, 1)) dg_cL_law_11 16 rfl
theorem dL_law_755 : decode cL_law 755 = .ok (.iadd, 1) := dk_at (r := (755, .iadd, 1)) dg_cL_law_11 17 rfl
theorem dL_law_756 : decode cL_law 756 = .ok (.iaload, 1) := dk_at (r := (756, .iaload, 1)) dg_cL_law_11 18 rfl
theorem dL_law_757 : decode cL_law 757 = .ok (.aload_n 0, 1) := dk_at (r := (757, .aload_n 0, 1)) dg_cL_law_11 19 rfl
theorem dL_law_758 : decode cL_law 758 = .ok (.iload 4, 2) := dk_at (r := (758, .iload 4, 2)) dg_cL_law_11 20 rfl
theorem dL_law_760 : decode cL_law 760 = .ok (.iconst 2, 1) := dk_at (r := (760, .iconst 2, 1)) dg_cL_law_11 21 rfl
theorem dL_law_761 : decode cL_law 761 = .ok (.iadd, 1) := dk_at (r := (761, .iadd, 1)) dg_cL_law_11 22 rfl
theorem dL_law_762 : decode cL_law 762 = .ok (.iaload, 1) := dk_at (r := (762, .iaload, 1)) dg_cL_law_11 23 rfl
theorem dL_law_763 : decode cL_law 763 = .ok (.aload_n 0, 1) := dk_at (r := (763, .aload_n 0, 1)) dg_cL_law_11 24 rfl
theorem dL_law_764 : decode cL_law 764 = .ok (.iload 4, 2) := dk_at (r := (764, .iload 4, 2)) dg_cL_law_11 25 rfl
theorem dL_law_766 : decode cL_law 766 = .ok (.iconst 3, 1) := dk_at (r := (766, .iconst 3, 1)) dg_cL_law_11 26 rfl
theorem dL_law_767 : decode cL_law 767 = .ok (.iadd, 1) := dk_at (r := (767, .iadd, 1)) dg_cL_law_11 27 rfl
theorem dL_law_768 : decode cL_law 768 = .ok (.iaload, 1) := dk_at (r := (768, .iaload, 1)) dg_cL_law_11 28 rfl
theorem dL_law_769 : decode cL_law 769 = .ok (.ifCond .eq 7, 3) := dk_at (r := (769, .ifCond .eq 7, 3)) dg_cL_law_11 29 rfl
theorem dL_law_772 : decode cL_law 772 = .ok (.iconst 1, 1) := dk_at (r := (772, .iconst 1, 1)) dg_cL_law_11 30 rfl
theorem dL_law_773 : decode cL_law 773 = .ok (.goto 4, 3) := dk_at (r := (773, .goto 4, 3)) dg_cL_law_11 31 rfl
theorem dg_cL_law_12 : dk cL_law [(776, .iconst 0, 1), (777, .invokevirtual 221, 3), (780, .istore 6, 2), (782, .goto 1659, 3), (785, .aload_n 1, 1), (786, .aload_n 0, 1), (787, .iload 4, 2), (789, .iconst 1, 1), (790, .iadd, 1), (791, .iaload, 1), (792, .aload_n 0, 1), (793, .iload 4, 2), (795, .iconst 2, 1), (796, .iadd, 1), (797, .iaload, 1), (798, .aload_n 0, 1), (799, .iload 4, 2), (801, .iconst 3, 1), (802, .iadd, 1), (803, .iaload, 1), (804, .ifCond .eq 7, 3), (807, .iconst 1, 1), (808, .goto 4, 3), (811, .iconst 0, 1), (812, .aload_n 3, 1), (813, .invokestatic 222, 3), (816, .istore 5, 2), (818, .aload_n 2, 1), (819, .aload_n 0, 1), (820, .iload 4, 2), (822, .iconst 1, 1), (823, .iadd, 1)] = true := by decide +kernel
theorem dL_law_776 : decode cL_law 776 = .ok (.iconst 0, 1) := dk_at (r := (776, .iconst 0, 1)) dg_cL_law_12 0 rfl
theorem dL_law_777 : decode cL_law 777 = .ok (.invokevirtual 221, 3) := dk_at (r := (777, .invokevirtual 221, 3)) dg_cL_law_12 1 rfl
theorem dL_law_780 : decode cL_law 780 = .ok (.istore 6, 2) := dk_at (r := (780, .istore 6, 2)) dg_cL_law_12 2 rfl
theorem dL_law_782 : decode cL_law 782 = .ok (.goto 1659, 3) := dk_at (r := (782, .goto 1659, 3)) dg_cL_law_12 3 rfl
theorem dL_law_785 : decode cL_law 785 = .ok (.aload_n 1, 1) := dk_at (r := (785, .aload_n 1, 1)) dg_cL_law_12 4 rfl
theorem dL_law_786 : decode cL_law 786 = .ok (.aload_n 0, 1) := dk_at (r := (786, .aload_n 0, 1)) dg_cL_law_12 5 rfl
theorem dL_law_787 : decode cL_law 787 = .ok (.iload 4, 2) := dk_at (r := (787, .iload 4, 2)) dg_cL_law_12 6 rfl
theorem dL_law_789 : decode cL_law 789 = .ok (.iconst 1, 1) := dk_at (r := (789, .iconst 1, 1)) dg_cL_law_12 7 rfl
theorem dL_law_790 : decode cL_law 790 = .ok (.iadd, 1) := dk_at (r := (790, .iadd, 1)) dg_cL_law_12 8 rfl
theorem dL_law_791 : decode cL_law 791 = .ok (.iaload, 1) := dk_at (r := (791, .iaload, 1)) dg_cL_law_12 9 rfl
theorem dL_law_792 : decode cL_law 792 = .ok (.aload_n 0, 1) := dk_at (r := (792, .aload_n 0, 1)) dg_cL_law_12 10 rfl
theorem dL_law_793 : decode cL_law 793 = .ok (.iload 4, 2) := dk_at (r := (793, .iload 4, 2)) dg_cL_law_12 11 rfl
theorem dL_law_795 : decode cL_law 795 = .ok (.iconst 2, 1) := dk_at (r := (795, .iconst 2, 1)) dg_cL_law_12 12 rfl
theorem dL_law_796 : decode cL_law 796 = .ok (.iadd, 1) := dk_at (r := (796, .iadd, 1)) dg_cL_law_12 13 rfl
theorem dL_law_797 : decode cL_law 797 = .ok (.iaload, 1) := dk_at (r := (797, .iaload, 1)) dg_cL_law_12 14 rfl
theorem dL_law_798 : decode cL_law 798 = .ok (.aload_n 0, 1) := dk_at (r := (798, .aload_n 0, 1)) dg_cL_law_12 15 rfl
theorem dL_law_799 : decode cL_law 799 = .ok (.iload 4, 2) := dk_at (r := (799, .iload 4, 2)) dg_cL_law_12 16 rfl
theorem dL_law_801 : decode cL_law 801 = .ok (.iconst 3, 1) := dk_at (r := (801, .iconst 3, 1)) dg_cL_law_12 17 rfl
theorem dL_law_802 : decode cL_law 802 = .ok (.iadd, 1) := dk_at (r := (802, .iadd, 1)) dg_cL_law_12 18 rfl
theorem dL_law_803 : decode cL_law 803 = .ok (.iaload, 1) := dk_at (r := (803, .iaload, 1)) dg_cL_law_12 19 rfl
theorem dL_law_804 : decode cL_law 804 = .ok (.ifCond .eq 7, 3) := dk_at (r := (804, .ifCond .eq 7, 3)) dg_cL_law_12 20 rfl
theorem dL_law_807 : decode cL_law 807 = .ok (.iconst 1, 1) := dk_at (r := (807, .iconst 1, 1)) dg_cL_law_12 21 rfl
theorem dL_law_808 : decode cL_law 808 = .ok (.goto 4, 3) := dk_at (r := (808, .goto 4, 3)) dg_cL_law_12 22 rfl
theorem dL_law_811 : decode cL_law 811 = .ok (.iconst 0, 1) := dk_at (r := (811, .iconst 0, 1)) dg_cL_law_12 23 rfl
theorem dL_law_812 : decode cL_law 812 = .ok (.aload_n 3, 1) := dk_at (r := (812, .aload_n 3, 1)) dg_cL_law_12 24 rfl
theorem dL_law_813 : decode cL_law 813 = .ok (.invokestatic 222, 3) := dk_at (r := (813, .invokestatic 222, 3)) dg_cL_law_12 25 rfl
theorem dL_law_816 : decode cL_law 816 = .ok (.istore 5, 2) := dk_at (r := (816, .istore 5, 2)) dg_cL_law_12 26 rfl
theorem dL_law_818 : decode cL_law 818 = .ok (.aload_n 2, 1) := dk_at (r := (818, .aload_n 2, 1)) dg_cL_law_12 27 rfl
theorem dL_law_819 : decode cL_law 819 = .ok (.aload_n 0, 1) := dk_at (r := (819, .aload_n 0, 1)) dg_cL_law_12 28 rfl
theorem dL_law_820 : decode cL_law 820 = .ok (.iload 4, 2) := dk_at (r := (820, .iload 4, 2)) dg_cL_law_12 29 rfl
theorem dL_law_822 : decode cL_law 822 = .ok (.iconst 1, 1) := dk_at (r := (822, .iconst 1, 1)) dg_cL_law_12 30 rfl
theorem dL_law_823 : decode cL_law 823 = .ok (.iadd, 1) := dk_at (r := (823, .iadd, 1)) dg_cL_law_12 31 rfl
theorem dg_cL_law_13 : dk cL_law [(824, .iaload, 1), (825, .aload_n 0, 1), (826, .iload 4, 2), (828, .iconst 2, 1), (829, .iadd, 1), (830, .iaload, 1), (831, .aload_n 0, 1), (832, .iload 4, 2), (834, .iconst 3, 1), (835, .iadd, 1), (836, .iaload, 1), (837, .ifCond .eq 7, 3), (840, .iconst 1, 1), (841, .goto 4, 3), (844, .iconst 0, 1), (845, .invokevirtual 224, 3), (848, .istore 6, 2), (850, .goto 1591, 3), (853, .aload_n 1, 1), (854, .aload_n 0, 1), (855, .iload 4, 2), (857, .iconst 1, 1), (858, .iadd, 1), (859, .iaload, 1), (860, .aload_n 0, 1), (861, .iload 4, 2), (863, .iconst 2, 1), (864, .iadd, 1), (865, .iaload, 1), (866, .aload_n 0, 1), (867, .iload 4, 2), (869, .iconst 3, 1)] = true := by decide +kernel
theorem dL_law_824 : decode cL_law 824 = .ok (.iaload, 1) := dk_at (r := (824, .iaload, 1)) dg_cL_law_13 0 rfl
theorem dL_law_825 : decode cL_law 825 = .ok (.aload_n 0, 1) := dk_at (r := (825, .aload_n 0, 1)) dg_cL_law_13 1 rfl
theorem dL_law_826 : decode cL_law 826 = .ok (.iload 4, 2) := dk_at (r := (826, .iload 4, 2)) dg_cL_law_13 2 rfl
theorem dL_law_828 : decode cL_law 828 = .ok (.iconst 2, 1) := dk_at (r := (828, .iconst 2, 1)) dg_cL_law_13 3 rfl
theorem dL_law_829 : decode cL_law 829 = .ok (.iadd, 1) := dk_at (r := (829, .iadd, 1)) dg_cL_law_13 4 rfl
theorem dL_law_830 : decode cL_law 830 = .ok (.iaload, 1) := dk_at (r := (830, .iaload, 1)) dg_cL_law_13 5 rfl
theorem dL_law_831 : decode cL_law 831 = .ok (.aload_n 0, 1) := dk_at (r := (831, .aload_n 0, 1)) dg_cL_law_13 6 rfl
theorem dL_law_832 : decode cL_law 832 = .ok (.iload 4, 2) := dk_at (r := (832, .iload 4, 2)) dg_cL_law_13 7 rfl
theorem dL_law_834 : decode cL_law 834 = .ok (.iconst 3, 1) := dk_at (r := (834, .iconst 3, 1)) dg_cL_law_13 8 rfl
theorem dL_law_835 : decode cL_law 835 = .ok (.iadd, 1) := dk_at (r := (835, .iadd, 1)) dg_cL_law_13 9 rfl
theorem dL_law_836 : decode cL_law 836 = .ok (.iaload, 1) := dk_at (r := (836, .iaload, 1)) dg_cL_law_13 10 rfl
theorem dL_law_837 : decode cL_law 837 = .ok (.ifCond .eq 7, 3) := dk_at (r := (837, .ifCond .eq 7, 3)) dg_cL_law_13 11 rfl
theorem dL_law_840 : decode cL_law 840 = .ok (.iconst 1, 1) := dk_at (r := (840, .iconst 1, 1)) dg_cL_law_13 12 rfl
theorem dL_law_841 : decode cL_law 841 = .ok (.goto 4, 3) := dk_at (r := (841, .goto 4, 3)) dg_cL_law_13 13 rfl
theorem dL_law_844 : decode cL_law 844 = .ok (.iconst 0, 1) := dk_at (r := (844, .iconst 0, 1)) dg_cL_law_13 14 rfl
theorem dL_law_845 : decode cL_law 845 = .ok (.invokevirtual 224, 3) := dk_at (r := (845, .invokevirtual 224, 3)) dg_cL_law_13 15 rfl
theorem dL_law_848 : decode cL_law 848 = .ok (.istore 6, 2) := dk_at (r := (848, .istore 6, 2)) dg_cL_law_13 16 rfl
theorem dL_law_850 : decode cL_law 850 = .ok (.goto 1591, 3) := dk_at (r := (850, .goto 1591, 3)) dg_cL_law_13 17 rfl
theorem dL_law_853 : decode cL_law 853 = .ok (.aload_n 1, 1) := dk_at (r := (853, .aload_n 1, 1)) dg_cL_law_13 18 rfl
theorem dL_law_854 : decode cL_law 854 = .ok (.aload_n 0, 1) := dk_at (r := (854, .aload_n 0, 1)) dg_cL_law_13 19 rfl
theorem dL_law_855 : decode cL_law 855 = .ok (.iload 4, 2) := dk_at (r := (855, .iload 4, 2)) dg_cL_law_13 20 rfl
theorem dL_law_857 : decode cL_law 857 = .ok (.iconst 1, 1) := dk_at (r := (857, .iconst 1, 1)) dg_cL_law_13 21 rfl
theorem dL_law_858 : decode cL_law 858 = .ok (.iadd, 1) := dk_at (r := (858, .iadd, 1)) dg_cL_law_13 22 rfl
theorem dL_law_859 : decode cL_law 859 = .ok (.iaload, 1) := dk_at (r := (859, .iaload, 1)) dg_cL_law_13 23 rfl
theorem dL_law_860 : decode cL_law 860 = .ok (.aload_n 0, 1) := dk_at (r := (860, .aload_n 0, 1)) dg_cL_law_13 24 rfl
theorem dL_law_861 : decode cL_law 861 = .ok (.iload 4, 2) := dk_at (r := (861, .iload 4, 2)) dg_cL_law_13 25 rfl
theorem dL_law_863 : decode cL_law 863 = .ok (.iconst 2, 1) := dk_at (r := (863, .iconst 2, 1)) dg_cL_law_13 26 rfl
theorem dL_law_864 : decode cL_law 864 = .ok (.iadd, 1) := dk_at (r := (864, .iadd, 1)) dg_cL_law_13 27 rfl
theorem dL_law_865 : decode cL_law 865 = .ok (.iaload, 1) := dk_at (r := (865, .iaload, 1)) dg_cL_law_13 28 rfl
theorem dL_law_866 : decode cL_law 866 = .ok (.aload_n 0, 1) := dk_at (r := (866, .aload_n 0, 1)) dg_cL_law_13 29 rfl
theorem dL_law_867 : decode cL_law 867 = .ok (.iload 4, 2) := dk_at (r := (867, .iload 4, 2)) dg_cL_law_13 30 rfl
theorem dL_law_869 : decode cL_law 869 = .ok (.iconst 3, 1) := dk_at (r := (869, .iconst 3, 1)) dg_cL_law_13 31 rfl
theorem dg_cL_law_14 : dk cL_law [(870, .iadd, 1), (871, .iaload, 1), (872, .ifCond .eq 7, 3), (875, .iconst 1, 1), (876, .goto 4, 3), (879, .iconst 0, 1), (880, .aload_n 3, 1), (881, .invokestatic 225, 3), (884, .istore 5, 2), (886, .aload_n 2, 1), (887, .aload_n 0, 1), (888, .iload 4, 2), (890, .iconst 1, 1), (891, .iadd, 1), (892, .iaload, 1), (893, .aload_n 0, 1), (894, .iload 4, 2), (896, .iconst 2, 1), (897, .iadd, 1), (898, .iaload, 1), (899, .aload_n 0, 1), (900, .iload 4, 2), (902, .iconst 3, 1), (903, .iadd, 1), (904, .iaload, 1), (905, .ifCond .eq 7, 3), (908, .iconst 1, 1), (909, .goto 4, 3), (912, .iconst 0, 1), (913, .invokevirtual 227, 3), (916, .istore 6, 2), (918, .goto 1523, 3)] = true := by decide +kernel
theorem dL_law_870 : decode cL_law 870 = .ok (.iadd, 1) := dk_at (r := (870, .iadd, 1)) dg_cL_law_14 0 rfl
theorem dL_law_871 : decode cL_law 871 = .ok (.iaload, 1) := dk_at (r := (871, .iaload, 1)) dg_cL_law_14 1 rfl
theorem dL_law_872 : decode cL_law 872 = .ok (.ifCond .eq 7, 3) := dk_at (r := (872, .ifCond .eq 7, 3)) dg_cL_law_14 2 rfl
theorem dL_law_875 : decode cL_law 875 = .ok (.iconst 1, 1) := dk_at (r := (875, .iconst 1, 1)) dg_cL_law_14 3 rfl
theorem dL_law_876 : decode cL_law 876 = .ok (.goto 4, 3) := dk_at (r := (876, .goto 4, 3)) dg_cL_law_14 4 rfl
theorem dL_law_879 : decode cL_law 879 = .ok (.iconst 0, 1) := dk_at (r := (879, .iconst 0, 1)) dg_cL_law_14 5 rfl
theorem dL_law_880 : decode cL_law 880 = .ok (.aload_n 3, 1) := dk_at (r := (880, .aload_n 3, 1)) dg_cL_law_14 6 rfl
theorem dL_law_881 : decode cL_law 881 = .ok (.invokestatic 225, 3) := dk_at (r := (881, .invokestatic 225, 3)) dg_cL_law_14 7 rfl
theorem dL_law_884 : decode cL_law 884 = .ok (.istore 5, 2) := dk_at (r := (884, .istore 5, 2)) dg_cL_law_14 8 rfl
theorem dL_law_886 : decode cL_law 886 = .ok (.aload_n 2, 1) := dk_at (r := (886, .aload_n 2, 1)) dg_cL_law_14 9 rfl
theorem dL_law_887 : decode cL_law 887 = .ok (.aload_n 0, 1) := dk_at (r := (887, .aload_n 0, 1)) dg_cL_law_14 10 rfl
theorem dL_law_888 : decode cL_law 888 = .ok (.iload 4, 2) := dk_at (r := (888, .iload 4, 2)) dg_cL_law_14 11 rfl
theorem dL_law_890 : decode cL_law 890 = .ok (.iconst 1, 1) := dk_at (r := (890, .iconst 1, 1)) dg_cL_law_14 12 rfl
theorem dL_law_891 : decode cL_law 891 = .ok (.iadd, 1) := dk_at (r := (891, .iadd, 1)) dg_cL_law_14 13 rfl
theorem dL_law_892 : decode cL_law 892 = .ok (.iaload, 1) := dk_at (r := (892, .iaload, 1)) dg_cL_law_14 14 rfl
theorem dL_law_893 : decode cL_law 893 = .ok (.aload_n 0, 1) := dk_at (r := (893, .aload_n 0, 1)) dg_cL_law_14 15 rfl
theorem dL_law_894 : decode cL_law 894 = .ok (.iload 4, 2) := dk_at (r := (894, .iload 4, 2)) dg_cL_law_14 16 rfl
theorem dL_law_896 : decode cL_law 896 = .ok (.iconst 2, 1) := dk_at (r := (896, .iconst 2, 1)) dg_cL_law_14 17 rfl
theorem dL_law_897 : decode cL_law 897 = .ok (.iadd, 1) := dk_at (r := (897, .iadd, 1)) dg_cL_law_14 18 rfl
theorem dL_law_898 : decode cL_law 898 = .ok (.iaload, 1) := dk_at (r := (898, .iaload, 1)) dg_cL_law_14 19 rfl
theorem dL_law_899 : decode cL_law 899 = .ok (.aload_n 0, 1) := dk_at (r := (899, .aload_n 0, 1)) dg_cL_law_14 20 rfl
theorem dL_law_900 : decode cL_law 900 = .ok (.iload 4, 2) := dk_at (r := (900, .iload 4, 2)) dg_cL_law_14 21 rfl
theorem dL_law_902 : decode cL_law 902 = .ok (.iconst 3, 1) := dk_at (r := (902, .iconst 3, 1)) dg_cL_law_14 22 rfl
theorem dL_law_903 : decode cL_law 903 = .ok (.iadd, 1) := dk_at (r := (903, .iadd, 1)) dg_cL_law_14 23 rfl
theorem dL_law_904 : decode cL_law 904 = .ok (.iaload, 1) := dk_at (r := (904, .iaload, 1)) dg_cL_law_14 24 rfl
theorem dL_law_905 : decode cL_law 905 = .ok (.ifCond .eq 7, 3) := dk_at (r := (905, .ifCond .eq 7, 3)) dg_cL_law_14 25 rfl
theorem dL_law_908 : decode cL_law 908 = .ok (.iconst 1, 1) := dk_at (r := (908, .iconst 1, 1)) dg_cL_law_14 26 rfl
theorem dL_law_909 : decode cL_law 909 = .ok (.goto 4, 3) := dk_at (r := (909, .goto 4, 3)) dg_cL_law_14 27 rfl
theorem dL_law_912 : decode cL_law 912 = .ok (.iconst 0, 1) := dk_at (r := (912, .iconst 0, 1)) dg_cL_law_14 28 rfl
theorem dL_law_913 : decode cL_law 913 = .ok (.invokevirtual 227, 3) := dk_at (r := (913, .invokevirtual 227, 3)) dg_cL_law_14 29 rfl
theorem dL_law_916 : decode cL_law 916 = .ok (.istore 6, 2) := dk_at (r := (916, .istore 6, 2)) dg_cL_law_14 30 rfl
theorem dL_law_918 : decode cL_law 918 = .ok (.goto 1523, 3) := dk_at (r := (918, .goto 1523, 3)) dg_cL_law_14 31 rfl
theorem dg_cL_law_15 : dk cL_law [(921, .aload_n 1, 1), (922, .aload_n 0, 1), (923, .iload 4, 2), (925, .iconst 1, 1), (926, .iadd, 1), (927, .iaload, 1), (928, .aload_n 0, 1), (929, .iload 4, 2), (931, .iconst 2, 1), (932, .iadd, 1), (933, .iaload, 1), (934, .aload_n 0, 1), (935, .iload 4, 2), (937, .iconst 3, 1), (938, .iadd, 1), (939, .iaload, 1), (940, .ifCond .eq 7, 3), (943, .iconst 1, 1), (944, .goto 4, 3), (947, .iconst 0, 1), (948, .aload_n 3, 1), (949, .invokestatic 228, 3), (952, .istore 5, 2), (954, .aload_n 2, 1), (955, .aload_n 0, 1), (956, .iload 4, 2), (958, .iconst 1, 1), (959, .iadd, 1), (960, .iaload, 1), (961, .aload_n 0, 1), (962, .iload 4, 2), (964, .iconst 2, 1)] = true := by decide +kernel
theorem dL_law_921 : decode cL_law 921 = .ok (.aload_n 1, 1) := dk_at (r := (921, .aload_n 1, 1)) dg_cL_law_15 0 rfl
theorem dL_law_922 : decode cL_law 922 = .ok (.aload_n 0, 1) := dk_at (r := (922, .aload_n 0, 1)) dg_cL_law_15 1 rfl
theorem dL_law_923 : decode cL_law 923 = .ok (.iload 4, 2) := dk_at (r := (923, .iload 4, 2)) dg_cL_law_15 2 rfl
theorem dL_law_925 : decode cL_law 925 = .ok (.iconst 1, 1) := dk_at (r := (925, .iconst 1, 1)) dg_cL_law_15 3 rfl
theorem dL_law_926 : decode cL_law 926 = .ok (.iadd, 1) := dk_at (r := (926, .iadd, 1)) dg_cL_law_15 4 rfl
theorem dL_law_927 : decode cL_law 927 = .ok (.iaload, 1) := dk_at (r := (927, .iaload, 1)) dg_cL_law_15 5 rfl
theorem dL_law_928 : decode cL_law 928 = .ok (.aload_n 0, 1) := dk_at (r := (928, .aload_n 0, 1)) dg_cL_law_15 6 rfl
theorem dL_law_929 : decode cL_law 929 = .ok (.iload 4, 2) := dk_at (r := (929, .iload 4, 2)) dg_cL_law_15 7 rfl
theorem dL_law_931 : decode cL_law 931 = .ok (.iconst 2, 1) := dk_at (r := (931, .iconst 2, 1)) dg_cL_law_15 8 rfl
theorem dL_law_932 : decode cL_law 932 = .ok (.iadd, 1) := dk_at (r := (932, .iadd, 1)) dg_cL_law_15 9 rfl
theorem dL_law_933 : decode cL_law 933 = .ok (.iaload, 1) := dk_at (r := (933, .iaload, 1)) dg_cL_law_15 10 rfl
theorem dL_law_934 : decode cL_law 934 = .ok (.aload_n 0, 1) := dk_at (r := (934, .aload_n 0, 1)) dg_cL_law_15 11 rfl
theorem dL_law_935 : decode cL_law 935 = .ok (.iload 4, 2) := dk_at (r := (935, .iload 4, 2)) dg_cL_law_15 12 rfl
theorem dL_law_937 : decode cL_law 937 = .ok (.iconst 3, 1) := dk_at (r := (937, .iconst 3, 1)) dg_cL_law_15 13 rfl
theorem dL_law_938 : decode cL_law 938 = .ok (.iadd, 1) := dk_at (r := (938, .iadd, 1)) dg_cL_law_15 14 rfl
theorem dL_law_939 : decode cL_law 939 = .ok (.iaload, 1) := dk_at (r := (939, .iaload, 1)) dg_cL_law_15 15 rfl
theorem dL_law_940 : decode cL_law 940 = .ok (.ifCond .eq 7, 3) := dk_at (r := (940, .ifCond .eq 7, 3)) dg_cL_law_15 16 rfl
theorem dL_law_943 : decode cL_law 943 = .ok (.iconst 1, 1) := dk_at (r := (943, .iconst 1, 1)) dg_cL_law_15 17 rfl
theorem dL_law_944 : decode cL_law 944 = .ok (.goto 4, 3) := dk_at (r := (944, .goto 4, 3)) dg_cL_law_15 18 rfl
theorem dL_law_947 : decode cL_law 947 = .ok (.iconst 0, 1) := dk_at (r := (947, .iconst 0, 1)) dg_cL_law_15 19 rfl
theorem dL_law_948 : decode cL_law 948 = .ok (.aload_n 3, 1) := dk_at (r := (948, .aload_n 3, 1)) dg_cL_law_15 20 rfl
theorem dL_law_949 : decode cL_law 949 = .ok (.invokestatic 228, 3) := dk_at (r := (949, .invokestatic 228, 3)) dg_cL_law_15 21 rfl
theorem dL_law_952 : decode cL_law 952 = .ok (.istore 5, 2) := dk_at (r := (952, .istore 5, 2)) dg_cL_law_15 22 rfl
theorem dL_law_954 : decode cL_law 954 = .ok (.aload_n 2, 1) := dk_at (r := (954, .aload_n 2, 1)) dg_cL_law_15 23 rfl
theorem dL_law_955 : decode cL_law 955 = .ok (.aload_n 0, 1) := dk_at (r := (955, .aload_n 0, 1)) dg_cL_law_15 24 rfl
theorem dL_law_956 : decode cL_law 956 = .ok (.iload 4, 2) := dk_at (r := (956, .iload 4, 2)) dg_cL_law_15 25 rfl
theorem dL_law_958 : decode cL_law 958 = .ok (.iconst 1, 1) := dk_at (r := (958, .iconst 1, 1)) dg_cL_law_15 26 rfl
theorem dL_law_959 : decode cL_law 959 = .ok (.iadd, 1) := dk_at (r := (959, .iadd, 1)) dg_cL_law_15 27 rfl
theorem dL_law_960 : decode cL_law 960 = .ok (.iaload, 1) := dk_at (r := (960, .iaload, 1)) dg_cL_law_15 28 rfl
theorem dL_law_961 : decode cL_law 961 = .ok (.aload_n 0, 1) := dk_at (r := (961, .aload_n 0, 1)) dg_cL_law_15 29 rfl
theorem dL_law_962 : decode cL_law 962 = .ok (.iload 4, 2) := dk_at (r := (962, .iload 4, 2)) dg_cL_law_15 30 rfl
theorem dL_law_964 : decode cL_law 964 = .ok (.iconst 2, 1) := dk_at (r := (964, .iconst 2, 1)) dg_cL_law_15 31 rfl
theorem dg_cL_law_16 : dk cL_law [(965, .iadd, 1), (966, .iaload, 1), (967, .aload_n 0, 1), (968, .iload 4, 2), (970, .iconst 3, 1), (971, .iadd, 1), (972, .iaload, 1), (973, .ifCond .eq 7, 3), (976, .iconst 1, 1), (977, .goto 4, 3), (980, .iconst 0, 1), (981, .invokevirtual 230, 3), (984, .istore 6, 2), (986, .goto 1455, 3), (989, .aload_n 1, 1), (990, .aload_n 0, 1), (991, .iload 4, 2), (993, .iconst 1, 1), (994, .iadd, 1), (995, .iaload, 1), (996, .aload_n 0, 1), (997, .iload 4, 2), (999, .iconst 2, 1), (1000, .iadd, 1), (1001, .iaload, 1), (1002, .aload_n 0, 1), (1003, .iload 4, 2), (1005, .iconst 3, 1), (1006, .iadd, 1), (1007, .iaload, 1), (1008, .ifCond .eq 7, 3), (1011, .iconst 1, 1)] = true := by decide +kernel
theorem dL_law_965 : decode cL_law 965 = .ok (.iadd, 1) := dk_at (r := (965, .iadd, 1)) dg_cL_law_16 0 rfl
theorem dL_law_966 : decode cL_law 966 = .ok (.iaload, 1) := dk_at (r := (966, .iaload, 1)) dg_cL_law_16 1 rfl
theorem dL_law_967 : decode cL_law 967 = .ok (.aload_n 0, 1) := dk_at (r := (967, .aload_n 0, 1)) dg_cL_law_16 2 rfl
theorem dL_law_968 : decode cL_law 968 = .ok (.iload 4, 2) := dk_at (r := (968, .iload 4, 2)) dg_cL_law_16 3 rfl
theorem dL_law_970 : decode cL_law 970 = .ok (.iconst 3, 1) := dk_at (r := (970, .iconst 3, 1)) dg_cL_law_16 4 rfl
theorem dL_law_971 : decode cL_law 971 = .ok (.iadd, 1) := dk_at (r := (971, .iadd, 1)) dg_cL_law_16 5 rfl
theorem dL_law_972 : decode cL_law 972 = .ok (.iaload, 1) := dk_at (r := (972, .iaload, 1)) dg_cL_law_16 6 rfl
theorem dL_law_973 : decode cL_law 973 = .ok (.ifCond .eq 7, 3) := dk_at (r := (973, .ifCond .eq 7, 3)) dg_cL_law_16 7 rfl
theorem dL_law_976 : decode cL_law 976 = .ok (.iconst 1, 1) := dk_at (r := (976, .iconst 1, 1)) dg_cL_law_16 8 rfl
theorem dL_law_977 : decode cL_law 977 = .ok (.goto 4, 3) := dk_at (r := (977, .goto 4, 3)) dg_cL_law_16 9 rfl
theorem dL_law_980 : decode cL_law 980 = .ok (.iconst 0, 1) := dk_at (r := (980, .iconst 0, 1)) dg_cL_law_16 10 rfl
theorem dL_law_981 : decode cL_law 981 = .ok (.invokevirtual 230, 3) := dk_at (r := (981, .invokevirtual 230, 3)) dg_cL_law_16 11 rfl
theorem dL_law_984 : decode cL_law 984 = .ok (.istore 6, 2) := dk_at (r := (984, .istore 6, 2)) dg_cL_law_16 12 rfl
theorem dL_law_986 : decode cL_law 986 = .ok (.goto 1455, 3) := dk_at (r := (986, .goto 1455, 3)) dg_cL_law_16 13 rfl
theorem dL_law_989 : decode cL_law 989 = .ok (.aload_n 1, 1) := dk_at (r := (989, .aload_n 1, 1)) dg_cL_law_16 14 rfl
theorem dL_law_990 : decode cL_law 990 = .ok (.aload_n 0, 1) := dk_at (r := (990, .aload_n 0, 1)) dg_cL_law_16 15 rfl
theorem dL_law_991 : decode cL_law 991 = .ok (.iload 4, 2) := dk_at (r := (991, .iload 4, 2)) dg_cL_law_16 16 rfl
theorem dL_law_993 : decode cL_law 993 = .ok (.iconst 1, 1) := dk_at (r := (993, .iconst 1, 1)) dg_cL_law_16 17 rfl
theorem dL_law_994 : decode cL_law 994 = .ok (.iadd, 1) := dk_at (r := (994, .iadd, 1)) dg_cL_law_16 18 rfl
theorem dL_law_995 : decode cL_law 995 = .ok (.iaload, 1) := dk_at (r := (995, .iaload, 1)) dg_cL_law_16 19 rfl
theorem dL_law_996 : decode cL_law 996 = .ok (.aload_n 0, 1) := dk_at (r := (996, .aload_n 0, 1)) dg_cL_law_16 20 rfl
theorem dL_law_997 : decode cL_law 997 = .ok (.iload 4, 2) := dk_at (r := (997, .iload 4, 2)) dg_cL_law_16 21 rfl
theorem dL_law_999 : decode cL_law 999 = .ok (.iconst 2, 1) := dk_at (r := (999, .iconst 2, 1)) dg_cL_law_16 22 rfl
theorem dL_law_1000 : decode cL_law 1000 = .ok (.iadd, 1) := dk_at (r := (1000, .iadd, 1)) dg_cL_law_16 23 rfl
theorem dL_law_1001 : decode cL_law 1001 = .ok (.iaload, 1) := dk_at (r := (1001, .iaload, 1)) dg_cL_law_16 24 rfl
theorem dL_law_1002 : decode cL_law 1002 = .ok (.aload_n 0, 1) := dk_at (r := (1002, .aload_n 0, 1)) dg_cL_law_16 25 rfl
theorem dL_law_1003 : decode cL_law 1003 = .ok (.iload 4, 2) := dk_at (r := (1003, .iload 4, 2)) dg_cL_law_16 26 rfl
theorem dL_law_1005 : decode cL_law 1005 = .ok (.iconst 3, 1) := dk_at (r := (1005, .iconst 3, 1)) dg_cL_law_16 27 rfl
theorem dL_law_1006 : decode cL_law 1006 = .ok (.iadd, 1) := dk_at (r := (1006, .iadd, 1)) dg_cL_law_16 28 rfl
theorem dL_law_1007 : decode cL_law 1007 = .ok (.iaload, 1) := dk_at (r := (1007, .iaload, 1)) dg_cL_law_16 29 rfl
theorem dL_law_1008 : decode cL_law 1008 = .ok (.ifCond .eq 7, 3) := dk_at (r := (1008, .ifCond .eq 7, 3)) dg_cL_law_16 30 rfl
theorem dL_law_1011 : decode cL_law 1011 = .ok (.iconst 1, 1) := dk_at (r := (1011, .iconst 1, 1)) dg_cL_law_16 31 rfl
theorem dg_cL_law_17 : dk cL_law [(1012, .goto 4, 3), (1015, .iconst 0, 1), (1016, .aload_n 3, 1), (1017, .invokestatic 231, 3), (1020, .istore 5, 2), (1022, .aload_n 2, 1), (1023, .aload_n 0, 1), (1024, .iload 4, 2), (1026, .iconst 1, 1), (1027, .iadd, 1), (1028, .iaload, 1), (1029, .aload_n 0, 1), (1030, .iload 4, 2), (1032, .iconst 2, 1), (1033, .iadd, 1), (1034, .iaload, 1), (1035, .aload_n 0, 1), (1036, .iload 4, 2), (1038, .iconst 3, 1), (1039, .iadd, 1), (1040, .iaload, 1), (1041, .ifCond .eq 7, 3), (1044, .iconst 1, 1), (1045, .goto 4, 3), (1048, .iconst 0, 1), (1049, .invokevirtual 233, 3), (1052, .istore 6, 2), (1054, .goto 1387, 3), (1057, .aload_n 1, 1), (1058, .aload_n 0, 1), (1059, .iload 4, 2), (1061, .iconst 1, 1)] = true := by decide +kernel
theorem dL_law_1012 : decode cL_law 1012 = .ok (.goto 4, 3) := dk_at (r := (1012, .goto 4, 3)) dg_cL_law_17 0 rfl
theorem dL_law_1015 : decode cL_law 1015 = .ok (.iconst 0, 1) := dk_at (r := (1015, .iconst 0, 1)) dg_cL_law_17 1 rfl
theorem dL_law_1016 : decode cL_law 1016 = .ok (.aload_n 3, 1) := dk_at (r := (1016, .aload_n 3, 1)) dg_cL_law_17 2 rfl
theorem dL_law_1017 : decode cL_law 1017 = .ok (.invokestatic 231, 3) := dk_at (r := (1017, .invokestatic 231, 3)) dg_cL_law_17 3 rfl
theorem dL_law_1020 : decode cL_law 1020 = .ok (.istore 5, 2) := dk_at (r := (1020, .istore 5, 2)) dg_cL_law_17 4 rfl
theorem dL_law_1022 : decode cL_law 1022 = .ok (.aload_n 2, 1) := dk_at (r := (1022, .aload_n 2, 1)) dg_cL_law_17 5 rfl
theorem dL_law_1023 : decode cL_law 1023 = .ok (.aload_n 0, 1) := dk_at (r := (1023, .aload_n 0, 1)) dg_cL_law_17 6 rfl
theorem dL_law_1024 : decode cL_law 1024 = .ok (.iload 4, 2) := dk_at (r := (1024, .iload 4, 2)) dg_cL_law_17 7 rfl
theorem dL_law_1026 : decode cL_law 1026 = .ok (.iconst 1, 1) := dk_at (r := (1026, .iconst 1, 1)) dg_cL_law_17 8 rfl
theorem dL_law_1027 : decode cL_law 1027 = .ok (.iadd, 1) := dk_at (r := (1027, .iadd, 1)) dg_cL_law_17 9 rfl
theorem dL_law_1028 : decode cL_law 1028 = .ok (.iaload, 1) := dk_at (r := (1028, .iaload, 1)) dg_cL_law_17 10 rfl
theorem dL_law_1029 : decode cL_law 1029 = .ok (.aload_n 0, 1) := dk_at (r := (1029, .aload_n 0, 1)) dg_cL_law_17 11 rfl
theorem dL_law_1030 : decode cL_law 1030 = .ok (.iload 4, 2) := dk_at (r := (1030, .iload 4, 2)) dg_cL_law_17 12 rfl
theorem dL_law_1032 : decode cL_law 1032 = .ok (.iconst 2, 1) := dk_at (r := (1032, .iconst 2, 1)) dg_cL_law_17 13 rfl
theorem dL_law_1033 : decode cL_law 1033 = .ok (.iadd, 1) := dk_at (r := (1033, .iadd, 1)) dg_cL_law_17 14 rfl
theorem dL_law_1034 : decode cL_law 1034 = .ok (.iaload, 1) := dk_at (r := (1034, .iaload, 1)) dg_cL_law_17 15 rfl
theorem dL_law_1035 : decode cL_law 1035 = .ok (.aload_n 0, 1) := dk_at (r := (1035, .aload_n 0, 1)) dg_cL_law_17 16 rfl
theorem dL_law_1036 : decode cL_law 1036 = .ok (.iload 4, 2) := dk_at (r := (1036, .iload 4, 2)) dg_cL_law_17 17 rfl
theorem dL_law_1038 : decode cL_law 1038 = .ok (.iconst 3, 1) := dk_at (r := (1038, .iconst 3, 1)) dg_cL_law_17 18 rfl
theorem dL_law_1039 : decode cL_law 1039 = .ok (.iadd, 1) := dk_at (r := (1039, .iadd, 1)) dg_cL_law_17 19 rfl
theorem dL_law_1040 : decode cL_law 1040 = .ok (.iaload, 1) := dk_at (r := (1040, .iaload, 1)) dg_cL_law_17 20 rfl
theorem dL_law_1041 : decode cL_law 1041 = .ok (.ifCond .eq 7, 3) := dk_at (r := (1041, .ifCond .eq 7, 3)) dg_cL_law_17 21 rfl
theorem dL_law_1044 : decode cL_law 1044 = .ok (.iconst 1, 1) := dk_at (r := (1044, .iconst 1, 1)) dg_cL_law_17 22 rfl
theorem dL_law_1045 : decode cL_law 1045 = .ok (.goto 4, 3) := dk_at (r := (1045, .goto 4, 3)) dg_cL_law_17 23 rfl
theorem dL_law_1048 : decode cL_law 1048 = .ok (.iconst 0, 1) := dk_at (r := (1048, .iconst 0, 1)) dg_cL_law_17 24 rfl
theorem dL_law_1049 : decode cL_law 1049 = .ok (.invokevirtual 233, 3) := dk_at (r := (1049, .invokevirtual 233, 3)) dg_cL_law_17 25 rfl
theorem dL_law_1052 : decode cL_law 1052 = .ok (.istore 6, 2) := dk_at (r := (1052, .istore 6, 2)) dg_cL_law_17 26 rfl
theorem dL_law_1054 : decode cL_law 1054 = .ok (.goto 1387, 3) := dk_at (r := (1054, .goto 1387, 3)) dg_cL_law_17 27 rfl
theorem dL_law_1057 : decode cL_law 1057 = .ok (.aload_n 1, 1) := dk_at (r := (1057, .aload_n 1, 1)) dg_cL_law_17 28 rfl
theorem dL_law_1058 : decode cL_law 1058 = .ok (.aload_n 0, 1) := dk_at (r := (1058, .aload_n 0, 1)) dg_cL_law_17 29 rfl
theorem dL_law_1059 : decode cL_law 1059 = .ok (.iload 4, 2) := dk_at (r := (1059, .iload 4, 2)) dg_cL_law_17 30 rfl
theorem dL_law_1061 : decode cL_law 1061 = .ok (.iconst 1, 1) := dk_at (r := (1061, .iconst 1, 1)) dg_cL_law_17 31 rfl
theorem dg_cL_law_18 : dk cL_law [(1062, .iadd, 1), (1063, .iaload, 1), (1064, .aload_n 0, 1), (1065, .iload 4, 2), (1067, .iconst 2, 1), (1068, .iadd, 1), (1069, .iaload, 1), (1070, .aload_n 3, 1), (1071, .invokestatic 234, 3), (1074, .istore 5, 2), (1076, .aload_n 2, 1), (1077, .aload_n 0, 1), (1078, .iload 4, 2), (1080, .iconst 1, 1), (1081, .iadd, 1), (1082, .iaload, 1), (1083, .aload_n 0, 1), (1084, .iload 4, 2), (1086, .iconst 2, 1), (1087, .iadd, 1), (1088, .iaload, 1), (1089, .invokevirtual 236, 3), (1092, .istore 6, 2), (1094, .goto 1347, 3), (1097, .aload_n 1, 1), (1098, .aload_n 0, 1), (1099, .iload 4, 2), (1101, .iconst 1, 1), (1102, .iadd, 1), (1103, .iaload, 1), (1104, .aload_n 0, 1), (1105, .iload 4, 2)] = true := by decide +kernel
theorem dL_law_1062 : decode cL_law 1062 = .ok (.iadd, 1) := dk_at (r := (1062, .iadd, 1)) dg_cL_law_18 0 rfl
theorem dL_law_1063 : decode cL_law 1063 = .ok (.iaload, 1) := dk_at (r := (1063, .iaload, 1)) dg_cL_law_18 1 rfl
theorem dL_law_1064 : decode cL_law 1064 = .ok (.aload_n 0, 1) := dk_at (r := (1064, .aload_n 0, 1)) dg_cL_law_18 2 rfl
theorem dL_law_1065 : decode cL_law 1065 = .ok (.iload 4, 2) := dk_at (r := (1065, .iload 4, 2)) dg_cL_law_18 3 rfl
theorem dL_law_1067 : decode cL_law 1067 = .ok (.iconst 2, 1) := dk_at (r := (1067, .iconst 2, 1)) dg_cL_law_18 4 rfl
theorem dL_law_1068 : decode cL_law 1068 = .ok (.iadd, 1) := dk_at (r := (1068, .iadd, 1)) dg_cL_law_18 5 rfl
theorem dL_law_1069 : decode cL_law 1069 = .ok (.iaload, 1) := dk_at (r := (1069, .iaload, 1)) dg_cL_law_18 6 rfl
theorem dL_law_1070 : decode cL_law 1070 = .ok (.aload_n 3, 1) := dk_at (r := (1070, .aload_n 3, 1)) dg_cL_law_18 7 rfl
theorem dL_law_1071 : decode cL_law 1071 = .ok (.invokestatic 234, 3) := dk_at (r := (1071, .invokestatic 234, 3)) dg_cL_law_18 8 rfl
theorem dL_law_1074 : decode cL_law 1074 = .ok (.istore 5, 2) := dk_at (r := (1074, .istore 5, 2)) dg_cL_law_18 9 rfl
theorem dL_law_1076 : decode cL_law 1076 = .ok (.aload_n 2, 1) := dk_at (r := (1076, .aload_n 2, 1)) dg_cL_law_18 10 rfl
theorem dL_law_1077 : decode cL_law 1077 = .ok (.aload_n 0, 1) := dk_at (r := (1077, .aload_n 0, 1)) dg_cL_law_18 11 rfl
theorem dL_law_1078 : decode cL_law 1078 = .ok (.iload 4, 2) := dk_at (r := (1078, .iload 4, 2)) dg_cL_law_18 12 rfl
theorem dL_law_1080 : decode cL_law 1080 = .ok (.iconst 1, 1) := dk_at (r := (1080, .iconst 1, 1)) dg_cL_law_18 13 rfl
theorem dL_law_1081 : decode cL_law 1081 = .ok (.iadd, 1) := dk_at (r := (1081, .iadd, 1)) dg_cL_law_18 14 rfl
theorem dL_law_1082 : decode cL_law 1082 = .ok (.iaload, 1) := dk_at (r := (1082, .iaload, 1)) dg_cL_law_18 15 rfl
theorem dL_law_1083 : decode cL_law 1083 = .ok (.aload_n 0, 1) := dk_at (r := (1083, .aload_n 0, 1)) dg_cL_law_18 16 rfl
theorem dL_law_1084 : decode cL_law 1084 = .ok (.iload 4, 2) := dk_at (r := (1084, .iload 4, 2)) dg_cL_law_18 17 rfl
theorem dL_law_1086 : decode cL_law 1086 = .ok (.iconst 2, 1) := dk_at (r := (1086, .iconst 2, 1)) dg_cL_law_18 18 rfl
theorem dL_law_1087 : decode cL_law 1087 = .ok (.iadd, 1) := dk_at (r := (1087, .iadd, 1)) dg_cL_law_18 19 rfl
theorem dL_law_1088 : decode cL_law 1088 = .ok (.iaload, 1) := dk_at (r := (1088, .iaload, 1)) dg_cL_law_18 20 rfl
theorem dL_law_1089 : decode cL_law 1089 = .ok (.invokevirtual 236, 3) := dk_at (r := (1089, .invokevirtual 236, 3)) dg_cL_law_18 21 rfl
theorem dL_law_1092 : decode cL_law 1092 = .ok (.istore 6, 2) := dk_at (r := (1092, .istore 6, 2)) dg_cL_law_18 22 rfl
theorem dL_law_1094 : decode cL_law 1094 = .ok (.goto 1347, 3) := dk_at (r := (1094, .goto 1347, 3)) dg_cL_law_18 23 rfl
theorem dL_law_1097 : decode cL_law 1097 = .ok (.aload_n 1, 1) := dk_at (r := (1097, .aload_n 1, 1)) dg_cL_law_18 24 rfl
theorem dL_law_1098 : decode cL_law 1098 = .ok (.aload_n 0, 1) := dk_at (r := (1098, .aload_n 0, 1)) dg_cL_law_18 25 rfl
theorem dL_law_1099 : decode cL_law 1099 = .ok (.iload 4, 2) := dk_at (r := (1099, .iload 4, 2)) dg_cL_law_18 26 rfl
theorem dL_law_1101 : decode cL_law 1101 = .ok (.iconst 1, 1) := dk_at (r := (1101, .iconst 1, 1)) dg_cL_law_18 27 rfl
theorem dL_law_1102 : decode cL_law 1102 = .ok (.iadd, 1) := dk_at (r := (1102, .iadd, 1)) dg_cL_law_18 28 rfl
theorem dL_law_1103 : decode cL_law 1103 = .ok (.iaload, 1) := dk_at (r := (1103, .iaload, 1)) dg_cL_law_18 29 rfl
theorem dL_law_1104 : decode cL_law 1104 = .ok (.aload_n 0, 1) := dk_at (r := (1104, .aload_n 0, 1)) dg_cL_law_18 30 rfl
theorem dL_law_1105 : decode cL_law 1105 = .ok (.iload 4, 2) := dk_at (r := (1105, .iload 4, 2)) dg_cL_law_18 31 rfl
theorem dg_cL_law_19 : dk cL_law [(1107, .iconst 2, 1), (1108, .iadd, 1), (1109, .iaload, 1), (1110, .aload_n 3, 1), (1111, .invokestatic 237, 3), (1114, .istore 5, 2), (1116, .aload_n 2, 1), (1117, .aload_n 0, 1), (1118, .iload 4, 2), (1120, .iconst 1, 1), (1121, .iadd, 1), (1122, .iaload, 1), (1123, .aload_n 0, 1), (1124, .iload 4, 2), (1126, .iconst 2, 1), (1127, .iadd, 1), (1128, .iaload, 1), (1129, .invokevirtual 239, 3), (1132, .istore 6, 2), (1134, .goto 1307, 3), (1137, .aload_n 1, 1), (1138, .aload_n 0, 1), (1139, .iload 4, 2), (1141, .iconst 1, 1), (1142, .iadd, 1), (1143, .iaload, 1), (1144, .aload_n 0, 1), (1145, .iload 4, 2), (1147, .iconst 2, 1), (1148, .iadd, 1), (1149, .iaload, 1), (1150, .aload_n 3, 1)] = true := by decide +kernel
theorem dL_law_1107 : decode cL_law 1107 = .ok (.iconst 2, 1) := dk_at (r := (1107, .iconst 2, 1)) dg_cL_law_19 0 rfl
theorem dL_law_1108 : decode cL_law 1108 = .ok (.iadd, 1) := dk_at (r := (1108, .iadd, 1)) dg_cL_law_19 1 rfl
theorem dL_law_1109 : decode cL_law 1109 = .ok (.iaload, 1) := dk_at (r := (1109, .iaload, 1)) dg_cL_law_19 2 rfl
theorem dL_law_1110 : decode cL_law 1110 = .ok (.aload_n 3, 1) := dk_at (r := (1110, .aload_n 3, 1)) dg_cL_law_19 3 rfl
theorem dL_law_1111 : decode cL_law 1111 = .ok (.invokestatic 237, 3) := dk_at (r := (1111, .invokestatic 237, 3)) dg_cL_law_19 4 rfl
theorem dL_law_1114 : decode cL_law 1114 = .ok (.istore 5, 2) := dk_at (r := (1114, .istore 5, 2)) dg_cL_law_19 5 rfl
theorem dL_law_1116 : decode cL_law 1116 = .ok (.aload_n 2, 1) := dk_at (r := (1116, .aload_n 2, 1)) dg_cL_law_19 6 rfl
theorem dL_law_1117 : decode cL_law 1117 = .ok (.aload_n 0, 1) := dk_at (r := (1117, .aload_n 0, 1)) dg_cL_law_19 7 rfl
theorem dL_law_1118 : decode cL_law 1118 = .ok (.iload 4, 2) := dk_at (r := (1118, .iload 4, 2)) dg_cL_law_19 8 rfl
theorem dL_law_1120 : decode cL_law 1120 = .ok (.iconst 1, 1) := dk_at (r := (1120, .iconst 1, 1)) dg_cL_law_19 9 rfl
theorem dL_law_1121 : decode cL_law 1121 = .ok (.iadd, 1) := dk_at (r := (1121, .iadd, 1)) dg_cL_law_19 10 rfl
theorem dL_law_1122 : decode cL_law 1122 = .ok (.iaload, 1) := dk_at (r := (1122, .iaload, 1)) dg_cL_law_19 11 rfl
theorem dL_law_1123 : decode cL_law 1123 = .ok (.aload_n 0, 1) := dk_at (r := (1123, .aload_n 0, 1)) dg_cL_law_19 12 rfl
theorem dL_law_1124 : decode cL_law 1124 = .ok (.iload 4, 2) := dk_at (r := (1124, .iload 4, 2)) dg_cL_law_19 13 rfl
theorem dL_law_1126 : decode cL_law 1126 = .ok (.iconst 2, 1) := dk_at (r := (1126, .iconst 2, 1)) dg_cL_law_19 14 rfl
theorem dL_law_1127 : decode cL_law 1127 = .ok (.iadd, 1) := dk_at (r := (1127, .iadd, 1)) dg_cL_law_19 15 rfl
theorem dL_law_1128 : decode cL_law 1128 = .ok (.iaload, 1) := dk_at (r := (1128, .iaload, 1)) dg_cL_law_19 16 rfl
theorem dL_law_1129 : decode cL_law 1129 = .ok (.invokevirtual 239, 3) := dk_at (r := (1129, .invokevirtual 239, 3)) dg_cL_law_19 17 rfl
theorem dL_law_1132 : decode cL_law 1132 = .ok (.istore 6, 2) := dk_at (r := (1132, .istore 6, 2)) dg_cL_law_19 18 rfl
theorem dL_law_1134 : decode cL_law 1134 = .ok (.goto 1307, 3) := dk_at (r := (1134, .goto 1307, 3)) dg_cL_law_19 19 rfl
theorem dL_law_1137 : decode cL_law 1137 = .ok (.aload_n 1, 1) := dk_at (r := (1137, .aload_n 1, 1)) dg_cL_law_19 20 rfl
theorem dL_law_1138 : decode cL_law 1138 = .ok (.aload_n 0, 1) := dk_at (r := (1138, .aload_n 0, 1)) dg_cL_law_19 21 rfl
theorem dL_law_1139 : decode cL_law 1139 = .ok (.iload 4, 2) := dk_at (r := (1139, .iload 4, 2)) dg_cL_law_19 22 rfl
theorem dL_law_1141 : decode cL_law 1141 = .ok (.iconst 1, 1) := dk_at (r := (1141, .iconst 1, 1)) dg_cL_law_19 23 rfl
theorem dL_law_1142 : decode cL_law 1142 = .ok (.iadd, 1) := dk_at (r := (1142, .iadd, 1)) dg_cL_law_19 24 rfl
theorem dL_law_1143 : decode cL_law 1143 = .ok (.iaload, 1) := dk_at (r := (1143, .iaload, 1)) dg_cL_law_19 25 rfl
theorem dL_law_1144 : decode cL_law 1144 = .ok (.aload_n 0, 1) := dk_at (r := (1144, .aload_n 0, 1)) dg_cL_law_19 26 rfl
theorem dL_law_1145 : decode cL_law 1145 = .ok (.iload 4, 2) := dk_at (r := (1145, .iload 4, 2)) dg_cL_law_19 27 rfl
theorem dL_law_1147 : decode cL_law 1147 = .ok (.iconst 2, 1) := dk_at (r := (1147, .iconst 2, 1)) dg_cL_law_19 28 rfl
theorem dL_law_1148 : decode cL_law 1148 = .ok (.iadd, 1) := dk_at (r := (1148, .iadd, 1)) dg_cL_law_19 29 rfl
theorem dL_law_1149 : decode cL_law 1149 = .ok (.iaload, 1) := dk_at (r := (1149, .iaload, 1)) dg_cL_law_19 30 rfl
theorem dL_law_1150 : decode cL_law 1150 = .ok (.aload_n 3, 1) := dk_at (r := (1150, .aload_n 3, 1)) dg_cL_law_19 31 rfl
theorem dg_cL_law_20 : dk cL_law [(1151, .invokestatic 240, 3), (1154, .istore 5, 2), (1156, .aload_n 2, 1), (1157, .aload_n 0, 1), (1158, .iload 4, 2), (1160, .iconst 1, 1), (1161, .iadd, 1), (1162, .iaload, 1), (1163, .aload_n 0, 1), (1164, .iload 4, 2), (1166, .iconst 2, 1), (1167, .iadd, 1), (1168, .iaload, 1), (1169, .invokevirtual 242, 3), (1172, .istore 6, 2), (1174, .goto 1267, 3), (1177, .aload_n 1, 1), (1178, .aload_n 0, 1), (1179, .iload 4, 2), (1181, .iconst 1, 1), (1182, .iadd, 1), (1183, .iaload, 1), (1184, .aload_n 3, 1), (1185, .invokestatic 243, 3), (1188, .istore 5, 2), (1190, .aload_n 2, 1), (1191, .aload_n 0, 1), (1192, .iload 4, 2), (1194, .iconst 1, 1), (1195, .iadd, 1), (1196, .iaload, 1), (1197, .invokevirtual 246, 3)] = true := by decide +kernel
theorem dL_law_1151 : decode cL_law 1151 = .ok (.invokestatic 240, 3) := dk_at (r := (1151, .invokestatic 240, 3)) dg_cL_law_20 0 rfl
theorem dL_law_1154 : decode cL_law 1154 = .ok (.istore 5, 2) := dk_at (r := (1154, .istore 5, 2)) dg_cL_law_20 1 rfl
theorem dL_law_1156 : decode cL_law 1156 = .ok (.aload_n 2, 1) := dk_at (r := (1156, .aload_n 2, 1)) dg_cL_law_20 2 rfl
theorem dL_law_1157 : decode cL_law 1157 = .ok (.aload_n 0, 1) := dk_at (r := (1157, .aload_n 0, 1)) dg_cL_law_20 3 rfl
theorem dL_law_1158 : decode cL_law 1158 = .ok (.iload 4, 2) := dk_at (r := (1158, .iload 4, 2)) dg_cL_law_20 4 rfl
theorem dL_law_1160 : decode cL_law 1160 = .ok (.iconst 1, 1) := dk_at (r := (1160, .iconst 1, 1)) dg_cL_law_20 5 rfl
theorem dL_law_1161 : decode cL_law 1161 = .ok (.iadd, 1) := dk_at (r := (1161, .iadd, 1)) dg_cL_law_20 6 rfl
theorem dL_law_1162 : decode cL_law 1162 = .ok (.iaload, 1) := dk_at (r := (1162, .iaload, 1)) dg_cL_law_20 7 rfl
theorem dL_law_1163 : decode cL_law 1163 = .ok (.aload_n 0, 1) := dk_at (r := (1163, .aload_n 0, 1)) dg_cL_law_20 8 rfl
theorem dL_law_1164 : decode cL_law 1164 = .ok (.iload 4, 2) := dk_at (r := (1164, .iload 4, 2)) dg_cL_law_20 9 rfl
theorem dL_law_1166 : decode cL_law 1166 = .ok (.iconst 2, 1) := dk_at (r := (1166, .iconst 2, 1)) dg_cL_law_20 10 rfl
theorem dL_law_1167 : decode cL_law 1167 = .ok (.iadd, 1) := dk_at (r := (1167, .iadd, 1)) dg_cL_law_20 11 rfl
theorem dL_law_1168 : decode cL_law 1168 = .ok (.iaload, 1) := dk_at (r := (1168, .iaload, 1)) dg_cL_law_20 12 rfl
theorem dL_law_1169 : decode cL_law 1169 = .ok (.invokevirtual 242, 3) := dk_at (r := (1169, .invokevirtual 242, 3)) dg_cL_law_20 13 rfl
theorem dL_law_1172 : decode cL_law 1172 = .ok (.istore 6, 2) := dk_at (r := (1172, .istore 6, 2)) dg_cL_law_20 14 rfl
theorem dL_law_1174 : decode cL_law 1174 = .ok (.goto 1267, 3) := dk_at (r := (1174, .goto 1267, 3)) dg_cL_law_20 15 rfl
theorem dL_law_1177 : decode cL_law 1177 = .ok (.aload_n 1, 1) := dk_at (r := (1177, .aload_n 1, 1)) dg_cL_law_20 16 rfl
theorem dL_law_1178 : decode cL_law 1178 = .ok (.aload_n 0, 1) := dk_at (r := (1178, .aload_n 0, 1)) dg_cL_law_20 17 rfl
theorem dL_law_1179 : decode cL_law 1179 = .ok (.iload 4, 2) := dk_at (r := (1179, .iload 4, 2)) dg_cL_law_20 18 rfl
theorem dL_law_1181 : decode cL_law 1181 = .ok (.iconst 1, 1) := dk_at (r := (1181, .iconst 1, 1)) dg_cL_law_20 19 rfl
theorem dL_law_1182 : decode cL_law 1182 = .ok (.iadd, 1) := dk_at (r := (1182, .iadd, 1)) dg_cL_law_20 20 rfl
theorem dL_law_1183 : decode cL_law 1183 = .ok (.iaload, 1) := dk_at (r := (1183, .iaload, 1)) dg_cL_law_20 21 rfl
theorem dL_law_1184 : decode cL_law 1184 = .ok (.aload_n 3, 1) := dk_at (r := (1184, .aload_n 3, 1)) dg_cL_law_20 22 rfl
theorem dL_law_1185 : decode cL_law 1185 = .ok (.invokestatic 243, 3) := dk_at (r := (1185, .invokestatic 243, 3)) dg_cL_law_20 23 rfl
theorem dL_law_1188 : decode cL_law 1188 = .ok (.istore 5, 2) := dk_at (r := (1188, .istore 5, 2)) dg_cL_law_20 24 rfl
theorem dL_law_1190 : decode cL_law 1190 = .ok (.aload_n 2, 1) := dk_at (r := (1190, .aload_n 2, 1)) dg_cL_law_20 25 rfl
theorem dL_law_1191 : decode cL_law 1191 = .ok (.aload_n 0, 1) := dk_at (r := (1191, .aload_n 0, 1)) dg_cL_law_20 26 rfl
theorem dL_law_1192 : decode cL_law 1192 = .ok (.iload 4, 2) := dk_at (r := (1192, .iload 4, 2)) dg_cL_law_20 27 rfl
theorem dL_law_1194 : decode cL_law 1194 = .ok (.iconst 1, 1) := dk_at (r := (1194, .iconst 1, 1)) dg_cL_law_20 28 rfl
theorem dL_law_1195 : decode cL_law 1195 = .ok (.iadd, 1) := dk_at (r := (1195, .iadd, 1)) dg_cL_law_20 29 rfl
theorem dL_law_1196 : decode cL_law 1196 = .ok (.iaload, 1) := dk_at (r := (1196, .iaload, 1)) dg_cL_law_20 30 rfl
theorem dL_law_1197 : decode cL_law 1197 = .ok (.invokevirtual 246, 3) := dk_at (r := (1197, .invokevirtual 246, 3)) dg_cL_law_20 31 rfl
theorem dg_cL_law_21 : dk cL_law [(1200, .istore 6, 2), (1202, .goto 1239, 3), (1205, .aload_n 1, 1), (1206, .aload_n 0, 1), (1207, .iload 4, 2), (1209, .iconst 1, 1), (1210, .iadd, 1), (1211, .iaload, 1), (1212, .aload_n 3, 1), (1213, .invokestatic 247, 3), (1216, .istore 5, 2), (1218, .aload_n 2, 1), (1219, .aload_n 0, 1), (1220, .iload 4, 2), (1222, .iconst 1, 1), (1223, .iadd, 1), (1224, .iaload, 1), (1225, .invokevirtual 249, 3), (1228, .istore 6, 2), (1230, .goto 1211, 3), (1233, .aload_n 1, 1), (1234, .aload_n 0, 1), (1235, .iload 4, 2), (1237, .iconst 1, 1), (1238, .iadd, 1), (1239, .iaload, 1), (1240, .aload_n 3, 1), (1241, .invokestatic 250, 3), (1244, .istore 5, 2), (1246, .aload_n 2, 1), (1247, .aload_n 0, 1), (1248, .iload 4, 2)] = true := by decide +kernel
theorem dL_law_1200 : decode cL_law 1200 = .ok (.istore 6, 2) := dk_at (r := (1200, .istore 6, 2)) dg_cL_law_21 0 rfl
theorem dL_law_1202 : decode cL_law 1202 = .ok (.goto 1239, 3) := dk_at (r := (1202, .goto 1239, 3)) dg_cL_law_21 1 rfl
theorem dL_law_1205 : decode cL_law 1205 = .ok (.aload_n 1, 1) := dk_at (r := (1205, .aload_n 1, 1)) dg_cL_law_21 2 rfl
theorem dL_law_1206 : decode cL_law 1206 = .ok (.aload_n 0, 1) := dk_at (r := (1206, .aload_n 0, 1)) dg_cL_law_21 3 rfl
theorem dL_law_1207 : decode cL_law 1207 = .ok (.iload 4, 2) := dk_at (r := (1207, .iload 4, 2)) dg_cL_law_21 4 rfl
theorem dL_law_1209 : decode cL_law 1209 = .ok (.iconst 1, 1) := dk_at (r := (1209, .iconst 1, 1)) dg_cL_law_21 5 rfl
theorem dL_law_1210 : decode cL_law 1210 = .ok (.iadd, 1) := dk_at (r := (1210, .iadd, 1)) dg_cL_law_21 6 rfl
theorem dL_law_1211 : decode cL_law 1211 = .ok (.iaload, 1) := dk_at (r := (1211, .iaload, 1)) dg_cL_law_21 7 rfl
theorem dL_law_1212 : decode cL_law 1212 = .ok (.aload_n 3, 1) := dk_at (r := (1212, .aload_n 3, 1)) dg_cL_law_21 8 rfl
theorem dL_law_1213 : decode cL_law 1213 = .ok (.invokestatic 247, 3) := dk_at (r := (1213, .invokestatic 247, 3)) dg_cL_law_21 9 rfl
theorem dL_law_1216 : decode cL_law 1216 = .ok (.istore 5, 2) := dk_at (r := (1216, .istore 5, 2)) dg_cL_law_21 10 rfl
theorem dL_law_1218 : decode cL_law 1218 = .ok (.aload_n 2, 1) := dk_at (r := (1218, .aload_n 2, 1)) dg_cL_law_21 11 rfl
theorem dL_law_1219 : decode cL_law 1219 = .ok (.aload_n 0, 1) := dk_at (r := (1219, .aload_n 0, 1)) dg_cL_law_21 12 rfl
theorem dL_law_1220 : decode cL_law 1220 = .ok (.iload 4, 2) := dk_at (r := (1220, .iload 4, 2)) dg_cL_law_21 13 rfl
theorem dL_law_1222 : decode cL_law 1222 = .ok (.iconst 1, 1) := dk_at (r := (1222, .iconst 1, 1)) dg_cL_law_21 14 rfl
theorem dL_law_1223 : decode cL_law 1223 = .ok (.iadd, 1) := dk_at (r := (1223, .iadd, 1)) dg_cL_law_21 15 rfl
theorem dL_law_1224 : decode cL_law 1224 = .ok (.iaload, 1) := dk_at (r := (1224, .iaload, 1)) dg_cL_law_21 16 rfl
theorem dL_law_1225 : decode cL_law 1225 = .ok (.invokevirtual 249, 3) := dk_at (r := (1225, .invokevirtual 249, 3)) dg_cL_law_21 17 rfl
theorem dL_law_1228 : decode cL_law 1228 = .ok (.istore 6, 2) := dk_at (r := (1228, .istore 6, 2)) dg_cL_law_21 18 rfl
theorem dL_law_1230 : decode cL_law 1230 = .ok (.goto 1211, 3) := dk_at (r := (1230, .goto 1211, 3)) dg_cL_law_21 19 rfl
theorem dL_law_1233 : decode cL_law 1233 = .ok (.aload_n 1, 1) := dk_at (r := (1233, .aload_n 1, 1)) dg_cL_law_21 20 rfl
theorem dL_law_1234 : decode cL_law 1234 = .ok (.aload_n 0, 1) := dk_at (r := (1234, .aload_n 0, 1)) dg_cL_law_21 21 rfl
theorem dL_law_1235 : decode cL_law 1235 = .ok (.iload 4, 2) := dk_at (r := (1235, .iload 4, 2)) dg_cL_law_21 22 rfl
theorem dL_law_1237 : decode cL_law 1237 = .ok (.iconst 1, 1) := dk_at (r := (1237, .iconst 1, 1)) dg_cL_law_21 23 rfl
theorem dL_law_1238 : decode cL_law 1238 = .ok (.iadd, 1) := dk_at (r := (1238, .iadd, 1)) dg_cL_law_21 24 rfl
theorem dL_law_1239 : decode cL_law 1239 = .ok (.iaload, 1) := dk_at (r := (1239, .iaload, 1)) dg_cL_law_21 25 rfl
theorem dL_law_1240 : decode cL_law 1240 = .ok (.aload_n 3, 1) := dk_at (r := (1240, .aload_n 3, 1)) dg_cL_law_21 26 rfl
theorem dL_law_1241 : decode cL_law 1241 = .ok (.invokestatic 250, 3) := dk_at (r := (1241, .invokestatic 250, 3)) dg_cL_law_21 27 rfl
theorem dL_law_1244 : decode cL_law 1244 = .ok (.istore 5, 2) := dk_at (r := (1244, .istore 5, 2)) dg_cL_law_21 28 rfl
theorem dL_law_1246 : decode cL_law 1246 = .ok (.aload_n 2, 1) := dk_at (r := (1246, .aload_n 2, 1)) dg_cL_law_21 29 rfl
theorem dL_law_1247 : decode cL_law 1247 = .ok (.aload_n 0, 1) := dk_at (r := (1247, .aload_n 0, 1)) dg_cL_law_21 30 rfl
theorem dL_law_1248 : decode cL_law 1248 = .ok (.iload 4, 2) := dk_at (r := (1248, .iload 4, 2)) dg_cL_law_21 31 rfl
theorem dg_cL_law_22 : dk cL_law [(1250, .iconst 1, 1), (1251, .iadd, 1), (1252, .iaload, 1), (1253, .invokevirtual 252, 3), (1256, .istore 6, 2), (1258, .goto 1183, 3), (1261, .aload_n 1, 1), (1262, .aload_n 0, 1), (1263, .iload 4, 2), (1265, .iconst 1, 1), (1266, .iadd, 1), (1267, .iaload, 1), (1268, .aload_n 3, 1), (1269, .invokestatic 253, 3), (1272, .istore 5, 2), (1274, .aload_n 2, 1), (1275, .aload_n 0, 1), (1276, .iload 4, 2), (1278, .iconst 1, 1), (1279, .iadd, 1), (1280, .iaload, 1), (1281, .invokevirtual 255, 3), (1284, .istore 6, 2), (1286, .goto 1155, 3), (1289, .aload_n 1, 1), (1290, .aload_n 0, 1), (1291, .iload 4, 2), (1293, .iconst 1, 1), (1294, .iadd, 1), (1295, .iaload, 1), (1296, .aload_n 3, 1), (1297, .invokestatic 256, 3)] = true := by decide +kernel
theorem dL_law_1250 : decode cL_law 1250 = .ok (.iconst 1, 1) := dk_at (r := (1250, .iconst 1, 1)) dg_cL_law_22 0 rfl
theorem dL_law_1251 : decode cL_law 1251 = .ok (.iadd, 1) := dk_at (r := (1251, .iadd, 1)) dg_cL_law_22 1 rfl
theorem dL_law_1252 : decode cL_law 1252 = .ok (.iaload, 1) := dk_at (r := (1252, .iaload, 1)) dg_cL_law_22 2 rfl
theorem dL_law_1253 : decode cL_law 1253 = .ok (.invokevirtual 252, 3) := dk_at (r := (1253, .invokevirtual 252, 3)) dg_cL_law_22 3 rfl
theorem dL_law_1256 : decode cL_law 1256 = .ok (.istore 6, 2) := dk_at (r := (1256, .istore 6, 2)) dg_cL_law_22 4 rfl
theorem dL_law_1258 : decode cL_law 1258 = .ok (.goto 1183, 3) := dk_at (r := (1258, .goto 1183, 3)) dg_cL_law_22 5 rfl
theorem dL_law_1261 : decode cL_law 1261 = .ok (.aload_n 1, 1) := dk_at (r := (1261, .aload_n 1, 1)) dg_cL_law_22 6 rfl
theorem dL_law_1262 : decode cL_law 1262 = .ok (.aload_n 0, 1) := dk_at (r := (1262, .aload_n 0, 1)) dg_cL_law_22 7 rfl
theorem dL_law_1263 : decode cL_law 1263 = .ok (.iload 4, 2) := dk_at (r := (1263, .iload 4, 2)) dg_cL_law_22 8 rfl
theorem dL_law_1265 : decode cL_law 1265 = .ok (.iconst 1, 1) := dk_at (r := (1265, .iconst 1, 1)) dg_cL_law_22 9 rfl
theorem dL_law_1266 : decode cL_law 1266 = .ok (.iadd, 1) := dk_at (r := (1266, .iadd, 1)) dg_cL_law_22 10 rfl
theorem dL_law_1267 : decode cL_law 1267 = .ok (.iaload, 1) := dk_at (r := (1267, .iaload, 1)) dg_cL_law_22 11 rfl
theorem dL_law_1268 : decode cL_law 1268 = .ok (.aload_n 3, 1) := dk_at (r := (1268, .aload_n 3, 1)) dg_cL_law_22 12 rfl
theorem dL_law_1269 : decode cL_law 1269 = .ok (.invokestatic 253, 3) := dk_at (r := (1269, .invokestatic 253, 3)) dg_cL_law_22 13 rfl
theorem dL_law_1272 : decode cL_law 1272 = .ok (.istore 5, 2) := dk_at (r := (1272, .istore 5, 2)) dg_cL_law_22 14 rfl
theorem dL_law_1274 : decode cL_law 1274 = .ok (.aload_n 2, 1) := dk_at (r := (1274, .aload_n 2, 1)) dg_cL_law_22 15 rfl
theorem dL_law_1275 : decode cL_law 1275 = .ok (.aload_n 0, 1) := dk_at (r := (1275, .aload_n 0, 1)) dg_cL_law_22 16 rfl
theorem dL_law_1276 : decode cL_law 1276 = .ok (.iload 4, 2) := dk_at (r := (1276, .iload 4, 2)) dg_cL_law_22 17 rfl
theorem dL_law_1278 : decode cL_law 1278 = .ok (.iconst 1, 1) := dk_at (r := (1278, .iconst 1, 1)) dg_cL_law_22 18 rfl
theorem dL_law_1279 : decode cL_law 1279 = .ok (.iadd, 1) := dk_at (r := (1279, .iadd, 1)) dg_cL_law_22 19 rfl
theorem dL_law_1280 : decode cL_law 1280 = .ok (.iaload, 1) := dk_at (r := (1280, .iaload, 1)) dg_cL_law_22 20 rfl
theorem dL_law_1281 : decode cL_law 1281 = .ok (.invokevirtual 255, 3) := dk_at (r := (1281, .invokevirtual 255, 3)) dg_cL_law_22 21 rfl
theorem dL_law_1284 : decode cL_law 1284 = .ok (.istore 6, 2) := dk_at (r := (1284, .istore 6, 2)) dg_cL_law_22 22 rfl
theorem dL_law_1286 : decode cL_law 1286 = .ok (.goto 1155, 3) := dk_at (r := (1286, .goto 1155, 3)) dg_cL_law_22 23 rfl
theorem dL_law_1289 : decode cL_law 1289 = .ok (.aload_n 1, 1) := dk_at (r := (1289, .aload_n 1, 1)) dg_cL_law_22 24 rfl
theorem dL_law_1290 : decode cL_law 1290 = .ok (.aload_n 0, 1) := dk_at (r := (1290, .aload_n 0, 1)) dg_cL_law_22 25 rfl
theorem dL_law_1291 : decode cL_law 1291 = .ok (.iload 4, 2) := dk_at (r := (1291, .iload 4, 2)) dg_cL_law_22 26 rfl
theorem dL_law_1293 : decode cL_law 1293 = .ok (.iconst 1, 1) := dk_at (r := (1293, .iconst 1, 1)) dg_cL_law_22 27 rfl
theorem dL_law_1294 : decode cL_law 1294 = .ok (.iadd, 1) := dk_at (r := (1294, .iadd, 1)) dg_cL_law_22 28 rfl
theorem dL_law_1295 : decode cL_law 1295 = .ok (.iaload, 1) := dk_at (r := (1295, .iaload, 1)) dg_cL_law_22 29 rfl
theorem dL_law_1296 : decode cL_law 1296 = .ok (.aload_n 3, 1) := dk_at (r := (1296, .aload_n 3, 1)) dg_cL_law_22 30 rfl
theorem dL_law_1297 : decode cL_law 1297 = .ok (.invokestatic 256, 3) := dk_at (r := (1297, .invokestatic 256, 3)) dg_cL_law_22 31 rfl
theorem dg_cL_law_23 : dk cL_law [(1300, .istore 5, 2), (1302, .aload_n 2, 1), (1303, .aload_n 0, 1), (1304, .iload 4, 2), (1306, .iconst 1, 1), (1307, .iadd, 1), (1308, .iaload, 1), (1309, .invokevirtual 258, 3), (1312, .istore 6, 2), (1314, .goto 1127, 3), (1317, .aload_n 1, 1), (1318, .aload_n 0, 1), (1319, .iload 4, 2), (1321, .iconst 1, 1), (1322, .iadd, 1), (1323, .iaload, 1), (1324, .invokevirtual 259, 3), (1327, .pop, 1), (1328, .aload_n 2, 1), (1329, .aload_n 0, 1), (1330, .iload 4, 2), (1332, .iconst 1, 1), (1333, .iadd, 1), (1334, .iaload, 1), (1335, .invokevirtual 262, 3), (1338, .pop, 1), (1339, .goto 1102, 3), (1342, .aload_n 1, 1), (1343, .aload_n 0, 1), (1344, .iload 4, 2), (1346, .iconst 1, 1), (1347, .iadd, 1)] = true := by decide +kernel
theorem dL_law_1300 : decode cL_law 1300 = .ok (.istore 5, 2) := dk_at (r := (1300, .istore 5, 2)) dg_cL_law_23 0 rfl
theorem dL_law_1302 : decode cL_law 1302 = .ok (.aload_n 2, 1) := dk_at (r := (1302, .aload_n 2, 1)) dg_cL_law_23 1 rfl
theorem dL_law_1303 : decode cL_law 1303 = .ok (.aload_n 0, 1) := dk_at (r := (1303, .aload_n 0, 1)) dg_cL_law_23 2 rfl
theorem dL_law_1304 : decode cL_law 1304 = .ok (.iload 4, 2) := dk_at (r := (1304, .iload 4, 2)) dg_cL_law_23 3 rfl
theorem dL_law_1306 : decode cL_law 1306 = .ok (.iconst 1, 1) := dk_at (r := (1306, .iconst 1, 1)) dg_cL_law_23 4 rfl
theorem dL_law_1307 : decode cL_law 1307 = .ok (.iadd, 1) := dk_at (r := (1307, .iadd, 1)) dg_cL_law_23 5 rfl
theorem dL_law_1308 : decode cL_law 1308 = .ok (.iaload, 1) := dk_at (r := (1308, .iaload, 1)) dg_cL_law_23 6 rfl
theorem dL_law_1309 : decode cL_law 1309 = .ok (.invokevirtual 258, 3) := dk_at (r := (1309, .invokevirtual 258, 3)) dg_cL_law_23 7 rfl
theorem dL_law_1312 : decode cL_law 1312 = .ok (.istore 6, 2) := dk_at (r := (1312, .istore 6, 2)) dg_cL_law_23 8 rfl
theorem dL_law_1314 : decode cL_law 1314 = .ok (.goto 1127, 3) := dk_at (r := (1314, .goto 1127, 3)) dg_cL_law_23 9 rfl
theorem dL_law_1317 : decode cL_law 1317 = .ok (.aload_n 1, 1) := dk_at (r := (1317, .aload_n 1, 1)) dg_cL_law_23 10 rfl
theorem dL_law_1318 : decode cL_law 1318 = .ok (.aload_n 0, 1) := dk_at (r := (1318, .aload_n 0, 1)) dg_cL_law_23 11 rfl
theorem dL_law_1319 : decode cL_law 1319 = .ok (.iload 4, 2) := dk_at (r := (1319, .iload 4, 2)) dg_cL_law_23 12 rfl
theorem dL_law_1321 : decode cL_law 1321 = .ok (.iconst 1, 1) := dk_at (r := (1321, .iconst 1, 1)) dg_cL_law_23 13 rfl
theorem dL_law_1322 : decode cL_law 1322 = .ok (.iadd, 1) := dk_at (r := (1322, .iadd, 1)) dg_cL_law_23 14 rfl
theorem dL_law_1323 : decode cL_law 1323 = .ok (.iaload, 1) := dk_at (r := (1323, .iaload, 1)) dg_cL_law_23 15 rfl
theorem dL_law_1324 : decode cL_law 1324 = .ok (.invokevirtual 259, 3) := dk_at (r := (1324, .invokevirtual 259, 3)) dg_cL_law_23 16 rfl
theorem dL_law_1327 : decode cL_law 1327 = .ok (.pop, 1) := dk_at (r := (1327, .pop, 1)) dg_cL_law_23 17 rfl
theorem dL_law_1328 : decode cL_law 1328 = .ok (.aload_n 2, 1) := dk_at (r := (1328, .aload_n 2, 1)) dg_cL_law_23 18 rfl
theorem dL_law_1329 : decode cL_law 1329 = .ok (.aload_n 0, 1) := dk_at (r := (1329, .aload_n 0, 1)) dg_cL_law_23 19 rfl
theorem dL_law_1330 : decode cL_law 1330 = .ok (.iload 4, 2) := dk_at (r := (1330, .iload 4, 2)) dg_cL_law_23 20 rfl
theorem dL_law_1332 : decode cL_law 1332 = .ok (.iconst 1, 1) := dk_at (r := (1332, .iconst 1, 1)) dg_cL_law_23 21 rfl
theorem dL_law_1333 : decode cL_law 1333 = .ok (.iadd, 1) := dk_at (r := (1333, .iadd, 1)) dg_cL_law_23 22 rfl
theorem dL_law_1334 : decode cL_law 1334 = .ok (.iaload, 1) := dk_at (r := (1334, .iaload, 1)) dg_cL_law_23 23 rfl
theorem dL_law_1335 : decode cL_law 1335 = .ok (.invokevirtual 262, 3) := dk_at (r := (1335, .invokevirtual 262, 3)) dg_cL_law_23 24 rfl
theorem dL_law_1338 : decode cL_law 1338 = .ok (.pop, 1) := dk_at (r := (1338, .pop, 1)) dg_cL_law_23 25 rfl
theorem dL_law_1339 : decode cL_law 1339 = .ok (.goto 1102, 3) := dk_at (r := (1339, .goto 1102, 3)) dg_cL_law_23 26 rfl
theorem dL_law_1342 : decode cL_law 1342 = .ok (.aload_n 1, 1) := dk_at (r := (1342, .aload_n 1, 1)) dg_cL_law_23 27 rfl
theorem dL_law_1343 : decode cL_law 1343 = .ok (.aload_n 0, 1) := dk_at (r := (1343, .aload_n 0, 1)) dg_cL_law_23 28 rfl
theorem dL_law_1344 : decode cL_law 1344 = .ok (.iload 4, 2) := dk_at (r := (1344, .iload 4, 2)) dg_cL_law_23 29 rfl
theorem dL_law_1346 : decode cL_law 1346 = .ok (.iconst 1, 1) := dk_at (r := (1346, .iconst 1, 1)) dg_cL_law_23 30 rfl
theorem dL_law_1347 : decode cL_law 1347 = .ok (.iadd, 1) := dk_at (r := (1347, .iadd, 1)) dg_cL_law_23 31 rfl
theorem dg_cL_law_24 : dk cL_law [(1348, .iaload, 1), (1349, .aload_n 0, 1), (1350, .iload 4, 2), (1352, .iconst 2, 1), (1353, .iadd, 1), (1354, .iaload, 1), (1355, .aload_n 3, 1), (1356, .invokestatic 263, 3), (1359, .istore 5, 2), (1361, .aload_n 2, 1), (1362, .aload_n 0, 1), (1363, .iload 4, 2), (1365, .iconst 1, 1), (1366, .iadd, 1), (1367, .iaload, 1), (1368, .aload_n 0, 1), (1369, .iload 4, 2), (1371, .iconst 2, 1), (1372, .iadd, 1), (1373, .iaload, 1), (1374, .invokevirtual 265, 3), (1377, .istore 6, 2), (1379, .goto 1062, 3), (1382, .aload_n 1, 1), (1383, .aload_n 0, 1), (1384, .iload 4, 2), (1386, .iconst 1, 1), (1387, .iadd, 1), (1388, .iaload, 1), (1389, .aload_n 3, 1), (1390, .invokestatic 266, 3), (1393, .istore 5, 2)] = true := by decide +kernel
theorem dL_law_1348 : decode cL_law 1348 = .ok (.iaload, 1) := dk_at (r := (1348, .iaload, 1)) dg_cL_law_24 0 rfl
theorem dL_law_1349 : decode cL_law 1349 = .ok (.aload_n 0, 1) := dk_at (r := (1349, .aload_n 0, 1)) dg_cL_law_24 1 rfl
theorem dL_law_1350 : decode cL_law 1350 = .ok (.iload 4, 2) := dk_at (r := (1350, .iload 4, 2)) dg_cL_law_24 2 rfl
theorem dL_law_1352 : decode cL_law 1352 = .ok (.iconst 2, 1) := dk_at (r := (1352, .iconst 2, 1)) dg_cL_law_24 3 rfl
theorem dL_law_1353 : decode cL_law 1353 = .ok (.iadd, 1) := dk_at (r := (1353, .iadd, 1)) dg_cL_law_24 4 rfl
theorem dL_law_1354 : decode cL_law 1354 = .ok (.iaload, 1) := dk_at (r := (1354, .iaload, 1)) dg_cL_law_24 5 rfl
theorem dL_law_1355 : decode cL_law 1355 = .ok (.aload_n 3, 1) := dk_at (r := (1355, .aload_n 3, 1)) dg_cL_law_24 6 rfl
theorem dL_law_1356 : decode cL_law 1356 = .ok (.invokestatic 263, 3) := dk_at (r := (1356, .invokestatic 263, 3)) dg_cL_law_24 7 rfl
theorem dL_law_1359 : decode cL_law 1359 = .ok (.istore 5, 2) := dk_at (r := (1359, .istore 5, 2)) dg_cL_law_24 8 rfl
theorem dL_law_1361 : decode cL_law 1361 = .ok (.aload_n 2, 1) := dk_at (r := (1361, .aload_n 2, 1)) dg_cL_law_24 9 rfl
theorem dL_law_1362 : decode cL_law 1362 = .ok (.aload_n 0, 1) := dk_at (r := (1362, .aload_n 0, 1)) dg_cL_law_24 10 rfl
theorem dL_law_1363 : decode cL_law 1363 = .ok (.iload 4, 2) := dk_at (r := (1363, .iload 4, 2)) dg_cL_law_24 11 rfl
theorem dL_law_1365 : decode cL_law 1365 = .ok (.iconst 1, 1) := dk_at (r := (1365, .iconst 1, 1)) dg_cL_law_24 12 rfl
theorem dL_law_1366 : decode cL_law 1366 = .ok (.iadd, 1) := dk_at (r := (1366, .iadd, 1)) dg_cL_law_24 13 rfl
theorem dL_law_1367 : decode cL_law 1367 = .ok (.iaload, 1) := dk_at (r := (1367, .iaload, 1)) dg_cL_law_24 14 rfl
theorem dL_law_1368 : decode cL_law 1368 = .ok (.aload_n 0, 1) := dk_at (r := (1368, .aload_n 0, 1)) dg_cL_law_24 15 rfl
theorem dL_law_1369 : decode cL_law 1369 = .ok (.iload 4, 2) := dk_at (r := (1369, .iload 4, 2)) dg_cL_law_24 16 rfl
theorem dL_law_1371 : decode cL_law 1371 = .ok (.iconst 2, 1) := dk_at (r := (1371, .iconst 2, 1)) dg_cL_law_24 17 rfl
theorem dL_law_1372 : decode cL_law 1372 = .ok (.iadd, 1) := dk_at (r := (1372, .iadd, 1)) dg_cL_law_24 18 rfl
theorem dL_law_1373 : decode cL_law 1373 = .ok (.iaload, 1) := dk_at (r := (1373, .iaload, 1)) dg_cL_law_24 19 rfl
theorem dL_law_1374 : decode cL_law 1374 = .ok (.invokevirtual 265, 3) := dk_at (r := (1374, .invokevirtual 265, 3)) dg_cL_law_24 20 rfl
theorem dL_law_1377 : decode cL_law 1377 = .ok (.istore 6, 2) := dk_at (r := (1377, .istore 6, 2)) dg_cL_law_24 21 rfl
theorem dL_law_1379 : decode cL_law 1379 = .ok (.goto 1062, 3) := dk_at (r := (1379, .goto 1062, 3)) dg_cL_law_24 22 rfl
theorem dL_law_1382 : decode cL_law 1382 = .ok (.aload_n 1, 1) := dk_at (r := (1382, .aload_n 1, 1)) dg_cL_law_24 23 rfl
theorem dL_law_1383 : decode cL_law 1383 = .ok (.aload_n 0, 1) := dk_at (r := (1383, .aload_n 0, 1)) dg_cL_law_24 24 rfl
theorem dL_law_1384 : decode cL_law 1384 = .ok (.iload 4, 2) := dk_at (r := (1384, .iload 4, 2)) dg_cL_law_24 25 rfl
theorem dL_law_1386 : decode cL_law 1386 = .ok (.iconst 1, 1) := dk_at (r := (1386, .iconst 1, 1)) dg_cL_law_24 26 rfl
theorem dL_law_1387 : decode cL_law 1387 = .ok (.iadd, 1) := dk_at (r := (1387, .iadd, 1)) dg_cL_law_24 27 rfl
theorem dL_law_1388 : decode cL_law 1388 = .ok (.iaload, 1) := dk_at (r := (1388, .iaload, 1)) dg_cL_law_24 28 rfl
theorem dL_law_1389 : decode cL_law 1389 = .ok (.aload_n 3, 1) := dk_at (r := (1389, .aload_n 3, 1)) dg_cL_law_24 29 rfl
theorem dL_law_1390 : decode cL_law 1390 = .ok (.invokestatic 266, 3) := dk_at (r := (1390, .invokestatic 266, 3)) dg_cL_law_24 30 rfl
theorem dL_law_1393 : decode cL_law 1393 = .ok (.istore 5, 2) := dk_at (r := (1393, .istore 5, 2)) dg_cL_law_24 31 rfl
theorem dg_cL_law_25 : dk cL_law [(1395, .aload_n 2, 1), (1396, .aload_n 0, 1), (1397, .iload 4, 2), (1399, .iconst 1, 1), (1400, .iadd, 1), (1401, .iaload, 1), (1402, .invokevirtual 268, 3), (1405, .astore 6, 2), (1407, .goto 1034, 3), (1410, .aload_n 1, 1), (1411, .aload_n 0, 1), (1412, .iload 4, 2), (1414, .iconst 1, 1), (1415, .iadd, 1), (1416, .iaload, 1), (1417, .aload_n 3, 1), (1418, .invokestatic 269, 3), (1421, .istore 5, 2), (1423, .aload_n 2, 1), (1424, .aload_n 0, 1), (1425, .iload 4, 2), (1427, .iconst 1, 1), (1428, .iadd, 1), (1429, .iaload, 1), (1430, .invokevirtual 271, 3), (1433, .istore 6, 2), (1435, .goto 1006, 3), (1438, .aload_n 1, 1), (1439, .aload_n 0, 1), (1440, .iload 4, 2), (1442, .iconst 1, 1), (1443, .iadd, 1)] = true := by decide +kernel
theorem dL_law_1395 : decode cL_law 1395 = .ok (.aload_n 2, 1) := dk_at (r := (1395, .aload_n 2, 1)) dg_cL_law_25 0 rfl
theorem dL_law_1396 : decode cL_law 1396 = .ok (.aload_n 0, 1) := dk_at (r := (1396, .aload_n 0, 1)) dg_cL_law_25 1 rfl
theorem dL_law_1397 : decode cL_law 1397 = .ok (.iload 4, 2) := dk_at (r := (1397, .iload 4, 2)) dg_cL_law_25 2 rfl
theorem dL_law_1399 : decode cL_law 1399 = .ok (.iconst 1, 1) := dk_at (r := (1399, .iconst 1, 1)) dg_cL_law_25 3 rfl
theorem dL_law_1400 : decode cL_law 1400 = .ok (.iadd, 1) := dk_at (r := (1400, .iadd, 1)) dg_cL_law_25 4 rfl
theorem dL_law_1401 : decode cL_law 1401 = .ok (.iaload, 1) := dk_at (r := (1401, .iaload, 1)) dg_cL_law_25 5 rfl
theorem dL_law_1402 : decode cL_law 1402 = .ok (.invokevirtual 268, 3) := dk_at (r := (1402, .invokevirtual 268, 3)) dg_cL_law_25 6 rfl
theorem dL_law_1405 : decode cL_law 1405 = .ok (.astore 6, 2) := dk_at (r := (1405, .astore 6, 2)) dg_cL_law_25 7 rfl
theorem dL_law_1407 : decode cL_law 1407 = .ok (.goto 1034, 3) := dk_at (r := (1407, .goto 1034, 3)) dg_cL_law_25 8 rfl
theorem dL_law_1410 : decode cL_law 1410 = .ok (.aload_n 1, 1) := dk_at (r := (1410, .aload_n 1, 1)) dg_cL_law_25 9 rfl
theorem dL_law_1411 : decode cL_law 1411 = .ok (.aload_n 0, 1) := dk_at (r := (1411, .aload_n 0, 1)) dg_cL_law_25 10 rfl
theorem dL_law_1412 : decode cL_law 1412 = .ok (.iload 4, 2) := dk_at (r := (1412, .iload 4, 2)) dg_cL_law_25 11 rfl
theorem dL_law_1414 : decode cL_law 1414 = .ok (.iconst 1, 1) := dk_at (r := (1414, .iconst 1, 1)) dg_cL_law_25 12 rfl
theorem dL_law_1415 : decode cL_law 1415 = .ok (.iadd, 1) := dk_at (r := (1415, .iadd, 1)) dg_cL_law_25 13 rfl
theorem dL_law_1416 : decode cL_law 1416 = .ok (.iaload, 1) := dk_at (r := (1416, .iaload, 1)) dg_cL_law_25 14 rfl
theorem dL_law_1417 : decode cL_law 1417 = .ok (.aload_n 3, 1) := dk_at (r := (1417, .aload_n 3, 1)) dg_cL_law_25 15 rfl
theorem dL_law_1418 : decode cL_law 1418 = .ok (.invokestatic 269, 3) := dk_at (r := (1418, .invokestatic 269, 3)) dg_cL_law_25 16 rfl
theorem dL_law_1421 : decode cL_law 1421 = .ok (.istore 5, 2) := dk_at (r := (1421, .istore 5, 2)) dg_cL_law_25 17 rfl
theorem dL_law_1423 : decode cL_law 1423 = .ok (.aload_n 2, 1) := dk_at (r := (1423, .aload_n 2, 1)) dg_cL_law_25 18 rfl
theorem dL_law_1424 : decode cL_law 1424 = .ok (.aload_n 0, 1) := dk_at (r := (1424, .aload_n 0, 1)) dg_cL_law_25 19 rfl
theorem dL_law_1425 : decode cL_law 1425 = .ok (.iload 4, 2) := dk_at (r := (1425, .iload 4, 2)) dg_cL_law_25 20 rfl
theorem dL_law_1427 : decode cL_law 1427 = .ok (.iconst 1, 1) := dk_at (r := (1427, .iconst 1, 1)) dg_cL_law_25 21 rfl
theorem dL_law_1428 : decode cL_law 1428 = .ok (.iadd, 1) := dk_at (r := (1428, .iadd, 1)) dg_cL_law_25 22 rfl
theorem dL_law_1429 : decode cL_law 1429 = .ok (.iaload, 1) := dk_at (r := (1429, .iaload, 1)) dg_cL_law_25 23 rfl
theorem dL_law_1430 : decode cL_law 1430 = .ok (.invokevirtual 271, 3) := dk_at (r := (1430, .invokevirtual 271, 3)) dg_cL_law_25 24 rfl
theorem dL_law_1433 : decode cL_law 1433 = .ok (.istore 6, 2) := dk_at (r := (1433, .istore 6, 2)) dg_cL_law_25 25 rfl
theorem dL_law_1435 : decode cL_law 1435 = .ok (.goto 1006, 3) := dk_at (r := (1435, .goto 1006, 3)) dg_cL_law_25 26 rfl
theorem dL_law_1438 : decode cL_law 1438 = .ok (.aload_n 1, 1) := dk_at (r := (1438, .aload_n 1, 1)) dg_cL_law_25 27 rfl
theorem dL_law_1439 : decode cL_law 1439 = .ok (.aload_n 0, 1) := dk_at (r := (1439, .aload_n 0, 1)) dg_cL_law_25 28 rfl
theorem dL_law_1440 : decode cL_law 1440 = .ok (.iload 4, 2) := dk_at (r := (1440, .iload 4, 2)) dg_cL_law_25 29 rfl
theorem dL_law_1442 : decode cL_law 1442 = .ok (.iconst 1, 1) := dk_at (r := (1442, .iconst 1, 1)) dg_cL_law_25 30 rfl
theorem dL_law_1443 : decode cL_law 1443 = .ok (.iadd, 1) := dk_at (r := (1443, .iadd, 1)) dg_cL_law_25 31 rfl
theorem dg_cL_law_26 : dk cL_law [(1444, .iaload, 1), (1445, .aload_n 3, 1), (1446, .invokestatic 272, 3), (1449, .istore 5, 2), (1451, .aload_n 2, 1), (1452, .aload_n 0, 1), (1453, .iload 4, 2), (1455, .iconst 1, 1), (1456, .iadd, 1), (1457, .iaload, 1), (1458, .invokevirtual 274, 3), (1461, .istore 6, 2), (1463, .goto 978, 3), (1466, .aload_n 1, 1), (1467, .aload_n 0, 1), (1468, .iload 4, 2), (1470, .iconst 1, 1), (1471, .iadd, 1), (1472, .iaload, 1), (1473, .aload_n 0, 1), (1474, .iload 4, 2), (1476, .iconst 2, 1), (1477, .iadd, 1), (1478, .iaload, 1), (1479, .aload_n 3, 1), (1480, .invokestatic 275, 3), (1483, .istore 5, 2), (1485, .aload_n 2, 1), (1486, .aload_n 0, 1), (1487, .iload 4, 2), (1489, .iconst 1, 1), (1490, .iadd, 1)] = true := by decide +kernel
theorem dL_law_1444 : decode cL_law 1444 = .ok (.iaload, 1) := dk_at (r := (1444, .iaload, 1)) dg_cL_law_26 0 rfl
theorem dL_law_1445 : decode cL_law 1445 = .ok (.aload_n 3, 1) := dk_at (r := (1445, .aload_n 3, 1)) dg_cL_law_26 1 rfl
theorem dL_law_1446 : decode cL_law 1446 = .ok (.invokestatic 272, 3) := dk_at (r := (1446, .invokestatic 272, 3)) dg_cL_law_26 2 rfl
theorem dL_law_1449 : decode cL_law 1449 = .ok (.istore 5, 2) := dk_at (r := (1449, .istore 5, 2)) dg_cL_law_26 3 rfl
theorem dL_law_1451 : decode cL_law 1451 = .ok (.aload_n 2, 1) := dk_at (r := (1451, .aload_n 2, 1)) dg_cL_law_26 4 rfl
theorem dL_law_1452 : decode cL_law 1452 = .ok (.aload_n 0, 1) := dk_at (r := (1452, .aload_n 0, 1)) dg_cL_law_26 5 rfl
theorem dL_law_1453 : decode cL_law 1453 = .ok (.iload 4, 2) := dk_at (r := (1453, .iload 4, 2)) dg_cL_law_26 6 rfl
theorem dL_law_1455 : decode cL_law 1455 = .ok (.iconst 1, 1) := dk_at (r := (1455, .iconst 1, 1)) dg_cL_law_26 7 rfl
theorem dL_law_1456 : decode cL_law 1456 = .ok (.iadd, 1) := dk_at (r := (1456, .iadd, 1)) dg_cL_law_26 8 rfl
theorem dL_law_1457 : decode cL_law 1457 = .ok (.iaload, 1) := dk_at (r := (1457, .iaload, 1)) dg_cL_law_26 9 rfl
theorem dL_law_1458 : decode cL_law 1458 = .ok (.invokevirtual 274, 3) := dk_at (r := (1458, .invokevirtual 274, 3)) dg_cL_law_26 10 rfl
theorem dL_law_1461 : decode cL_law 1461 = .ok (.istore 6, 2) := dk_at (r := (1461, .istore 6, 2)) dg_cL_law_26 11 rfl
theorem dL_law_1463 : decode cL_law 1463 = .ok (.goto 978, 3) := dk_at (r := (1463, .goto 978, 3)) dg_cL_law_26 12 rfl
theorem dL_law_1466 : decode cL_law 1466 = .ok (.aload_n 1, 1) := dk_at (r := (1466, .aload_n 1, 1)) dg_cL_law_26 13 rfl
theorem dL_law_1467 : decode cL_law 1467 = .ok (.aload_n 0, 1) := dk_at (r := (1467, .aload_n 0, 1)) dg_cL_law_26 14 rfl
theorem dL_law_1468 : decode cL_law 1468 = .ok (.iload 4, 2) := dk_at (r := (1468, .iload 4, 2)) dg_cL_law_26 15 rfl
theorem dL_law_1470 : decode cL_law 1470 = .ok (.iconst 1, 1) := dk_at (r := (1470, .iconst 1, 1)) dg_cL_law_26 16 rfl
theorem dL_law_1471 : decode cL_law 1471 = .ok (.iadd, 1) := dk_at (r := (1471, .iadd, 1)) dg_cL_law_26 17 rfl
theorem dL_law_1472 : decode cL_law 1472 = .ok (.iaload, 1) := dk_at (r := (1472, .iaload, 1)) dg_cL_law_26 18 rfl
theorem dL_law_1473 : decode cL_law 1473 = .ok (.aload_n 0, 1) := dk_at (r := (1473, .aload_n 0, 1)) dg_cL_law_26 19 rfl
theorem dL_law_1474 : decode cL_law 1474 = .ok (.iload 4, 2) := dk_at (r := (1474, .iload 4, 2)) dg_cL_law_26 20 rfl
theorem dL_law_1476 : decode cL_law 1476 = .ok (.iconst 2, 1) := dk_at (r := (1476, .iconst 2, 1)) dg_cL_law_26 21 rfl
theorem dL_law_1477 : decode cL_law 1477 = .ok (.iadd, 1) := dk_at (r := (1477, .iadd, 1)) dg_cL_law_26 22 rfl
theorem dL_law_1478 : decode cL_law 1478 = .ok (.iaload, 1) := dk_at (r := (1478, .iaload, 1)) dg_cL_law_26 23 rfl
theorem dL_law_1479 : decode cL_law 1479 = .ok (.aload_n 3, 1) := dk_at (r := (1479, .aload_n 3, 1)) dg_cL_law_26 24 rfl
theorem dL_law_1480 : decode cL_law 1480 = .ok (.invokestatic 275, 3) := dk_at (r := (1480, .invokestatic 275, 3)) dg_cL_law_26 25 rfl
theorem dL_law_1483 : decode cL_law 1483 = .ok (.istore 5, 2) := dk_at (r := (1483, .istore 5, 2)) dg_cL_law_26 26 rfl
theorem dL_law_1485 : decode cL_law 1485 = .ok (.aload_n 2, 1) := dk_at (r := (1485, .aload_n 2, 1)) dg_cL_law_26 27 rfl
theorem dL_law_1486 : decode cL_law 1486 = .ok (.aload_n 0, 1) := dk_at (r := (1486, .aload_n 0, 1)) dg_cL_law_26 28 rfl
theorem dL_law_1487 : decode cL_law 1487 = .ok (.iload 4, 2) := dk_at (r := (1487, .iload 4, 2)) dg_cL_law_26 29 rfl
theorem dL_law_1489 : decode cL_law 1489 = .ok (.iconst 1, 1) := dk_at (r := (1489, .iconst 1, 1)) dg_cL_law_26 30 rfl
theorem dL_law_1490 : decode cL_law 1490 = .ok (.iadd, 1) := dk_at (r := (1490, .iadd, 1)) dg_cL_law_26 31 rfl
theorem dg_cL_law_27 : dk cL_law [(1491, .iaload, 1), (1492, .aload_n 0, 1), (1493, .iload 4, 2), (1495, .iconst 2, 1), (1496, .iadd, 1), (1497, .iaload, 1), (1498, .invokevirtual 277, 3), (1501, .istore 6, 2), (1503, .goto 938, 3), (1506, .aload_n 1, 1), (1507, .aload_n 0, 1), (1508, .iload 4, 2), (1510, .iconst 1, 1), (1511, .iadd, 1), (1512, .iaload, 1), (1513, .aload_n 0, 1), (1514, .iload 4, 2), (1516, .iconst 2, 1), (1517, .iadd, 1), (1518, .iaload, 1), (1519, .aload_n 3, 1), (1520, .invokestatic 278, 3), (1523, .istore 5, 2), (1525, .aload_n 2, 1), (1526, .aload_n 0, 1), (1527, .iload 4, 2), (1529, .iconst 1, 1), (1530, .iadd, 1), (1531, .iaload, 1), (1532, .aload_n 0, 1), (1533, .iload 4, 2), (1535, .iconst 2, 1)] = true := by decide +kernel
theorem dL_law_1491 : decode cL_law 1491 = .ok (.iaload, 1) := dk_at (r := (1491, .iaload, 1)) dg_cL_law_27 0 rfl
theorem dL_law_1492 : decode cL_law 1492 = .ok (.aload_n 0, 1) := dk_at (r := (1492, .aload_n 0, 1)) dg_cL_law_27 1 rfl
theorem dL_law_1493 : decode cL_law 1493 = .ok (.iload 4, 2) := dk_at (r := (1493, .iload 4, 2)) dg_cL_law_27 2 rfl
theorem dL_law_1495 : decode cL_law 1495 = .ok (.iconst 2, 1) := dk_at (r := (1495, .iconst 2, 1)) dg_cL_law_27 3 rfl
theorem dL_law_1496 : decode cL_law 1496 = .ok (.iadd, 1) := dk_at (r := (1496, .iadd, 1)) dg_cL_law_27 4 rfl
theorem dL_law_1497 : decode cL_law 1497 = .ok (.iaload, 1) := dk_at (r := (1497, .iaload, 1)) dg_cL_law_27 5 rfl
theorem dL_law_1498 : decode cL_law 1498 = .ok (.invokevirtual 277, 3) := dk_at (r := (1498, .invokevirtual 277, 3)) dg_cL_law_27 6 rfl
theorem dL_law_1501 : decode cL_law 1501 = .ok (.istore 6, 2) := dk_at (r := (1501, .istore 6, 2)) dg_cL_law_27 7 rfl
theorem dL_law_1503 : decode cL_law 1503 = .ok (.goto 938, 3) := dk_at (r := (1503, .goto 938, 3)) dg_cL_law_27 8 rfl
theorem dL_law_1506 : decode cL_law 1506 = .ok (.aload_n 1, 1) := dk_at (r := (1506, .aload_n 1, 1)) dg_cL_law_27 9 rfl
theorem dL_law_1507 : decode cL_law 1507 = .ok (.aload_n 0, 1) := dk_at (r := (1507, .aload_n 0, 1)) dg_cL_law_27 10 rfl
theorem dL_law_1508 : decode cL_law 1508 = .ok (.iload 4, 2) := dk_at (r := (1508, .iload 4, 2)) dg_cL_law_27 11 rfl
theorem dL_law_1510 : decode cL_law 1510 = .ok (.iconst 1, 1) := dk_at (r := (1510, .iconst 1, 1)) dg_cL_law_27 12 rfl
theorem dL_law_1511 : decode cL_law 1511 = .ok (.iadd, 1) := dk_at (r := (1511, .iadd, 1)) dg_cL_law_27 13 rfl
theorem dL_law_1512 : decode cL_law 1512 = .ok (.iaload, 1) := dk_at (r := (1512, .iaload, 1)) dg_cL_law_27 14 rfl
theorem dL_law_1513 : decode cL_law 1513 = .ok (.aload_n 0, 1) := dk_at (r := (1513, .aload_n 0, 1)) dg_cL_law_27 15 rfl
theorem dL_law_1514 : decode cL_law 1514 = .ok (.iload 4, 2) := dk_at (r := (1514, .iload 4, 2)) dg_cL_law_27 16 rfl
theorem dL_law_1516 : decode cL_law 1516 = .ok (.iconst 2, 1) := dk_at (r := (1516, .iconst 2, 1)) dg_cL_law_27 17 rfl
theorem dL_law_1517 : decode cL_law 1517 = .ok (.iadd, 1) := dk_at (r := (1517, .iadd, 1)) dg_cL_law_27 18 rfl
theorem dL_law_1518 : decode cL_law 1518 = .ok (.iaload, 1) := dk_at (r := (1518, .iaload, 1)) dg_cL_law_27 19 rfl
theorem dL_law_1519 : decode cL_law 1519 = .ok (.aload_n 3, 1) := dk_at (r := (1519, .aload_n 3, 1)) dg_cL_law_27 20 rfl
theorem dL_law_1520 : decode cL_law 1520 = .ok (.invokestatic 278, 3) := dk_at (r := (1520, .invokestatic 278, 3)) dg_cL_law_27 21 rfl
theorem dL_law_1523 : decode cL_law 1523 = .ok (.istore 5, 2) := dk_at (r := (1523, .istore 5, 2)) dg_cL_law_27 22 rfl
theorem dL_law_1525 : decode cL_law 1525 = .ok (.aload_n 2, 1) := dk_at (r := (1525, .aload_n 2, 1)) dg_cL_law_27 23 rfl
theorem dL_law_1526 : decode cL_law 1526 = .ok (.aload_n 0, 1) := dk_at (r := (1526, .aload_n 0, 1)) dg_cL_law_27 24 rfl
theorem dL_law_1527 : decode cL_law 1527 = .ok (.iload 4, 2) := dk_at (r := (1527, .iload 4, 2)) dg_cL_law_27 25 rfl
theorem dL_law_1529 : decode cL_law 1529 = .ok (.iconst 1, 1) := dk_at (r := (1529, .iconst 1, 1)) dg_cL_law_27 26 rfl
theorem dL_law_1530 : decode cL_law 1530 = .ok (.iadd, 1) := dk_at (r := (1530, .iadd, 1)) dg_cL_law_27 27 rfl
theorem dL_law_1531 : decode cL_law 1531 = .ok (.iaload, 1) := dk_at (r := (1531, .iaload, 1)) dg_cL_law_27 28 rfl
theorem dL_law_1532 : decode cL_law 1532 = .ok (.aload_n 0, 1) := dk_at (r := (1532, .aload_n 0, 1)) dg_cL_law_27 29 rfl
theorem dL_law_1533 : decode cL_law 1533 = .ok (.iload 4, 2) := dk_at (r := (1533, .iload 4, 2)) dg_cL_law_27 30 rfl
theorem dL_law_1535 : decode cL_law 1535 = .ok (.iconst 2, 1) := dk_at (r := (1535, .iconst 2, 1)) dg_cL_law_27 31 rfl
theorem dg_cL_law_28 : dk cL_law [(1536, .iadd, 1), (1537, .iaload, 1), (1538, .invokevirtual 280, 3), (1541, .istore 6, 2), (1543, .goto 898, 3), (1546, .aload_n 1, 1), (1547, .aload_n 0, 1), (1548, .iload 4, 2), (1550, .iconst 1, 1), (1551, .iadd, 1), (1552, .iaload, 1), (1553, .aload_n 3, 1), (1554, .invokestatic 281, 3), (1557, .istore 5, 2), (1559, .aload_n 2, 1), (1560, .aload_n 0, 1), (1561, .iload 4, 2), (1563, .iconst 1, 1), (1564, .iadd, 1), (1565, .iaload, 1), (1566, .invokevirtual 283, 3), (1569, .astore 6, 2), (1571, .goto 870, 3), (1574, .aload_n 1, 1), (1575, .aload_n 0, 1), (1576, .iload 4, 2), (1578, .iconst 1, 1), (1579, .iadd, 1), (1580, .iaload, 1), (1581, .aload_n 0, 1), (1582, .iload 4, 2), (1584, .iconst 2, 1)] = true := by decide +kernel
theorem dL_law_1536 : decode cL_law 1536 = .ok (.iadd, 1) := dk_at (r := (1536, .iadd, 1)) dg_cL_law_28 0 rfl
theorem dL_law_1537 : decode cL_law 1537 = .ok (.iaload, 1) := dk_at (r := (1537, .iaload, 1)) dg_cL_law_28 1 rfl
theorem dL_law_1538 : decode cL_law 1538 = .ok (.invokevirtual 280, 3) := dk_at (r := (1538, .invokevirtual 280, 3)) dg_cL_law_28 2 rfl
theorem dL_law_1541 : decode cL_law 1541 = .ok (.istore 6, 2) := dk_at (r := (1541, .istore 6, 2)) dg_cL_law_28 3 rfl
theorem dL_law_1543 : decode cL_law 1543 = .ok (.goto 898, 3) := dk_at (r := (1543, .goto 898, 3)) dg_cL_law_28 4 rfl
theorem dL_law_1546 : decode cL_law 1546 = .ok (.aload_n 1, 1) := dk_at (r := (1546, .aload_n 1, 1)) dg_cL_law_28 5 rfl
theorem dL_law_1547 : decode cL_law 1547 = .ok (.aload_n 0, 1) := dk_at (r := (1547, .aload_n 0, 1)) dg_cL_law_28 6 rfl
theorem dL_law_1548 : decode cL_law 1548 = .ok (.iload 4, 2) := dk_at (r := (1548, .iload 4, 2)) dg_cL_law_28 7 rfl
theorem dL_law_1550 : decode cL_law 1550 = .ok (.iconst 1, 1) := dk_at (r := (1550, .iconst 1, 1)) dg_cL_law_28 8 rfl
theorem dL_law_1551 : decode cL_law 1551 = .ok (.iadd, 1) := dk_at (r := (1551, .iadd, 1)) dg_cL_law_28 9 rfl
theorem dL_law_1552 : decode cL_law 1552 = .ok (.iaload, 1) := dk_at (r := (1552, .iaload, 1)) dg_cL_law_28 10 rfl
theorem dL_law_1553 : decode cL_law 1553 = .ok (.aload_n 3, 1) := dk_at (r := (1553, .aload_n 3, 1)) dg_cL_law_28 11 rfl
theorem dL_law_1554 : decode cL_law 1554 = .ok (.invokestatic 281, 3) := dk_at (r := (1554, .invokestatic 281, 3)) dg_cL_law_28 12 rfl
theorem dL_law_1557 : decode cL_law 1557 = .ok (.istore 5, 2) := dk_at (r := (1557, .istore 5, 2)) dg_cL_law_28 13 rfl
theorem dL_law_1559 : decode cL_law 1559 = .ok (.aload_n 2, 1) := dk_at (r := (1559, .aload_n 2, 1)) dg_cL_law_28 14 rfl
theorem dL_law_1560 : decode cL_law 1560 = .ok (.aload_n 0, 1) := dk_at (r := (1560, .aload_n 0, 1)) dg_cL_law_28 15 rfl
theorem dL_law_1561 : decode cL_law 1561 = .ok (.iload 4, 2) := dk_at (r := (1561, .iload 4, 2)) dg_cL_law_28 16 rfl
theorem dL_law_1563 : decode cL_law 1563 = .ok (.iconst 1, 1) := dk_at (r := (1563, .iconst 1, 1)) dg_cL_law_28 17 rfl
theorem dL_law_1564 : decode cL_law 1564 = .ok (.iadd, 1) := dk_at (r := (1564, .iadd, 1)) dg_cL_law_28 18 rfl
theorem dL_law_1565 : decode cL_law 1565 = .ok (.iaload, 1) := dk_at (r := (1565, .iaload, 1)) dg_cL_law_28 19 rfl
theorem dL_law_1566 : decode cL_law 1566 = .ok (.invokevirtual 283, 3) := dk_at (r := (1566, .invokevirtual 283, 3)) dg_cL_law_28 20 rfl
theorem dL_law_1569 : decode cL_law 1569 = .ok (.astore 6, 2) := dk_at (r := (1569, .astore 6, 2)) dg_cL_law_28 21 rfl
theorem dL_law_1571 : decode cL_law 1571 = .ok (.goto 870, 3) := dk_at (r := (1571, .goto 870, 3)) dg_cL_law_28 22 rfl
theorem dL_law_1574 : decode cL_law 1574 = .ok (.aload_n 1, 1) := dk_at (r := (1574, .aload_n 1, 1)) dg_cL_law_28 23 rfl
theorem dL_law_1575 : decode cL_law 1575 = .ok (.aload_n 0, 1) := dk_at (r := (1575, .aload_n 0, 1)) dg_cL_law_28 24 rfl
theorem dL_law_1576 : decode cL_law 1576 = .ok (.iload 4, 2) := dk_at (r := (1576, .iload 4, 2)) dg_cL_law_28 25 rfl
theorem dL_law_1578 : decode cL_law 1578 = .ok (.iconst 1, 1) := dk_at (r := (1578, .iconst 1, 1)) dg_cL_law_28 26 rfl
theorem dL_law_1579 : decode cL_law 1579 = .ok (.iadd, 1) := dk_at (r := (1579, .iadd, 1)) dg_cL_law_28 27 rfl
theorem dL_law_1580 : decode cL_law 1580 = .ok (.iaload, 1) := dk_at (r := (1580, .iaload, 1)) dg_cL_law_28 28 rfl
theorem dL_law_1581 : decode cL_law 1581 = .ok (.aload_n 0, 1) := dk_at (r := (1581, .aload_n 0, 1)) dg_cL_law_28 29 rfl
theorem dL_law_1582 : decode cL_law 1582 = .ok (.iload 4, 2) := dk_at (r := (1582, .iload 4, 2)) dg_cL_law_28 30 rfl
theorem dL_law_1584 : decode cL_law 1584 = .ok (.iconst 2, 1) := dk_at (r := (1584, .iconst 2, 1)) dg_cL_law_28 31 rfl
theorem dg_cL_law_29 : dk cL_law [(1585, .iadd, 1), (1586, .iaload, 1), (1587, .aload_n 3, 1), (1588, .invokestatic 284, 3), (1591, .istore 5, 2), (1593, .aload_n 2, 1), (1594, .aload_n 0, 1), (1595, .iload 4, 2), (1597, .iconst 1, 1), (1598, .iadd, 1), (1599, .iaload, 1), (1600, .aload_n 0, 1), (1601, .iload 4, 2), (1603, .iconst 2, 1), (1604, .iadd, 1), (1605, .iaload, 1), (1606, .invokevirtual 286, 3), (1609, .astore 6, 2), (1611, .goto 830, 3), (1614, .aload_n 1, 1), (1615, .aload_n 0, 1), (1616, .iload 4, 2), (1618, .iconst 1, 1), (1619, .iadd, 1), (1620, .iaload, 1), (1621, .aload_n 0, 1), (1622, .iload 4, 2), (1624, .iconst 2, 1), (1625, .iadd, 1), (1626, .iaload, 1), (1627, .aload_n 3, 1), (1628, .invokestatic 287, 3)] = true := by decide +kernel
theorem dL_law_1585 : decode cL_law 1585 = .ok (.iadd, 1) := dk_at (r := (1585, .iadd, 1)) dg_cL_law_29 0 rfl
theorem dL_law_1586 : decode cL_law 1586 = .ok (.iaload, 1) := dk_at (r := (1586, .iaload, 1)) dg_cL_law_29 1 rfl
theorem dL_law_1587 : decode cL_law 1587 = .ok (.aload_n 3, 1) := dk_at (r := (1587, .aload_n 3, 1)) dg_cL_law_29 2 rfl
theorem dL_law_1588 : decode cL_law 1588 = .ok (.invokestatic 284, 3) := dk_at (r := (1588, .invokestatic 284, 3)) dg_cL_law_29 3 rfl
theorem dL_law_1591 : decode cL_law 1591 = .ok (.istore 5, 2) := dk_at (r := (1591, .istore 5, 2)) dg_cL_law_29 4 rfl
theorem dL_law_1593 : decode cL_law 1593 = .ok (.aload_n 2, 1) := dk_at (r := (1593, .aload_n 2, 1)) dg_cL_law_29 5 rfl
theorem dL_law_1594 : decode cL_law 1594 = .ok (.aload_n 0, 1) := dk_at (r := (1594, .aload_n 0, 1)) dg_cL_law_29 6 rfl
theorem dL_law_1595 : decode cL_law 1595 = .ok (.iload 4, 2) := dk_at (r := (1595, .iload 4, 2)) dg_cL_law_29 7 rfl
theorem dL_law_1597 : decode cL_law 1597 = .ok (.iconst 1, 1) := dk_at (r := (1597, .iconst 1, 1)) dg_cL_law_29 8 rfl
theorem dL_law_1598 : decode cL_law 1598 = .ok (.iadd, 1) := dk_at (r := (1598, .iadd, 1)) dg_cL_law_29 9 rfl
theorem dL_law_1599 : decode cL_law 1599 = .ok (.iaload, 1) := dk_at (r := (1599, .iaload, 1)) dg_cL_law_29 10 rfl
theorem dL_law_1600 : decode cL_law 1600 = .ok (.aload_n 0, 1) := dk_at (r := (1600, .aload_n 0, 1)) dg_cL_law_29 11 rfl
theorem dL_law_1601 : decode cL_law 1601 = .ok (.iload 4, 2) := dk_at (r := (1601, .iload 4, 2)) dg_cL_law_29 12 rfl
theorem dL_law_1603 : decode cL_law 1603 = .ok (.iconst 2, 1) := dk_at (r := (1603, .iconst 2, 1)) dg_cL_law_29 13 rfl
theorem dL_law_1604 : decode cL_law 1604 = .ok (.iadd, 1) := dk_at (r := (1604, .iadd, 1)) dg_cL_law_29 14 rfl
theorem dL_law_1605 : decode cL_law 1605 = .ok (.iaload, 1) := dk_at (r := (1605, .iaload, 1)) dg_cL_law_29 15 rfl
theorem dL_law_1606 : decode cL_law 1606 = .ok (.invokevirtual 286, 3) := dk_at (r := (1606, .invokevirtual 286, 3)) dg_cL_law_29 16 rfl
theorem dL_law_1609 : decode cL_law 1609 = .ok (.astore 6, 2) := dk_at (r := (1609, .astore 6, 2)) dg_cL_law_29 17 rfl
theorem dL_law_1611 : decode cL_law 1611 = .ok (.goto 830, 3) := dk_at (r := (1611, .goto 830, 3)) dg_cL_law_29 18 rfl
theorem dL_law_1614 : decode cL_law 1614 = .ok (.aload_n 1, 1) := dk_at (r := (1614, .aload_n 1, 1)) dg_cL_law_29 19 rfl
theorem dL_law_1615 : decode cL_law 1615 = .ok (.aload_n 0, 1) := dk_at (r := (1615, .aload_n 0, 1)) dg_cL_law_29 20 rfl
theorem dL_law_1616 : decode cL_law 1616 = .ok (.iload 4, 2) := dk_at (r := (1616, .iload 4, 2)) dg_cL_law_29 21 rfl
theorem dL_law_1618 : decode cL_law 1618 = .ok (.iconst 1, 1) := dk_at (r := (1618, .iconst 1, 1)) dg_cL_law_29 22 rfl
theorem dL_law_1619 : decode cL_law 1619 = .ok (.iadd, 1) := dk_at (r := (1619, .iadd, 1)) dg_cL_law_29 23 rfl
theorem dL_law_1620 : decode cL_law 1620 = .ok (.iaload, 1) := dk_at (r := (1620, .iaload, 1)) dg_cL_law_29 24 rfl
theorem dL_law_1621 : decode cL_law 1621 = .ok (.aload_n 0, 1) := dk_at (r := (1621, .aload_n 0, 1)) dg_cL_law_29 25 rfl
theorem dL_law_1622 : decode cL_law 1622 = .ok (.iload 4, 2) := dk_at (r := (1622, .iload 4, 2)) dg_cL_law_29 26 rfl
theorem dL_law_1624 : decode cL_law 1624 = .ok (.iconst 2, 1) := dk_at (r := (1624, .iconst 2, 1)) dg_cL_law_29 27 rfl
theorem dL_law_1625 : decode cL_law 1625 = .ok (.iadd, 1) := dk_at (r := (1625, .iadd, 1)) dg_cL_law_29 28 rfl
theorem dL_law_1626 : decode cL_law 1626 = .ok (.iaload, 1) := dk_at (r := (1626, .iaload, 1)) dg_cL_law_29 29 rfl
theorem dL_law_1627 : decode cL_law 1627 = .ok (.aload_n 3, 1) := dk_at (r := (1627, .aload_n 3, 1)) dg_cL_law_29 30 rfl
theorem dL_law_1628 : decode cL_law 1628 = .ok (.invokestatic 287, 3) := dk_at (r := (1628, .invokestatic 287, 3)) dg_cL_law_29 31 rfl
theorem dg_cL_law_30 : dk cL_law [(1631, .istore 5, 2), (1633, .aload_n 2, 1), (1634, .aload_n 0, 1), (1635, .iload 4, 2), (1637, .iconst 1, 1), (1638, .iadd, 1), (1639, .iaload, 1), (1640, .aload_n 0, 1), (1641, .iload 4, 2), (1643, .iconst 2, 1), (1644, .iadd, 1), (1645, .iaload, 1), (1646, .invokevirtual 289, 3), (1649, .astore 6, 2), (1651, .goto 790, 3), (1654, .aload_n 1, 1), (1655, .aload_n 0, 1), (1656, .iload 4, 2), (1658, .iconst 1, 1), (1659, .iadd, 1), (1660, .iaload, 1), (1661, .aload_n 0, 1), (1662, .iload 4, 2), (1664, .iconst 2, 1), (1665, .iadd, 1), (1666, .iaload, 1), (1667, .aload_n 0, 1), (1668, .iload 4, 2), (1670, .iconst 3, 1), (1671, .iadd, 1), (1672, .iaload, 1), (1673, .ifCond .eq 7, 3)] = true := by decide +kernel
theorem dL_law_1631 : decode cL_law 1631 = .ok (.istore 5, 2) := dk_at (r := (1631, .istore 5, 2)) dg_cL_law_30 0 rfl
theorem dL_law_1633 : decode cL_law 1633 = .ok (.aload_n 2, 1) := dk_at (r := (1633, .aload_n 2, 1)) dg_cL_law_30 1 rfl
theorem dL_law_1634 : decode cL_law 1634 = .ok (.aload_n 0, 1) := dk_at (r := (1634, .aload_n 0, 1)) dg_cL_law_30 2 rfl
theorem dL_law_1635 : decode cL_law 1635 = .ok (.iload 4, 2) := dk_at (r := (1635, .iload 4, 2)) dg_cL_law_30 3 rfl
theorem dL_law_1637 : decode cL_law 1637 = .ok (.iconst 1, 1) := dk_at (r := (1637, .iconst 1, 1)) dg_cL_law_30 4 rfl
theorem dL_law_1638 : decode cL_law 1638 = .ok (.iadd, 1) := dk_at (r := (1638, .iadd, 1)) dg_cL_law_30 5 rfl
theorem dL_law_1639 : decode cL_law 1639 = .ok (.iaload, 1) := dk_at (r := (1639, .iaload, 1)) dg_cL_law_30 6 rfl
theorem dL_law_1640 : decode cL_law 1640 = .ok (.aload_n 0, 1) := dk_at (r := (1640, .aload_n 0, 1)) dg_cL_law_30 7 rfl
theorem dL_law_1641 : decode cL_law 1641 = .ok (.iload 4, 2) := dk_at (r := (1641, .iload 4, 2)) dg_cL_law_30 8 rfl
theorem dL_law_1643 : decode cL_law 1643 = .ok (.iconst 2, 1) := dk_at (r := (1643, .iconst 2, 1)) dg_cL_law_30 9 rfl
theorem dL_law_1644 : decode cL_law 1644 = .ok (.iadd, 1) := dk_at (r := (1644, .iadd, 1)) dg_cL_law_30 10 rfl
theorem dL_law_1645 : decode cL_law 1645 = .ok (.iaload, 1) := dk_at (r := (1645, .iaload, 1)) dg_cL_law_30 11 rfl
theorem dL_law_1646 : decode cL_law 1646 = .ok (.invokevirtual 289, 3) := dk_at (r := (1646, .invokevirtual 289, 3)) dg_cL_law_30 12 rfl
theorem dL_law_1649 : decode cL_law 1649 = .ok (.astore 6, 2) := dk_at (r := (1649, .astore 6, 2)) dg_cL_law_30 13 rfl
theorem dL_law_1651 : decode cL_law 1651 = .ok (.goto 790, 3) := dk_at (r := (1651, .goto 790, 3)) dg_cL_law_30 14 rfl
theorem dL_law_1654 : decode cL_law 1654 = .ok (.aload_n 1, 1) := dk_at (r := (1654, .aload_n 1, 1)) dg_cL_law_30 15 rfl
theorem dL_law_1655 : decode cL_law 1655 = .ok (.aload_n 0, 1) := dk_at (r := (1655, .aload_n 0, 1)) dg_cL_law_30 16 rfl
theorem dL_law_1656 : decode cL_law 1656 = .ok (.iload 4, 2) := dk_at (r := (1656, .iload 4, 2)) dg_cL_law_30 17 rfl
theorem dL_law_1658 : decode cL_law 1658 = .ok (.iconst 1, 1) := dk_at (r := (1658, .iconst 1, 1)) dg_cL_law_30 18 rfl
theorem dL_law_1659 : decode cL_law 1659 = .ok (.iadd, 1) := dk_at (r := (1659, .iadd, 1)) dg_cL_law_30 19 rfl
theorem dL_law_1660 : decode cL_law 1660 = .ok (.iaload, 1) := dk_at (r := (1660, .iaload, 1)) dg_cL_law_30 20 rfl
theorem dL_law_1661 : decode cL_law 1661 = .ok (.aload_n 0, 1) := dk_at (r := (1661, .aload_n 0, 1)) dg_cL_law_30 21 rfl
theorem dL_law_1662 : decode cL_law 1662 = .ok (.iload 4, 2) := dk_at (r := (1662, .iload 4, 2)) dg_cL_law_30 22 rfl
theorem dL_law_1664 : decode cL_law 1664 = .ok (.iconst 2, 1) := dk_at (r := (1664, .iconst 2, 1)) dg_cL_law_30 23 rfl
theorem dL_law_1665 : decode cL_law 1665 = .ok (.iadd, 1) := dk_at (r := (1665, .iadd, 1)) dg_cL_law_30 24 rfl
theorem dL_law_1666 : decode cL_law 1666 = .ok (.iaload, 1) := dk_at (r := (1666, .iaload, 1)) dg_cL_law_30 25 rfl
theorem dL_law_1667 : decode cL_law 1667 = .ok (.aload_n 0, 1) := dk_at (r := (1667, .aload_n 0, 1)) dg_cL_law_30 26 rfl
theorem dL_law_1668 : decode cL_law 1668 = .ok (.iload 4, 2) := dk_at (r := (1668, .iload 4, 2)) dg_cL_law_30 27 rfl
theorem dL_law_1670 : decode cL_law 1670 = .ok (.iconst 3, 1) := dk_at (r := (1670, .iconst 3, 1)) dg_cL_law_30 28 rfl
theorem dL_law_1671 : decode cL_law 1671 = .ok (.iadd, 1) := dk_at (r := (1671, .iadd, 1)) dg_cL_law_30 29 rfl
theorem dL_law_1672 : decode cL_law 1672 = .ok (.iaload, 1) := dk_at (r := (1672, .iaload, 1)) dg_cL_law_30 30 rfl
theorem dL_law_1673 : decode cL_law 1673 = .ok (.ifCond .eq 7, 3) := dk_at (r := (1673, .ifCond .eq 7, 3)) dg_cL_law_30 31 rfl
theorem dg_cL_law_31 : dk cL_law [(1676, .iconst 1, 1), (1677, .goto 4, 3), (1680, .iconst 0, 1), (1681, .aload_n 3, 1), (1682, .invokestatic 290, 3), (1685, .istore 5, 2), (1687, .aload_n 2, 1), (1688, .aload_n 0, 1), (1689, .iload 4, 2), (1691, .iconst 1, 1), (1692, .iadd, 1), (1693, .iaload, 1), (1694, .aload_n 0, 1), (1695, .iload 4, 2), (1697, .iconst 2, 1), (1698, .iadd, 1), (1699, .iaload, 1), (1700, .aload_n 0, 1), (1701, .iload 4, 2), (1703, .iconst 3, 1), (1704, .iadd, 1), (1705, .iaload, 1), (1706, .ifCond .eq 7, 3), (1709, .iconst 1, 1), (1710, .goto 4, 3), (1713, .iconst 0, 1), (1714, .invokevirtual 292, 3), (1717, .astore 6, 2), (1719, .goto 722, 3), (1722, .aload_n 1, 1), (1723, .aload_n 0, 1), (1724, .iload 4, 2)] = true := by decide +kernel
theorem dL_law_1676 : decode cL_law 1676 = .ok (.iconst 1, 1) := dk_at (r := (1676, .iconst 1, 1)) dg_cL_law_31 0 rfl
theorem dL_law_1677 : decode cL_law 1677 = .ok (.goto 4, 3) := dk_at (r := (1677, .goto 4, 3)) dg_cL_law_31 1 rfl
theorem dL_law_1680 : decode cL_law 1680 = .ok (.iconst 0, 1) := dk_at (r := (1680, .iconst 0, 1)) dg_cL_law_31 2 rfl
theorem dL_law_1681 : decode cL_law 1681 = .ok (.aload_n 3, 1) := dk_at (r := (1681, .aload_n 3, 1)) dg_cL_law_31 3 rfl
theorem dL_law_1682 : decode cL_law 1682 = .ok (.invokestatic 290, 3) := dk_at (r := (1682, .invokestatic 290, 3)) dg_cL_law_31 4 rfl
theorem dL_law_1685 : decode cL_law 1685 = .ok (.istore 5, 2) := dk_at (r := (1685, .istore 5, 2)) dg_cL_law_31 5 rfl
theorem dL_law_1687 : decode cL_law 1687 = .ok (.aload_n 2, 1) := dk_at (r := (1687, .aload_n 2, 1)) dg_cL_law_31 6 rfl
theorem dL_law_1688 : decode cL_law 1688 = .ok (.aload_n 0, 1) := dk_at (r := (1688, .aload_n 0, 1)) dg_cL_law_31 7 rfl
theorem dL_law_1689 : decode cL_law 1689 = .ok (.iload 4, 2) := dk_at (r := (1689, .iload 4, 2)) dg_cL_law_31 8 rfl
theorem dL_law_1691 : decode cL_law 1691 = .ok (.iconst 1, 1) := dk_at (r := (1691, .iconst 1, 1)) dg_cL_law_31 9 rfl
theorem dL_law_1692 : decode cL_law 1692 = .ok (.iadd, 1) := dk_at (r := (1692, .iadd, 1)) dg_cL_law_31 10 rfl
theorem dL_law_1693 : decode cL_law 1693 = .ok (.iaload, 1) := dk_at (r := (1693, .iaload, 1)) dg_cL_law_31 11 rfl
theorem dL_law_1694 : decode cL_law 1694 = .ok (.aload_n 0, 1) := dk_at (r := (1694, .aload_n 0, 1)) dg_cL_law_31 12 rfl
theorem dL_law_1695 : decode cL_law 1695 = .ok (.iload 4, 2) := dk_at (r := (1695, .iload 4, 2)) dg_cL_law_31 13 rfl
theorem dL_law_1697 : decode cL_law 1697 = .ok (.iconst 2, 1) := dk_at (r := (1697, .iconst 2, 1)) dg_cL_law_31 14 rfl
theorem dL_law_1698 : decode cL_law 1698 = .ok (.iadd, 1) := dk_at (r := (1698, .iadd, 1)) dg_cL_law_31 15 rfl
theorem dL_law_1699 : decode cL_law 1699 = .ok (.iaload, 1) := dk_at (r := (1699, .iaload, 1)) dg_cL_law_31 16 rfl
theorem dL_law_1700 : decode cL_law 1700 = .ok (.aload_n 0, 1) := dk_at (r := (1700, .aload_n 0, 1)) dg_cL_law_31 17 rfl
theorem dL_law_1701 : decode cL_law 1701 = .ok (.iload 4, 2) := dk_at (r := (1701, .iload 4, 2)) dg_cL_law_31 18 rfl
theorem dL_law_1703 : decode cL_law 1703 = .ok (.iconst 3, 1) := dk_at (r := (1703, .iconst 3, 1)) dg_cL_law_31 19 rfl
theorem dL_law_1704 : decode cL_law 1704 = .ok (.iadd, 1) := dk_at (r := (1704, .iadd, 1)) dg_cL_law_31 20 rfl
theorem dL_law_1705 : decode cL_law 1705 = .ok (.iaload, 1) := dk_at (r := (1705, .iaload, 1)) dg_cL_law_31 21 rfl
theorem dL_law_1706 : decode cL_law 1706 = .ok (.ifCond .eq 7, 3) := dk_at (r := (1706, .ifCond .eq 7, 3)) dg_cL_law_31 22 rfl
theorem dL_law_1709 : decode cL_law 1709 = .ok (.iconst 1, 1) := dk_at (r := (1709, .iconst 1, 1)) dg_cL_law_31 23 rfl
theorem dL_law_1710 : decode cL_law 1710 = .ok (.goto 4, 3) := dk_at (r := (1710, .goto 4, 3)) dg_cL_law_31 24 rfl
theorem dL_law_1713 : decode cL_law 1713 = .ok (.iconst 0, 1) := dk_at (r := (1713, .iconst 0, 1)) dg_cL_law_31 25 rfl
theorem dL_law_1714 : decode cL_law 1714 = .ok (.invokevirtual 292, 3) := dk_at (r := (1714, .invokevirtual 292, 3)) dg_cL_law_31 26 rfl
theorem dL_law_1717 : decode cL_law 1717 = .ok (.astore 6, 2) := dk_at (r := (1717, .astore 6, 2)) dg_cL_law_31 27 rfl
theorem dL_law_1719 : decode cL_law 1719 = .ok (.goto 722, 3) := dk_at (r := (1719, .goto 722, 3)) dg_cL_law_31 28 rfl
theorem dL_law_1722 : decode cL_law 1722 = .ok (.aload_n 1, 1) := dk_at (r := (1722, .aload_n 1, 1)) dg_cL_law_31 29 rfl
theorem dL_law_1723 : decode cL_law 1723 = .ok (.aload_n 0, 1) := dk_at (r := (1723, .aload_n 0, 1)) dg_cL_law_31 30 rfl
theorem dL_law_1724 : decode cL_law 1724 = .ok (.iload 4, 2) := dk_at (r := (1724, .iload 4, 2)) dg_cL_law_31 31 rfl
theorem dg_cL_law_32 : dk cL_law [(1726, .iconst 1, 1), (1727, .iadd, 1), (1728, .iaload, 1), (1729, .aload_n 3, 1), (1730, .invokestatic 293, 3), (1733, .istore 5, 2), (1735, .aload_n 2, 1), (1736, .aload_n 0, 1), (1737, .iload 4, 2), (1739, .iconst 1, 1), (1740, .iadd, 1), (1741, .iaload, 1), (1742, .invokevirtual 295, 3), (1745, .astore 6, 2), (1747, .goto 694, 3), (1750, .aload_n 1, 1), (1751, .aload_n 0, 1), (1752, .iload 4, 2), (1754, .iconst 1, 1), (1755, .iadd, 1), (1756, .iaload, 1), (1757, .aload_n 3, 1), (1758, .invokestatic 296, 3), (1761, .istore 5, 2), (1763, .aload_n 2, 1), (1764, .aload_n 0, 1), (1765, .iload 4, 2), (1767, .iconst 1, 1), (1768, .iadd, 1), (1769, .iaload, 1), (1770, .invokevirtual 298, 3), (1773, .astore 6, 2)] = true := by decide +kernel
theorem dL_law_1726 : decode cL_law 1726 = .ok (.iconst 1, 1) := dk_at (r := (1726, .iconst 1, 1)) dg_cL_law_32 0 rfl
theorem dL_law_1727 : decode cL_law 1727 = .ok (.iadd, 1) := dk_at (r := (1727, .iadd, 1)) dg_cL_law_32 1 rfl
theorem dL_law_1728 : decode cL_law 1728 = .ok (.iaload, 1) := dk_at (r := (1728, .iaload, 1)) dg_cL_law_32 2 rfl
theorem dL_law_1729 : decode cL_law 1729 = .ok (.aload_n 3, 1) := dk_at (r := (1729, .aload_n 3, 1)) dg_cL_law_32 3 rfl
theorem dL_law_1730 : decode cL_law 1730 = .ok (.invokestatic 293, 3) := dk_at (r := (1730, .invokestatic 293, 3)) dg_cL_law_32 4 rfl
theorem dL_law_1733 : decode cL_law 1733 = .ok (.istore 5, 2) := dk_at (r := (1733, .istore 5, 2)) dg_cL_law_32 5 rfl
theorem dL_law_1735 : decode cL_law 1735 = .ok (.aload_n 2, 1) := dk_at (r := (1735, .aload_n 2, 1)) dg_cL_law_32 6 rfl
theorem dL_law_1736 : decode cL_law 1736 = .ok (.aload_n 0, 1) := dk_at (r := (1736, .aload_n 0, 1)) dg_cL_law_32 7 rfl
theorem dL_law_1737 : decode cL_law 1737 = .ok (.iload 4, 2) := dk_at (r := (1737, .iload 4, 2)) dg_cL_law_32 8 rfl
theorem dL_law_1739 : decode cL_law 1739 = .ok (.iconst 1, 1) := dk_at (r := (1739, .iconst 1, 1)) dg_cL_law_32 9 rfl
theorem dL_law_1740 : decode cL_law 1740 = .ok (.iadd, 1) := dk_at (r := (1740, .iadd, 1)) dg_cL_law_32 10 rfl
theorem dL_law_1741 : decode cL_law 1741 = .ok (.iaload, 1) := dk_at (r := (1741, .iaload, 1)) dg_cL_law_32 11 rfl
theorem dL_law_1742 : decode cL_law 1742 = .ok (.invokevirtual 295, 3) := dk_at (r := (1742, .invokevirtual 295, 3)) dg_cL_law_32 12 rfl
theorem dL_law_1745 : decode cL_law 1745 = .ok (.astore 6, 2) := dk_at (r := (1745, .astore 6, 2)) dg_cL_law_32 13 rfl
theorem dL_law_1747 : decode cL_law 1747 = .ok (.goto 694, 3) := dk_at (r := (1747, .goto 694, 3)) dg_cL_law_32 14 rfl
theorem dL_law_1750 : decode cL_law 1750 = .ok (.aload_n 1, 1) := dk_at (r := (1750, .aload_n 1, 1)) dg_cL_law_32 15 rfl
theorem dL_law_1751 : decode cL_law 1751 = .ok (.aload_n 0, 1) := dk_at (r := (1751, .aload_n 0, 1)) dg_cL_law_32 16 rfl
theorem dL_law_1752 : decode cL_law 1752 = .ok (.iload 4, 2) := dk_at (r := (1752, .iload 4, 2)) dg_cL_law_32 17 rfl
theorem dL_law_1754 : decode cL_law 1754 = .ok (.iconst 1, 1) := dk_at (r := (1754, .iconst 1, 1)) dg_cL_law_32 18 rfl
theorem dL_law_1755 : decode cL_law 1755 = .ok (.iadd, 1) := dk_at (r := (1755, .iadd, 1)) dg_cL_law_32 19 rfl
theorem dL_law_1756 : decode cL_law 1756 = .ok (.iaload, 1) := dk_at (r := (1756, .iaload, 1)) dg_cL_law_32 20 rfl
theorem dL_law_1757 : decode cL_law 1757 = .ok (.aload_n 3, 1) := dk_at (r := (1757, .aload_n 3, 1)) dg_cL_law_32 21 rfl
theorem dL_law_1758 : decode cL_law 1758 = .ok (.invokestatic 296, 3) := dk_at (r := (1758, .invokestatic 296, 3)) dg_cL_law_32 22 rfl
theorem dL_law_1761 : decode cL_law 1761 = .ok (.istore 5, 2) := dk_at (r := (1761, .istore 5, 2)) dg_cL_law_32 23 rfl
theorem dL_law_1763 : decode cL_law 1763 = .ok (.aload_n 2, 1) := dk_at (r := (1763, .aload_n 2, 1)) dg_cL_law_32 24 rfl
theorem dL_law_1764 : decode cL_law 1764 = .ok (.aload_n 0, 1) := dk_at (r := (1764, .aload_n 0, 1)) dg_cL_law_32 25 rfl
theorem dL_law_1765 : decode cL_law 1765 = .ok (.iload 4, 2) := dk_at (r := (1765, .iload 4, 2)) dg_cL_law_32 26 rfl
theorem dL_law_1767 : decode cL_law 1767 = .ok (.iconst 1, 1) := dk_at (r := (1767, .iconst 1, 1)) dg_cL_law_32 27 rfl
theorem dL_law_1768 : decode cL_law 1768 = .ok (.iadd, 1) := dk_at (r := (1768, .iadd, 1)) dg_cL_law_32 28 rfl
theorem dL_law_1769 : decode cL_law 1769 = .ok (.iaload, 1) := dk_at (r := (1769, .iaload, 1)) dg_cL_law_32 29 rfl
theorem dL_law_1770 : decode cL_law 1770 = .ok (.invokevirtual 298, 3) := dk_at (r := (1770, .invokevirtual 298, 3)) dg_cL_law_32 30 rfl
theorem dL_law_1773 : decode cL_law 1773 = .ok (.astore 6, 2) := dk_at (r := (1773, .astore 6, 2)) dg_cL_law_32 31 rfl
theorem dg_cL_law_33 : dk cL_law [(1775, .goto 666, 3), (1778, .aload_n 1, 1), (1779, .aload_n 0, 1), (1780, .iload 4, 2), (1782, .iconst 1, 1), (1783, .iadd, 1), (1784, .iaload, 1), (1785, .aload_n 0, 1), (1786, .iload 4, 2), (1788, .iconst 2, 1), (1789, .iadd, 1), (1790, .iaload, 1), (1791, .aload_n 0, 1), (1792, .iload 4, 2), (1794, .iconst 3, 1), (1795, .iadd, 1), (1796, .iaload, 1), (1797, .aload_n 0, 1), (1798, .iload 4, 2), (1800, .iconst 4, 1), (1801, .iadd, 1), (1802, .iaload, 1), (1803, .aload_n 3, 1), (1804, .invokestatic 299, 3), (1807, .istore 5, 2), (1809, .aload_n 2, 1), (1810, .aload_n 0, 1), (1811, .iload 4, 2), (1813, .iconst 1, 1), (1814, .iadd, 1), (1815, .iaload, 1), (1816, .aload_n 0, 1)] = true := by decide +kernel
theorem dL_law_1775 : decode cL_law 1775 = .ok (.goto 666, 3) := dk_at (r := (1775, .goto 666, 3)) dg_cL_law_33 0 rfl
theorem dL_law_1778 : decode cL_law 1778 = .ok (.aload_n 1, 1) := dk_at (r := (1778, .aload_n 1, 1)) dg_cL_law_33 1 rfl
theorem dL_law_1779 : decode cL_law 1779 = .ok (.aload_n 0, 1) := dk_at (r := (1779, .aload_n 0, 1)) dg_cL_law_33 2 rfl
theorem dL_law_1780 : decode cL_law 1780 = .ok (.iload 4, 2) := dk_at (r := (1780, .iload 4, 2)) dg_cL_law_33 3 rfl
theorem dL_law_1782 : decode cL_law 1782 = .ok (.iconst 1, 1) := dk_at (r := (1782, .iconst 1, 1)) dg_cL_law_33 4 rfl
theorem dL_law_1783 : decode cL_law 1783 = .ok (.iadd, 1) := dk_at (r := (1783, .iadd, 1)) dg_cL_law_33 5 rfl
theorem dL_law_1784 : decode cL_law 1784 = .ok (.iaload, 1) := dk_at (r := (1784, .iaload, 1)) dg_cL_law_33 6 rfl
theorem dL_law_1785 : decode cL_law 1785 = .ok (.aload_n 0, 1) := dk_at (r := (1785, .aload_n 0, 1)) dg_cL_law_33 7 rfl
theorem dL_law_1786 : decode cL_law 1786 = .ok (.iload 4, 2) := dk_at (r := (1786, .iload 4, 2)) dg_cL_law_33 8 rfl
theorem dL_law_1788 : decode cL_law 1788 = .ok (.iconst 2, 1) := dk_at (r := (1788, .iconst 2, 1)) dg_cL_law_33 9 rfl
theorem dL_law_1789 : decode cL_law 1789 = .ok (.iadd, 1) := dk_at (r := (1789, .iadd, 1)) dg_cL_law_33 10 rfl
theorem dL_law_1790 : decode cL_law 1790 = .ok (.iaload, 1) := dk_at (r := (1790, .iaload, 1)) dg_cL_law_33 11 rfl
theorem dL_law_1791 : decode cL_law 1791 = .ok (.aload_n 0, 1) := dk_at (r := (1791, .aload_n 0, 1)) dg_cL_law_33 12 rfl
theorem dL_law_1792 : decode cL_law 1792 = .ok (.iload 4, 2) := dk_at (r := (1792, .iload 4, 2)) dg_cL_law_33 13 rfl
theorem dL_law_1794 : decode cL_law 1794 = .ok (.iconst 3, 1) := dk_at (r := (1794, .iconst 3, 1)) dg_cL_law_33 14 rfl
theorem dL_law_1795 : decode cL_law 1795 = .ok (.iadd, 1) := dk_at (r := (1795, .iadd, 1)) dg_cL_law_33 15 rfl
theorem dL_law_1796 : decode cL_law 1796 = .ok (.iaload, 1) := dk_at (r := (1796, .iaload, 1)) dg_cL_law_33 16 rfl
theorem dL_law_1797 : decode cL_law 1797 = .ok (.aload_n 0, 1) := dk_at (r := (1797, .aload_n 0, 1)) dg_cL_law_33 17 rfl
theorem dL_law_1798 : decode cL_law 1798 = .ok (.iload 4, 2) := dk_at (r := (1798, .iload 4, 2)) dg_cL_law_33 18 rfl
theorem dL_law_1800 : decode cL_law 1800 = .ok (.iconst 4, 1) := dk_at (r := (1800, .iconst 4, 1)) dg_cL_law_33 19 rfl
theorem dL_law_1801 : decode cL_law 1801 = .ok (.iadd, 1) := dk_at (r := (1801, .iadd, 1)) dg_cL_law_33 20 rfl
theorem dL_law_1802 : decode cL_law 1802 = .ok (.iaload, 1) := dk_at (r := (1802, .iaload, 1)) dg_cL_law_33 21 rfl
theorem dL_law_1803 : decode cL_law 1803 = .ok (.aload_n 3, 1) := dk_at (r := (1803, .aload_n 3, 1)) dg_cL_law_33 22 rfl
theorem dL_law_1804 : decode cL_law 1804 = .ok (.invokestatic 299, 3) := dk_at (r := (1804, .invokestatic 299, 3)) dg_cL_law_33 23 rfl
theorem dL_law_1807 : decode cL_law 1807 = .ok (.istore 5, 2) := dk_at (r := (1807, .istore 5, 2)) dg_cL_law_33 24 rfl
theorem dL_law_1809 : decode cL_law 1809 = .ok (.aload_n 2, 1) := dk_at (r := (1809, .aload_n 2, 1)) dg_cL_law_33 25 rfl
theorem dL_law_1810 : decode cL_law 1810 = .ok (.aload_n 0, 1) := dk_at (r := (1810, .aload_n 0, 1)) dg_cL_law_33 26 rfl
theorem dL_law_1811 : decode cL_law 1811 = .ok (.iload 4, 2) := dk_at (r := (1811, .iload 4, 2)) dg_cL_law_33 27 rfl
theorem dL_law_1813 : decode cL_law 1813 = .ok (.iconst 1, 1) := dk_at (r := (1813, .iconst 1, 1)) dg_cL_law_33 28 rfl
theorem dL_law_1814 : decode cL_law 1814 = .ok (.iadd, 1) := dk_at (r := (1814, .iadd, 1)) dg_cL_law_33 29 rfl
theorem dL_law_1815 : decode cL_law 1815 = .ok (.iaload, 1) := dk_at (r := (1815, .iaload, 1)) dg_cL_law_33 30 rfl
theorem dL_law_1816 : decode cL_law 1816 = .ok (.aload_n 0, 1) := dk_at (r := (1816, .aload_n 0, 1)) dg_cL_law_33 31 rfl
theorem dg_cL_law_34 : dk cL_law [(1817, .iload 4, 2), (1819, .iconst 2, 1), (1820, .iadd, 1), (1821, .iaload, 1), (1822, .aload_n 0, 1), (1823, .iload 4, 2), (1825, .iconst 3, 1), (1826, .iadd, 1), (1827, .iaload, 1), (1828, .aload_n 0, 1), (1829, .iload 4, 2), (1831, .iconst 4, 1), (1832, .iadd, 1), (1833, .iaload, 1), (1834, .invokevirtual 301, 3), (1837, .istore 6, 2), (1839, .goto 602, 3), (1842, .aload_n 1, 1), (1843, .aload_n 0, 1), (1844, .iload 4, 2), (1846, .iconst 1, 1), (1847, .iadd, 1), (1848, .iaload, 1), (1849, .aload_n 0, 1), (1850, .iload 4, 2), (1852, .iconst 2, 1), (1853, .iadd, 1), (1854, .iaload, 1), (1855, .aload_n 3, 1), (1856, .invokestatic 302, 3), (1859, .istore 5, 2), (1861, .aload_n 2, 1)] = true := by decide +kernel
theorem dL_law_1817 : decode cL_law 1817 = .ok (.iload 4, 2) := dk_at (r := (1817, .iload 4, 2)) dg_cL_law_34 0 rfl
theorem dL_law_1819 : decode cL_law 1819 = .ok (.iconst 2, 1) := dk_at (r := (1819, .iconst 2, 1)) dg_cL_law_34 1 rfl
theorem dL_law_1820 : decode cL_law 1820 = .ok (.iadd, 1) := dk_at (r := (1820, .iadd, 1)) dg_cL_law_34 2 rfl
theorem dL_law_1821 : decode cL_law 1821 = .ok (.iaload, 1) := dk_at (r := (1821, .iaload, 1)) dg_cL_law_34 3 rfl
theorem dL_law_1822 : decode cL_law 1822 = .ok (.aload_n 0, 1) := dk_at (r := (1822, .aload_n 0, 1)) dg_cL_law_34 4 rfl
theorem dL_law_1823 : decode cL_law 1823 = .ok (.iload 4, 2) := dk_at (r := (1823, .iload 4, 2)) dg_cL_law_34 5 rfl
theorem dL_law_1825 : decode cL_law 1825 = .ok (.iconst 3, 1) := dk_at (r := (1825, .iconst 3, 1)) dg_cL_law_34 6 rfl
theorem dL_law_1826 : decode cL_law 1826 = .ok (.iadd, 1) := dk_at (r := (1826, .iadd, 1)) dg_cL_law_34 7 rfl
theorem dL_law_1827 : decode cL_law 1827 = .ok (.iaload, 1) := dk_at (r := (1827, .iaload, 1)) dg_cL_law_34 8 rfl
theorem dL_law_1828 : decode cL_law 1828 = .ok (.aload_n 0, 1) := dk_at (r := (1828, .aload_n 0, 1)) dg_cL_law_34 9 rfl
theorem dL_law_1829 : decode cL_law 1829 = .ok (.iload 4, 2) := dk_at (r := (1829, .iload 4, 2)) dg_cL_law_34 10 rfl
theorem dL_law_1831 : decode cL_law 1831 = .ok (.iconst 4, 1) := dk_at (r := (1831, .iconst 4, 1)) dg_cL_law_34 11 rfl
theorem dL_law_1832 : decode cL_law 1832 = .ok (.iadd, 1) := dk_at (r := (1832, .iadd, 1)) dg_cL_law_34 12 rfl
theorem dL_law_1833 : decode cL_law 1833 = .ok (.iaload, 1) := dk_at (r := (1833, .iaload, 1)) dg_cL_law_34 13 rfl
theorem dL_law_1834 : decode cL_law 1834 = .ok (.invokevirtual 301, 3) := dk_at (r := (1834, .invokevirtual 301, 3)) dg_cL_law_34 14 rfl
theorem dL_law_1837 : decode cL_law 1837 = .ok (.istore 6, 2) := dk_at (r := (1837, .istore 6, 2)) dg_cL_law_34 15 rfl
theorem dL_law_1839 : decode cL_law 1839 = .ok (.goto 602, 3) := dk_at (r := (1839, .goto 602, 3)) dg_cL_law_34 16 rfl
theorem dL_law_1842 : decode cL_law 1842 = .ok (.aload_n 1, 1) := dk_at (r := (1842, .aload_n 1, 1)) dg_cL_law_34 17 rfl
theorem dL_law_1843 : decode cL_law 1843 = .ok (.aload_n 0, 1) := dk_at (r := (1843, .aload_n 0, 1)) dg_cL_law_34 18 rfl
theorem dL_law_1844 : decode cL_law 1844 = .ok (.iload 4, 2) := dk_at (r := (1844, .iload 4, 2)) dg_cL_law_34 19 rfl
theorem dL_law_1846 : decode cL_law 1846 = .ok (.iconst 1, 1) := dk_at (r := (1846, .iconst 1, 1)) dg_cL_law_34 20 rfl
theorem dL_law_1847 : decode cL_law 1847 = .ok (.iadd, 1) := dk_at (r := (1847, .iadd, 1)) dg_cL_law_34 21 rfl
theorem dL_law_1848 : decode cL_law 1848 = .ok (.iaload, 1) := dk_at (r := (1848, .iaload, 1)) dg_cL_law_34 22 rfl
theorem dL_law_1849 : decode cL_law 1849 = .ok (.aload_n 0, 1) := dk_at (r := (1849, .aload_n 0, 1)) dg_cL_law_34 23 rfl
theorem dL_law_1850 : decode cL_law 1850 = .ok (.iload 4, 2) := dk_at (r := (1850, .iload 4, 2)) dg_cL_law_34 24 rfl
theorem dL_law_1852 : decode cL_law 1852 = .ok (.iconst 2, 1) := dk_at (r := (1852, .iconst 2, 1)) dg_cL_law_34 25 rfl
theorem dL_law_1853 : decode cL_law 1853 = .ok (.iadd, 1) := dk_at (r := (1853, .iadd, 1)) dg_cL_law_34 26 rfl
theorem dL_law_1854 : decode cL_law 1854 = .ok (.iaload, 1) := dk_at (r := (1854, .iaload, 1)) dg_cL_law_34 27 rfl
theorem dL_law_1855 : decode cL_law 1855 = .ok (.aload_n 3, 1) := dk_at (r := (1855, .aload_n 3, 1)) dg_cL_law_34 28 rfl
theorem dL_law_1856 : decode cL_law 1856 = .ok (.invokestatic 302, 3) := dk_at (r := (1856, .invokestatic 302, 3)) dg_cL_law_34 29 rfl
theorem dL_law_1859 : decode cL_law 1859 = .ok (.istore 5, 2) := dk_at (r := (1859, .istore 5, 2)) dg_cL_law_34 30 rfl
theorem dL_law_1861 : decode cL_law 1861 = .ok (.aload_n 2, 1) := dk_at (r := (1861, .aload_n 2, 1)) dg_cL_law_34 31 rfl
theorem dg_cL_law_35 : dk cL_law [(1862, .aload_n 0, 1), (1863, .iload 4, 2), (1865, .iconst 1, 1), (1866, .iadd, 1), (1867, .iaload, 1), (1868, .aload_n 0, 1), (1869, .iload 4, 2), (1871, .iconst 2, 1), (1872, .iadd, 1), (1873, .iaload, 1), (1874, .invokevirtual 304, 3), (1877, .istore 6, 2), (1879, .goto 562, 3), (1882, .aload_n 1, 1), (1883, .aload_n 0, 1), (1884, .iload 4, 2), (1886, .iconst 1, 1), (1887, .iadd, 1), (1888, .iaload, 1), (1889, .aload_n 0, 1), (1890, .iload 4, 2), (1892, .iconst 2, 1), (1893, .iadd, 1), (1894, .iaload, 1), (1895, .aload_n 3, 1), (1896, .invokestatic 305, 3), (1899, .istore 5, 2), (1901, .aload_n 2, 1), (1902, .aload_n 0, 1), (1903, .iload 4, 2), (1905, .iconst 1, 1), (1906, .iadd, 1)] = true := by decide +kernel
theorem dL_law_1862 : decode cL_law 1862 = .ok (.aload_n 0, 1) := dk_at (r := (1862, .aload_n 0, 1)) dg_cL_law_35 0 rfl
theorem dL_law_1863 : decode cL_law 1863 = .ok (.iload 4, 2) := dk_at (r := (1863, .iload 4, 2)) dg_cL_law_35 1 rfl
theorem dL_law_1865 : decode cL_law 1865 = .ok (.iconst 1, 1) := dk_at (r := (1865, .iconst 1, 1)) dg_cL_law_35 2 rfl
theorem dL_law_1866 : decode cL_law 1866 = .ok (.iadd, 1) := dk_at (r := (1866, .iadd, 1)) dg_cL_law_35 3 rfl
theorem dL_law_1867 : decode cL_law 1867 = .ok (.iaload, 1) := dk_at (r := (1867, .iaload, 1)) dg_cL_law_35 4 rfl
theorem dL_law_1868 : decode cL_law 1868 = .ok (.aload_n 0, 1) := dk_at (r := (1868, .aload_n 0, 1)) dg_cL_law_35 5 rfl
theorem dL_law_1869 : decode cL_law 1869 = .ok (.iload 4, 2) := dk_at (r := (1869, .iload 4, 2)) dg_cL_law_35 6 rfl
theorem dL_law_1871 : decode cL_law 1871 = .ok (.iconst 2, 1) := dk_at (r := (1871, .iconst 2, 1)) dg_cL_law_35 7 rfl
theorem dL_law_1872 : decode cL_law 1872 = .ok (.iadd, 1) := dk_at (r := (1872, .iadd, 1)) dg_cL_law_35 8 rfl
theorem dL_law_1873 : decode cL_law 1873 = .ok (.iaload, 1) := dk_at (r := (1873, .iaload, 1)) dg_cL_law_35 9 rfl
theorem dL_law_1874 : decode cL_law 1874 = .ok (.invokevirtual 304, 3) := dk_at (r := (1874, .invokevirtual 304, 3)) dg_cL_law_35 10 rfl
theorem dL_law_1877 : decode cL_law 1877 = .ok (.istore 6, 2) := dk_at (r := (1877, .istore 6, 2)) dg_cL_law_35 11 rfl
theorem dL_law_1879 : decode cL_law 1879 = .ok (.goto 562, 3) := dk_at (r := (1879, .goto 562, 3)) dg_cL_law_35 12 rfl
theorem dL_law_1882 : decode cL_law 1882 = .ok (.aload_n 1, 1) := dk_at (r := (1882, .aload_n 1, 1)) dg_cL_law_35 13 rfl
theorem dL_law_1883 : decode cL_law 1883 = .ok (.aload_n 0, 1) := dk_at (r := (1883, .aload_n 0, 1)) dg_cL_law_35 14 rfl
theorem dL_law_1884 : decode cL_law 1884 = .ok (.iload 4, 2) := dk_at (r := (1884, .iload 4, 2)) dg_cL_law_35 15 rfl
theorem dL_law_1886 : decode cL_law 1886 = .ok (.iconst 1, 1) := dk_at (r := (1886, .iconst 1, 1)) dg_cL_law_35 16 rfl
theorem dL_law_1887 : decode cL_law 1887 = .ok (.iadd, 1) := dk_at (r := (1887, .iadd, 1)) dg_cL_law_35 17 rfl
theorem dL_law_1888 : decode cL_law 1888 = .ok (.iaload, 1) := dk_at (r := (1888, .iaload, 1)) dg_cL_law_35 18 rfl
theorem dL_law_1889 : decode cL_law 1889 = .ok (.aload_n 0, 1) := dk_at (r := (1889, .aload_n 0, 1)) dg_cL_law_35 19 rfl
theorem dL_law_1890 : decode cL_law 1890 = .ok (.iload 4, 2) := dk_at (r := (1890, .iload 4, 2)) dg_cL_law_35 20 rfl
theorem dL_law_1892 : decode cL_law 1892 = .ok (.iconst 2, 1) := dk_at (r := (1892, .iconst 2, 1)) dg_cL_law_35 21 rfl
theorem dL_law_1893 : decode cL_law 1893 = .ok (.iadd, 1) := dk_at (r := (1893, .iadd, 1)) dg_cL_law_35 22 rfl
theorem dL_law_1894 : decode cL_law 1894 = .ok (.iaload, 1) := dk_at (r := (1894, .iaload, 1)) dg_cL_law_35 23 rfl
theorem dL_law_1895 : decode cL_law 1895 = .ok (.aload_n 3, 1) := dk_at (r := (1895, .aload_n 3, 1)) dg_cL_law_35 24 rfl
theorem dL_law_1896 : decode cL_law 1896 = .ok (.invokestatic 305, 3) := dk_at (r := (1896, .invokestatic 305, 3)) dg_cL_law_35 25 rfl
theorem dL_law_1899 : decode cL_law 1899 = .ok (.istore 5, 2) := dk_at (r := (1899, .istore 5, 2)) dg_cL_law_35 26 rfl
theorem dL_law_1901 : decode cL_law 1901 = .ok (.aload_n 2, 1) := dk_at (r := (1901, .aload_n 2, 1)) dg_cL_law_35 27 rfl
theorem dL_law_1902 : decode cL_law 1902 = .ok (.aload_n 0, 1) := dk_at (r := (1902, .aload_n 0, 1)) dg_cL_law_35 28 rfl
theorem dL_law_1903 : decode cL_law 1903 = .ok (.iload 4, 2) := dk_at (r := (1903, .iload 4, 2)) dg_cL_law_35 29 rfl
theorem dL_law_1905 : decode cL_law 1905 = .ok (.iconst 1, 1) := dk_at (r := (1905, .iconst 1, 1)) dg_cL_law_35 30 rfl
theorem dL_law_1906 : decode cL_law 1906 = .ok (.iadd, 1) := dk_at (r := (1906, .iadd, 1)) dg_cL_law_35 31 rfl
theorem dg_cL_law_36 : dk cL_law [(1907, .iaload, 1), (1908, .aload_n 0, 1), (1909, .iload 4, 2), (1911, .iconst 2, 1), (1912, .iadd, 1), (1913, .iaload, 1), (1914, .invokevirtual 307, 3), (1917, .istore 6, 2), (1919, .goto 522, 3), (1922, .aload_n 1, 1), (1923, .aload_n 0, 1), (1924, .iload 4, 2), (1926, .iconst 1, 1), (1927, .iadd, 1), (1928, .iaload, 1), (1929, .aload_n 0, 1), (1930, .iload 4, 2), (1932, .iconst 2, 1), (1933, .iadd, 1), (1934, .iaload, 1), (1935, .aload_n 3, 1), (1936, .invokestatic 308, 3), (1939, .istore 5, 2), (1941, .aload_n 2, 1), (1942, .aload_n 0, 1), (1943, .iload 4, 2), (1945, .iconst 1, 1), (1946, .iadd, 1), (1947, .iaload, 1), (1948, .aload_n 0, 1), (1949, .iload 4, 2), (1951, .iconst 2, 1)] = true := by decide +kernel
theorem dL_law_1907 : decode cL_law 1907 = .ok (.iaload, 1) := dk_at (r := (1907, .iaload, 1)) dg_cL_law_36 0 rfl
theorem dL_law_1908 : decode cL_law 1908 = .ok (.aload_n 0, 1) := dk_at (r := (1908, .aload_n 0, 1)) dg_cL_law_36 1 rfl
theorem dL_law_1909 : decode cL_law 1909 = .ok (.iload 4, 2) := dk_at (r := (1909, .iload 4, 2)) dg_cL_law_36 2 rfl
theorem dL_law_1911 : decode cL_law 1911 = .ok (.iconst 2, 1) := dk_at (r := (1911, .iconst 2, 1)) dg_cL_law_36 3 rfl
theorem dL_law_1912 : decode cL_law 1912 = .ok (.iadd, 1) := dk_at (r := (1912, .iadd, 1)) dg_cL_law_36 4 rfl
theorem dL_law_1913 : decode cL_law 1913 = .ok (.iaload, 1) := dk_at (r := (1913, .iaload, 1)) dg_cL_law_36 5 rfl
theorem dL_law_1914 : decode cL_law 1914 = .ok (.invokevirtual 307, 3) := dk_at (r := (1914, .invokevirtual 307, 3)) dg_cL_law_36 6 rfl
theorem dL_law_1917 : decode cL_law 1917 = .ok (.istore 6, 2) := dk_at (r := (1917, .istore 6, 2)) dg_cL_law_36 7 rfl
theorem dL_law_1919 : decode cL_law 1919 = .ok (.goto 522, 3) := dk_at (r := (1919, .goto 522, 3)) dg_cL_law_36 8 rfl
theorem dL_law_1922 : decode cL_law 1922 = .ok (.aload_n 1, 1) := dk_at (r := (1922, .aload_n 1, 1)) dg_cL_law_36 9 rfl
theorem dL_law_1923 : decode cL_law 1923 = .ok (.aload_n 0, 1) := dk_at (r := (1923, .aload_n 0, 1)) dg_cL_law_36 10 rfl
theorem dL_law_1924 : decode cL_law 1924 = .ok (.iload 4, 2) := dk_at (r := (1924, .iload 4, 2)) dg_cL_law_36 11 rfl
theorem dL_law_1926 : decode cL_law 1926 = .ok (.iconst 1, 1) := dk_at (r := (1926, .iconst 1, 1)) dg_cL_law_36 12 rfl
theorem dL_law_1927 : decode cL_law 1927 = .ok (.iadd, 1) := dk_at (r := (1927, .iadd, 1)) dg_cL_law_36 13 rfl
theorem dL_law_1928 : decode cL_law 1928 = .ok (.iaload, 1) := dk_at (r := (1928, .iaload, 1)) dg_cL_law_36 14 rfl
theorem dL_law_1929 : decode cL_law 1929 = .ok (.aload_n 0, 1) := dk_at (r := (1929, .aload_n 0, 1)) dg_cL_law_36 15 rfl
theorem dL_law_1930 : decode cL_law 1930 = .ok (.iload 4, 2) := dk_at (r := (1930, .iload 4, 2)) dg_cL_law_36 16 rfl
theorem dL_law_1932 : decode cL_law 1932 = .ok (.iconst 2, 1) := dk_at (r := (1932, .iconst 2, 1)) dg_cL_law_36 17 rfl
theorem dL_law_1933 : decode cL_law 1933 = .ok (.iadd, 1) := dk_at (r := (1933, .iadd, 1)) dg_cL_law_36 18 rfl
theorem dL_law_1934 : decode cL_law 1934 = .ok (.iaload, 1) := dk_at (r := (1934, .iaload, 1)) dg_cL_law_36 19 rfl
theorem dL_law_1935 : decode cL_law 1935 = .ok (.aload_n 3, 1) := dk_at (r := (1935, .aload_n 3, 1)) dg_cL_law_36 20 rfl
theorem dL_law_1936 : decode cL_law 1936 = .ok (.invokestatic 308, 3) := dk_at (r := (1936, .invokestatic 308, 3)) dg_cL_law_36 21 rfl
theorem dL_law_1939 : decode cL_law 1939 = .ok (.istore 5, 2) := dk_at (r := (1939, .istore 5, 2)) dg_cL_law_36 22 rfl
theorem dL_law_1941 : decode cL_law 1941 = .ok (.aload_n 2, 1) := dk_at (r := (1941, .aload_n 2, 1)) dg_cL_law_36 23 rfl
theorem dL_law_1942 : decode cL_law 1942 = .ok (.aload_n 0, 1) := dk_at (r := (1942, .aload_n 0, 1)) dg_cL_law_36 24 rfl
theorem dL_law_1943 : decode cL_law 1943 = .ok (.iload 4, 2) := dk_at (r := (1943, .iload 4, 2)) dg_cL_law_36 25 rfl
theorem dL_law_1945 : decode cL_law 1945 = .ok (.iconst 1, 1) := dk_at (r := (1945, .iconst 1, 1)) dg_cL_law_36 26 rfl
theorem dL_law_1946 : decode cL_law 1946 = .ok (.iadd, 1) := dk_at (r := (1946, .iadd, 1)) dg_cL_law_36 27 rfl
theorem dL_law_1947 : decode cL_law 1947 = .ok (.iaload, 1) := dk_at (r := (1947, .iaload, 1)) dg_cL_law_36 28 rfl
theorem dL_law_1948 : decode cL_law 1948 = .ok (.aload_n 0, 1) := dk_at (r := (1948, .aload_n 0, 1)) dg_cL_law_36 29 rfl
theorem dL_law_1949 : decode cL_law 1949 = .ok (.iload 4, 2) := dk_at (r := (1949, .iload 4, 2)) dg_cL_law_36 30 rfl
theorem dL_law_1951 : decode cL_law 1951 = .ok (.iconst 2, 1) := dk_at (r := (1951, .iconst 2, 1)) dg_cL_law_36 31 rfl
theorem dg_cL_law_37 : dk cL_law [(1952, .iadd, 1), (1953, .iaload, 1), (1954, .invokevirtual 310, 3), (1957, .istore 6, 2), (1959, .goto 482, 3), (1962, .aload_n 1, 1), (1963, .aload_n 0, 1), (1964, .iload 4, 2), (1966, .iconst 1, 1), (1967, .iadd, 1), (1968, .iaload, 1), (1969, .aload_n 0, 1), (1970, .iload 4, 2), (1972, .iconst 2, 1), (1973, .iadd, 1), (1974, .iaload, 1), (1975, .aload_n 0, 1), (1976, .iload 4, 2), (1978, .iconst 3, 1), (1979, .iadd, 1), (1980, .iaload, 1), (1981, .aload_n 3, 1), (1982, .invokestatic 311, 3), (1985, .istore 5, 2), (1987, .aload_n 2, 1), (1988, .aload_n 0, 1), (1989, .iload 4, 2), (1991, .iconst 1, 1), (1992, .iadd, 1), (1993, .iaload, 1), (1994, .aload_n 0, 1), (1995, .iload 4, 2)] = true := by decide +kernel
theorem dL_law_1952 : decode cL_law 1952 = .ok (.iadd, 1) := dk_at (r := (1952, .iadd, 1)) dg_cL_law_37 0 rfl
theorem dL_law_1953 : decode cL_law 1953 = .ok (.iaload, 1) := dk_at (r := (1953, .iaload, 1)) dg_cL_law_37 1 rfl
theorem dL_law_1954 : decode cL_law 1954 = .ok (.invokevirtual 310, 3) := dk_at (r := (1954, .invokevirtual 310, 3)) dg_cL_law_37 2 rfl
theorem dL_law_1957 : decode cL_law 1957 = .ok (.istore 6, 2) := dk_at (r := (1957, .istore 6, 2)) dg_cL_law_37 3 rfl
theorem dL_law_1959 : decode cL_law 1959 = .ok (.goto 482, 3) := dk_at (r := (1959, .goto 482, 3)) dg_cL_law_37 4 rfl
theorem dL_law_1962 : decode cL_law 1962 = .ok (.aload_n 1, 1) := dk_at (r := (1962, .aload_n 1, 1)) dg_cL_law_37 5 rfl
theorem dL_law_1963 : decode cL_law 1963 = .ok (.aload_n 0, 1) := dk_at (r := (1963, .aload_n 0, 1)) dg_cL_law_37 6 rfl
theorem dL_law_1964 : decode cL_law 1964 = .ok (.iload 4, 2) := dk_at (r := (1964, .iload 4, 2)) dg_cL_law_37 7 rfl
theorem dL_law_1966 : decode cL_law 1966 = .ok (.iconst 1, 1) := dk_at (r := (1966, .iconst 1, 1)) dg_cL_law_37 8 rfl
theorem dL_law_1967 : decode cL_law 1967 = .ok (.iadd, 1) := dk_at (r := (1967, .iadd, 1)) dg_cL_law_37 9 rfl
theorem dL_law_1968 : decode cL_law 1968 = .ok (.iaload, 1) := dk_at (r := (1968, .iaload, 1)) dg_cL_law_37 10 rfl
theorem dL_law_1969 : decode cL_law 1969 = .ok (.aload_n 0, 1) := dk_at (r := (1969, .aload_n 0, 1)) dg_cL_law_37 11 rfl
theorem dL_law_1970 : decode cL_law 1970 = .ok (.iload 4, 2) := dk_at (r := (1970, .iload 4, 2)) dg_cL_law_37 12 rfl
theorem dL_law_1972 : decode cL_law 1972 = .ok (.iconst 2, 1) := dk_at (r := (1972, .iconst 2, 1)) dg_cL_law_37 13 rfl
theorem dL_law_1973 : decode cL_law 1973 = .ok (.iadd, 1) := dk_at (r := (1973, .iadd, 1)) dg_cL_law_37 14 rfl
theorem dL_law_1974 : decode cL_law 1974 = .ok (.iaload, 1) := dk_at (r := (1974, .iaload, 1)) dg_cL_law_37 15 rfl
theorem dL_law_1975 : decode cL_law 1975 = .ok (.aload_n 0, 1) := dk_at (r := (1975, .aload_n 0, 1)) dg_cL_law_37 16 rfl
theorem dL_law_1976 : decode cL_law 1976 = .ok (.iload 4, 2) := dk_at (r := (1976, .iload 4, 2)) dg_cL_law_37 17 rfl
theorem dL_law_1978 : decode cL_law 1978 = .ok (.iconst 3, 1) := dk_at (r := (1978, .iconst 3, 1)) dg_cL_law_37 18 rfl
theorem dL_law_1979 : decode cL_law 1979 = .ok (.iadd, 1) := dk_at (r := (1979, .iadd, 1)) dg_cL_law_37 19 rfl
theorem dL_law_1980 : decode cL_law 1980 = .ok (.iaload, 1) := dk_at (r := (1980, .iaload, 1)) dg_cL_law_37 20 rfl
theorem dL_law_1981 : decode cL_law 1981 = .ok (.aload_n 3, 1) := dk_at (r := (1981, .aload_n 3, 1)) dg_cL_law_37 21 rfl
theorem dL_law_1982 : decode cL_law 1982 = .ok (.invokestatic 311, 3) := dk_at (r := (1982, .invokestatic 311, 3)) dg_cL_law_37 22 rfl
theorem dL_law_1985 : decode cL_law 1985 = .ok (.istore 5, 2) := dk_at (r := (1985, .istore 5, 2)) dg_cL_law_37 23 rfl
theorem dL_law_1987 : decode cL_law 1987 = .ok (.aload_n 2, 1) := dk_at (r := (1987, .aload_n 2, 1)) dg_cL_law_37 24 rfl
theorem dL_law_1988 : decode cL_law 1988 = .ok (.aload_n 0, 1) := dk_at (r := (1988, .aload_n 0, 1)) dg_cL_law_37 25 rfl
theorem dL_law_1989 : decode cL_law 1989 = .ok (.iload 4, 2) := dk_at (r := (1989, .iload 4, 2)) dg_cL_law_37 26 rfl
theorem dL_law_1991 : decode cL_law 1991 = .ok (.iconst 1, 1) := dk_at (r := (1991, .iconst 1, 1)) dg_cL_law_37 27 rfl
theorem dL_law_1992 : decode cL_law 1992 = .ok (.iadd, 1) := dk_at (r := (1992, .iadd, 1)) dg_cL_law_37 28 rfl
theorem dL_law_1993 : decode cL_law 1993 = .ok (.iaload, 1) := dk_at (r := (1993, .iaload, 1)) dg_cL_law_37 29 rfl
theorem dL_law_1994 : decode cL_law 1994 = .ok (.aload_n 0, 1) := dk_at (r := (1994, .aload_n 0, 1)) dg_cL_law_37 30 rfl
theorem dL_law_1995 : decode cL_law 1995 = .ok (.iload 4, 2) := dk_at (r := (1995, .iload 4, 2)) dg_cL_law_37 31 rfl
theorem dg_cL_law_38 : dk cL_law [(1997, .iconst 2, 1), (1998, .iadd, 1), (1999, .iaload, 1), (2000, .aload_n 0, 1), (2001, .iload 4, 2), (2003, .iconst 3, 1), (2004, .iadd, 1), (2005, .iaload, 1), (2006, .invokevirtual 313, 3), (2009, .istore 6, 2), (2011, .goto 430, 3), (2014, .aload_n 1, 1), (2015, .aload_n 0, 1), (2016, .iload 4, 2), (2018, .iconst 1, 1), (2019, .iadd, 1), (2020, .iaload, 1), (2021, .aload_n 0, 1), (2022, .iload 4, 2), (2024, .iconst 2, 1), (2025, .iadd, 1), (2026, .iaload, 1), (2027, .aload_n 0, 1), (2028, .iload 4, 2), (2030, .iconst 3, 1), (2031, .iadd, 1), (2032, .iaload, 1), (2033, .aload_n 3, 1), (2034, .invokestatic 314, 3), (2037, .istore 5, 2), (2039, .aload_n 2, 1), (2040, .aload_n 0, 1)] = true := by decide +kernel
theorem dL_law_1997 : decode cL_law 1997 = .ok (.iconst 2, 1) := dk_at (r := (1997, .iconst 2, 1)) dg_cL_law_38 0 rfl
theorem dL_law_1998 : decode cL_law 1998 = .ok (.iadd, 1) := dk_at (r := (1998, .iadd, 1)) dg_cL_law_38 1 rfl
theorem dL_law_1999 : decode cL_law 1999 = .ok (.iaload, 1) := dk_at (r := (1999, .iaload, 1)) dg_cL_law_38 2 rfl
theorem dL_law_2000 : decode cL_law 2000 = .ok (.aload_n 0, 1) := dk_at (r := (2000, .aload_n 0, 1)) dg_cL_law_38 3 rfl
theorem dL_law_2001 : decode cL_law 2001 = .ok (.iload 4, 2) := dk_at (r := (2001, .iload 4, 2)) dg_cL_law_38 4 rfl
theorem dL_law_2003 : decode cL_law 2003 = .ok (.iconst 3, 1) := dk_at (r := (2003, .iconst 3, 1)) dg_cL_law_38 5 rfl
theorem dL_law_2004 : decode cL_law 2004 = .ok (.iadd, 1) := dk_at (r := (2004, .iadd, 1)) dg_cL_law_38 6 rfl
theorem dL_law_2005 : decode cL_law 2005 = .ok (.iaload, 1) := dk_at (r := (2005, .iaload, 1)) dg_cL_law_38 7 rfl
theorem dL_law_2006 : decode cL_law 2006 = .ok (.invokevirtual 313, 3) := dk_at (r := (2006, .invokevirtual 313, 3)) dg_cL_law_38 8 rfl
theorem dL_law_2009 : decode cL_law 2009 = .ok (.istore 6, 2) := dk_at (r := (2009, .istore 6, 2)) dg_cL_law_38 9 rfl
theorem dL_law_2011 : decode cL_law 2011 = .ok (.goto 430, 3) := dk_at (r := (2011, .goto 430, 3)) dg_cL_law_38 10 rfl
theorem dL_law_2014 : decode cL_law 2014 = .ok (.aload_n 1, 1) := dk_at (r := (2014, .aload_n 1, 1)) dg_cL_law_38 11 rfl
theorem dL_law_2015 : decode cL_law 2015 = .ok (.aload_n 0, 1) := dk_at (r := (2015, .aload_n 0, 1)) dg_cL_law_38 12 rfl
theorem dL_law_2016 : decode cL_law 2016 = .ok (.iload 4, 2) := dk_at (r := (2016, .iload 4, 2)) dg_cL_law_38 13 rfl
theorem dL_law_2018 : decode cL_law 2018 = .ok (.iconst 1, 1) := dk_at (r := (2018, .iconst 1, 1)) dg_cL_law_38 14 rfl
theorem dL_law_2019 : decode cL_law 2019 = .ok (.iadd, 1) := dk_at (r := (2019, .iadd, 1)) dg_cL_law_38 15 rfl
theorem dL_law_2020 : decode cL_law 2020 = .ok (.iaload, 1) := dk_at (r := (2020, .iaload, 1)) dg_cL_law_38 16 rfl
theorem dL_law_2021 : decode cL_law 2021 = .ok (.aload_n 0, 1) := dk_at (r := (2021, .aload_n 0, 1)) dg_cL_law_38 17 rfl
theorem dL_law_2022 : decode cL_law 2022 = .ok (.iload 4, 2) := dk_at (r := (2022, .iload 4, 2)) dg_cL_law_38 18 rfl
theorem dL_law_2024 : decode cL_law 2024 = .ok (.iconst 2, 1) := dk_at (r := (2024, .iconst 2, 1)) dg_cL_law_38 19 rfl
theorem dL_law_2025 : decode cL_law 2025 = .ok (.iadd, 1) := dk_at (r := (2025, .iadd, 1)) dg_cL_law_38 20 rfl
theorem dL_law_2026 : decode cL_law 2026 = .ok (.iaload, 1) := dk_at (r := (2026, .iaload, 1)) dg_cL_law_38 21 rfl
theorem dL_law_2027 : decode cL_law 2027 = .ok (.aload_n 0, 1) := dk_at (r := (2027, .aload_n 0, 1)) dg_cL_law_38 22 rfl
theorem dL_law_2028 : decode cL_law 2028 = .ok (.iload 4, 2) := dk_at (r := (2028, .iload 4, 2)) dg_cL_law_38 23 rfl
theorem dL_law_2030 : decode cL_law 2030 = .ok (.iconst 3, 1) := dk_at (r := (2030, .iconst 3, 1)) dg_cL_law_38 24 rfl
theorem dL_law_2031 : decode cL_law 2031 = .ok (.iadd, 1) := dk_at (r := (2031, .iadd, 1)) dg_cL_law_38 25 rfl
theorem dL_law_2032 : decode cL_law 2032 = .ok (.iaload, 1) := dk_at (r := (2032, .iaload, 1)) dg_cL_law_38 26 rfl
theorem dL_law_2033 : decode cL_law 2033 = .ok (.aload_n 3, 1) := dk_at (r := (2033, .aload_n 3, 1)) dg_cL_law_38 27 rfl
theorem dL_law_2034 : decode cL_law 2034 = .ok (.invokestatic 314, 3) := dk_at (r := (2034, .invokestatic 314, 3)) dg_cL_law_38 28 rfl
theorem dL_law_2037 : decode cL_law 2037 = .ok (.istore 5, 2) := dk_at (r := (2037, .istore 5, 2)) dg_cL_law_38 29 rfl
theorem dL_law_2039 : decode cL_law 2039 = .ok (.aload_n 2, 1) := dk_at (r := (2039, .aload_n 2, 1)) dg_cL_law_38 30 rfl
theorem dL_law_2040 : decode cL_law 2040 = .ok (.aload_n 0, 1) := dk_at (r := (2040, .aload_n 0, 1)) dg_cL_law_38 31 rfl
theorem dg_cL_law_39 : dk cL_law [(2041, .iload 4, 2), (2043, .iconst 1, 1), (2044, .iadd, 1), (2045, .iaload, 1), (2046, .aload_n 0, 1), (2047, .iload 4, 2), (2049, .iconst 2, 1), (2050, .iadd, 1), (2051, .iaload, 1), (2052, .aload_n 0, 1), (2053, .iload 4, 2), (2055, .iconst 3, 1), (2056, .iadd, 1), (2057, .iaload, 1), (2058, .invokevirtual 316, 3), (2061, .istore 6, 2), (2063, .goto 378, 3), (2066, .aload_n 1, 1), (2067, .aload_n 0, 1), (2068, .iload 4, 2), (2070, .iconst 1, 1), (2071, .iadd, 1), (2072, .iaload, 1), (2073, .aload_n 0, 1), (2074, .iload 4, 2), (2076, .iconst 2, 1), (2077, .iadd, 1), (2078, .iaload, 1), (2079, .aload_n 0, 1), (2080, .iload 4, 2), (2082, .iconst 3, 1), (2083, .iadd, 1)] = true := by decide +kernel
theorem dL_law_2041 : decode cL_law 2041 = .ok (.iload 4, 2) := dk_at (r := (2041, .iload 4, 2)) dg_cL_law_39 0 rfl
theorem dL_law_2043 : decode cL_law 2043 = .ok (.iconst 1, 1) := dk_at (r := (2043, .iconst 1, 1)) dg_cL_law_39 1 rfl
theorem dL_law_2044 : decode cL_law 2044 = .ok (.iadd, 1) := dk_at (r := (2044, .iadd, 1)) dg_cL_law_39 2 rfl
theorem dL_law_2045 : decode cL_law 2045 = .ok (.iaload, 1) := dk_at (r := (2045, .iaload, 1)) dg_cL_law_39 3 rfl
theorem dL_law_2046 : decode cL_law 2046 = .ok (.aload_n 0, 1) := dk_at (r := (2046, .aload_n 0, 1)) dg_cL_law_39 4 rfl
theorem dL_law_2047 : decode cL_law 2047 = .ok (.iload 4, 2) := dk_at (r := (2047, .iload 4, 2)) dg_cL_law_39 5 rfl
theorem dL_law_2049 : decode cL_law 2049 = .ok (.iconst 2, 1) := dk_at (r := (2049, .iconst 2, 1)) dg_cL_law_39 6 rfl
theorem dL_law_2050 : decode cL_law 2050 = .ok (.iadd, 1) := dk_at (r := (2050, .iadd, 1)) dg_cL_law_39 7 rfl
theorem dL_law_2051 : decode cL_law 2051 = .ok (.iaload, 1) := dk_at (r := (2051, .iaload, 1)) dg_cL_law_39 8 rfl
theorem dL_law_2052 : decode cL_law 2052 = .ok (.aload_n 0, 1) := dk_at (r := (2052, .aload_n 0, 1)) dg_cL_law_39 9 rfl
theorem dL_law_2053 : decode cL_law 2053 = .ok (.iload 4, 2) := dk_at (r := (2053, .iload 4, 2)) dg_cL_law_39 10 rfl
theorem dL_law_2055 : decode cL_law 2055 = .ok (.iconst 3, 1) := dk_at (r := (2055, .iconst 3, 1)) dg_cL_law_39 11 rfl
theorem dL_law_2056 : decode cL_law 2056 = .ok (.iadd, 1) := dk_at (r := (2056, .iadd, 1)) dg_cL_law_39 12 rfl
theorem dL_law_2057 : decode cL_law 2057 = .ok (.iaload, 1) := dk_at (r := (2057, .iaload, 1)) dg_cL_law_39 13 rfl
theorem dL_law_2058 : decode cL_law 2058 = .ok (.invokevirtual 316, 3) := dk_at (r := (2058, .invokevirtual 316, 3)) dg_cL_law_39 14 rfl
theorem dL_law_2061 : decode cL_law 2061 = .ok (.istore 6, 2) := dk_at (r := (2061, .istore 6, 2)) dg_cL_law_39 15 rfl
theorem dL_law_2063 : decode cL_law 2063 = .ok (.goto 378, 3) := dk_at (r := (2063, .goto 378, 3)) dg_cL_law_39 16 rfl
theorem dL_law_2066 : decode cL_law 2066 = .ok (.aload_n 1, 1) := dk_at (r := (2066, .aload_n 1, 1)) dg_cL_law_39 17 rfl
theorem dL_law_2067 : decode cL_law 2067 = .ok (.aload_n 0, 1) := dk_at (r := (2067, .aload_n 0, 1)) dg_cL_law_39 18 rfl
theorem dL_law_2068 : decode cL_law 2068 = .ok (.iload 4, 2) := dk_at (r := (2068, .iload 4, 2)) dg_cL_law_39 19 rfl
theorem dL_law_2070 : decode cL_law 2070 = .ok (.iconst 1, 1) := dk_at (r := (2070, .iconst 1, 1)) dg_cL_law_39 20 rfl
theorem dL_law_2071 : decode cL_law 2071 = .ok (.iadd, 1) := dk_at (r := (2071, .iadd, 1)) dg_cL_law_39 21 rfl
theorem dL_law_2072 : decode cL_law 2072 = .ok (.iaload, 1) := dk_at (r := (2072, .iaload, 1)) dg_cL_law_39 22 rfl
theorem dL_law_2073 : decode cL_law 2073 = .ok (.aload_n 0, 1) := dk_at (r := (2073, .aload_n 0, 1)) dg_cL_law_39 23 rfl
theorem dL_law_2074 : decode cL_law 2074 = .ok (.iload 4, 2) := dk_at (r := (2074, .iload 4, 2)) dg_cL_law_39 24 rfl
theorem dL_law_2076 : decode cL_law 2076 = .ok (.iconst 2, 1) := dk_at (r := (2076, .iconst 2, 1)) dg_cL_law_39 25 rfl
theorem dL_law_2077 : decode cL_law 2077 = .ok (.iadd, 1) := dk_at (r := (2077, .iadd, 1)) dg_cL_law_39 26 rfl
theorem dL_law_2078 : decode cL_law 2078 = .ok (.iaload, 1) := dk_at (r := (2078, .iaload, 1)) dg_cL_law_39 27 rfl
theorem dL_law_2079 : decode cL_law 2079 = .ok (.aload_n 0, 1) := dk_at (r := (2079, .aload_n 0, 1)) dg_cL_law_39 28 rfl
theorem dL_law_2080 : decode cL_law 2080 = .ok (.iload 4, 2) := dk_at (r := (2080, .iload 4, 2)) dg_cL_law_39 29 rfl
theorem dL_law_2082 : decode cL_law 2082 = .ok (.iconst 3, 1) := dk_at (r := (2082, .iconst 3, 1)) dg_cL_law_39 30 rfl
theorem dL_law_2083 : decode cL_law 2083 = .ok (.iadd, 1) := dk_at (r := (2083, .iadd, 1)) dg_cL_law_39 31 rfl
theorem dg_cL_law_40 : dk cL_law [(2084, .iaload, 1), (2085, .aload_n 3, 1), (2086, .invokestatic 317, 3), (2089, .istore 5, 2), (2091, .aload_n 2, 1), (2092, .aload_n 0, 1), (2093, .iload 4, 2), (2095, .iconst 1, 1), (2096, .iadd, 1), (2097, .iaload, 1), (2098, .aload_n 0, 1), (2099, .iload 4, 2), (2101, .iconst 2, 1), (2102, .iadd, 1), (2103, .iaload, 1), (2104, .aload_n 0, 1), (2105, .iload 4, 2), (2107, .iconst 3, 1), (2108, .iadd, 1), (2109, .iaload, 1), (2110, .invokevirtual 319, 3), (2113, .istore 6, 2), (2115, .goto 326, 3), (2118, .aload_n 1, 1), (2119, .aload_n 0, 1), (2120, .iload 4, 2), (2122, .iconst 1, 1), (2123, .iadd, 1), (2124, .iaload, 1), (2125, .aload_n 0, 1), (2126, .iload 4, 2), (2128, .iconst 2, 1)] = true := by decide +kernel
theorem dL_law_2084 : decode cL_law 2084 = .ok (.iaload, 1) := dk_at (r := (2084, .iaload, 1)) dg_cL_law_40 0 rfl
theorem dL_law_2085 : decode cL_law 2085 = .ok (.aload_n 3, 1) := dk_at (r := (2085, .aload_n 3, 1)) dg_cL_law_40 1 rfl
theorem dL_law_2086 : decode cL_law 2086 = .ok (.invokestatic 317, 3) := dk_at (r := (2086, .invokestatic 317, 3)) dg_cL_law_40 2 rfl
theorem dL_law_2089 : decode cL_law 2089 = .ok (.istore 5, 2) := dk_at (r := (2089, .istore 5, 2)) dg_cL_law_40 3 rfl
theorem dL_law_2091 : decode cL_law 2091 = .ok (.aload_n 2, 1) := dk_at (r := (2091, .aload_n 2, 1)) dg_cL_law_40 4 rfl
theorem dL_law_2092 : decode cL_law 2092 = .ok (.aload_n 0, 1) := dk_at (r := (2092, .aload_n 0, 1)) dg_cL_law_40 5 rfl
theorem dL_law_2093 : decode cL_law 2093 = .ok (.iload 4, 2) := dk_at (r := (2093, .iload 4, 2)) dg_cL_law_40 6 rfl
theorem dL_law_2095 : decode cL_law 2095 = .ok (.iconst 1, 1) := dk_at (r := (2095, .iconst 1, 1)) dg_cL_law_40 7 rfl
theorem dL_law_2096 : decode cL_law 2096 = .ok (.iadd, 1) := dk_at (r := (2096, .iadd, 1)) dg_cL_law_40 8 rfl
theorem dL_law_2097 : decode cL_law 2097 = .ok (.iaload, 1) := dk_at (r := (2097, .iaload, 1)) dg_cL_law_40 9 rfl
theorem dL_law_2098 : decode cL_law 2098 = .ok (.aload_n 0, 1) := dk_at (r := (2098, .aload_n 0, 1)) dg_cL_law_40 10 rfl
theorem dL_law_2099 : decode cL_law 2099 = .ok (.iload 4, 2) := dk_at (r := (2099, .iload 4, 2)) dg_cL_law_40 11 rfl
theorem dL_law_2101 : decode cL_law 2101 = .ok (.iconst 2, 1) := dk_at (r := (2101, .iconst 2, 1)) dg_cL_law_40 12 rfl
theorem dL_law_2102 : decode cL_law 2102 = .ok (.iadd, 1) := dk_at (r := (2102, .iadd, 1)) dg_cL_law_40 13 rfl
theorem dL_law_2103 : decode cL_law 2103 = .ok (.iaload, 1) := dk_at (r := (2103, .iaload, 1)) dg_cL_law_40 14 rfl
theorem dL_law_2104 : decode cL_law 2104 = .ok (.aload_n 0, 1) := dk_at (r := (2104, .aload_n 0, 1)) dg_cL_law_40 15 rfl
theorem dL_law_2105 : decode cL_law 2105 = .ok (.iload 4, 2) := dk_at (r := (2105, .iload 4, 2)) dg_cL_law_40 16 rfl
theorem dL_law_2107 : decode cL_law 2107 = .ok (.iconst 3, 1) := dk_at (r := (2107, .iconst 3, 1)) dg_cL_law_40 17 rfl
theorem dL_law_2108 : decode cL_law 2108 = .ok (.iadd, 1) := dk_at (r := (2108, .iadd, 1)) dg_cL_law_40 18 rfl
theorem dL_law_2109 : decode cL_law 2109 = .ok (.iaload, 1) := dk_at (r := (2109, .iaload, 1)) dg_cL_law_40 19 rfl
theorem dL_law_2110 : decode cL_law 2110 = .ok (.invokevirtual 319, 3) := dk_at (r := (2110, .invokevirtual 319, 3)) dg_cL_law_40 20 rfl
theorem dL_law_2113 : decode cL_law 2113 = .ok (.istore 6, 2) := dk_at (r := (2113, .istore 6, 2)) dg_cL_law_40 21 rfl
theorem dL_law_2115 : decode cL_law 2115 = .ok (.goto 326, 3) := dk_at (r := (2115, .goto 326, 3)) dg_cL_law_40 22 rfl
theorem dL_law_2118 : decode cL_law 2118 = .ok (.aload_n 1, 1) := dk_at (r := (2118, .aload_n 1, 1)) dg_cL_law_40 23 rfl
theorem dL_law_2119 : decode cL_law 2119 = .ok (.aload_n 0, 1) := dk_at (r := (2119, .aload_n 0, 1)) dg_cL_law_40 24 rfl
theorem dL_law_2120 : decode cL_law 2120 = .ok (.iload 4, 2) := dk_at (r := (2120, .iload 4, 2)) dg_cL_law_40 25 rfl
theorem dL_law_2122 : decode cL_law 2122 = .ok (.iconst 1, 1) := dk_at (r := (2122, .iconst 1, 1)) dg_cL_law_40 26 rfl
theorem dL_law_2123 : decode cL_law 2123 = .ok (.iadd, 1) := dk_at (r := (2123, .iadd, 1)) dg_cL_law_40 27 rfl
theorem dL_law_2124 : decode cL_law 2124 = .ok (.iaload, 1) := dk_at (r := (2124, .iaload, 1)) dg_cL_law_40 28 rfl
theorem dL_law_2125 : decode cL_law 2125 = .ok (.aload_n 0, 1) := dk_at (r := (2125, .aload_n 0, 1)) dg_cL_law_40 29 rfl
theorem dL_law_2126 : decode cL_law 2126 = .ok (.iload 4, 2) := dk_at (r := (2126, .iload 4, 2)) dg_cL_law_40 30 rfl
theorem dL_law_2128 : decode cL_law 2128 = .ok (.iconst 2, 1) := dk_at (r := (2128, .iconst 2, 1)) dg_cL_law_40 31 rfl
theorem dg_cL_law_41 : dk cL_law [(2129, .iadd, 1), (2130, .iaload, 1), (2131, .aload_n 3, 1), (2132, .invokestatic 320, 3), (2135, .istore 5, 2), (2137, .aload_n 2, 1), (2138, .aload_n 0, 1), (2139, .iload 4, 2), (2141, .iconst 1, 1), (2142, .iadd, 1), (2143, .iaload, 1), (2144, .aload_n 0, 1), (2145, .iload 4, 2), (2147, .iconst 2, 1), (2148, .iadd, 1), (2149, .iaload, 1), (2150, .invokevirtual 322, 3), (2153, .istore 6, 2), (2155, .goto 286, 3), (2158, .aload_n 1, 1), (2159, .aload_n 0, 1), (2160, .iload 4, 2), (2162, .iconst 1, 1), (2163, .iadd, 1), (2164, .iaload, 1), (2165, .aload_n 3, 1), (2166, .invokestatic 323, 3), (2169, .istore 5, 2), (2171, .aload_n 2, 1), (2172, .aload_n 0, 1), (2173, .iload 4, 2), (2175, .iconst 1, 1)] = true := by decide +kernel
theorem dL_law_2129 : decode cL_law 2129 = .ok (.iadd, 1) := dk_at (r := (2129, .iadd, 1)) dg_cL_law_41 0 rfl
theorem dL_law_2130 : decode cL_law 2130 = .ok (.iaload, 1) := dk_at (r := (2130, .iaload, 1)) dg_cL_law_41 1 rfl
theorem dL_law_2131 : decode cL_law 2131 = .ok (.aload_n 3, 1) := dk_at (r := (2131, .aload_n 3, 1)) dg_cL_law_41 2 rfl
theorem dL_law_2132 : decode cL_law 2132 = .ok (.invokestatic 320, 3) := dk_at (r := (2132, .invokestatic 320, 3)) dg_cL_law_41 3 rfl
theorem dL_law_2135 : decode cL_law 2135 = .ok (.istore 5, 2) := dk_at (r := (2135, .istore 5, 2)) dg_cL_law_41 4 rfl
theorem dL_law_2137 : decode cL_law 2137 = .ok (.aload_n 2, 1) := dk_at (r := (2137, .aload_n 2, 1)) dg_cL_law_41 5 rfl
theorem dL_law_2138 : decode cL_law 2138 = .ok (.aload_n 0, 1) := dk_at (r := (2138, .aload_n 0, 1)) dg_cL_law_41 6 rfl
theorem dL_law_2139 : decode cL_law 2139 = .ok (.iload 4, 2) := dk_at (r := (2139, .iload 4, 2)) dg_cL_law_41 7 rfl
theorem dL_law_2141 : decode cL_law 2141 = .ok (.iconst 1, 1) := dk_at (r := (2141, .iconst 1, 1)) dg_cL_law_41 8 rfl
theorem dL_law_2142 : decode cL_law 2142 = .ok (.iadd, 1) := dk_at (r := (2142, .iadd, 1)) dg_cL_law_41 9 rfl
theorem dL_law_2143 : decode cL_law 2143 = .ok (.iaload, 1) := dk_at (r := (2143, .iaload, 1)) dg_cL_law_41 10 rfl
theorem dL_law_2144 : decode cL_law 2144 = .ok (.aload_n 0, 1) := dk_at (r := (2144, .aload_n 0, 1)) dg_cL_law_41 11 rfl
theorem dL_law_2145 : decode cL_law 2145 = .ok (.iload 4, 2) := dk_at (r := (2145, .iload 4, 2)) dg_cL_law_41 12 rfl
theorem dL_law_2147 : decode cL_law 2147 = .ok (.iconst 2, 1) := dk_at (r := (2147, .iconst 2, 1)) dg_cL_law_41 13 rfl
theorem dL_law_2148 : decode cL_law 2148 = .ok (.iadd, 1) := dk_at (r := (2148, .iadd, 1)) dg_cL_law_41 14 rfl
theorem dL_law_2149 : decode cL_law 2149 = .ok (.iaload, 1) := dk_at (r := (2149, .iaload, 1)) dg_cL_law_41 15 rfl
theorem dL_law_2150 : decode cL_law 2150 = .ok (.invokevirtual 322, 3) := dk_at (r := (2150, .invokevirtual 322, 3)) dg_cL_law_41 16 rfl
theorem dL_law_2153 : decode cL_law 2153 = .ok (.istore 6, 2) := dk_at (r := (2153, .istore 6, 2)) dg_cL_law_41 17 rfl
theorem dL_law_2155 : decode cL_law 2155 = .ok (.goto 286, 3) := dk_at (r := (2155, .goto 286, 3)) dg_cL_law_41 18 rfl
theorem dL_law_2158 : decode cL_law 2158 = .ok (.aload_n 1, 1) := dk_at (r := (2158, .aload_n 1, 1)) dg_cL_law_41 19 rfl
theorem dL_law_2159 : decode cL_law 2159 = .ok (.aload_n 0, 1) := dk_at (r := (2159, .aload_n 0, 1)) dg_cL_law_41 20 rfl
theorem dL_law_2160 : decode cL_law 2160 = .ok (.iload 4, 2) := dk_at (r := (2160, .iload 4, 2)) dg_cL_law_41 21 rfl
theorem dL_law_2162 : decode cL_law 2162 = .ok (.iconst 1, 1) := dk_at (r := (2162, .iconst 1, 1)) dg_cL_law_41 22 rfl
theorem dL_law_2163 : decode cL_law 2163 = .ok (.iadd, 1) := dk_at (r := (2163, .iadd, 1)) dg_cL_law_41 23 rfl
theorem dL_law_2164 : decode cL_law 2164 = .ok (.iaload, 1) := dk_at (r := (2164, .iaload, 1)) dg_cL_law_41 24 rfl
theorem dL_law_2165 : decode cL_law 2165 = .ok (.aload_n 3, 1) := dk_at (r := (2165, .aload_n 3, 1)) dg_cL_law_41 25 rfl
theorem dL_law_2166 : decode cL_law 2166 = .ok (.invokestatic 323, 3) := dk_at (r := (2166, .invokestatic 323, 3)) dg_cL_law_41 26 rfl
theorem dL_law_2169 : decode cL_law 2169 = .ok (.istore 5, 2) := dk_at (r := (2169, .istore 5, 2)) dg_cL_law_41 27 rfl
theorem dL_law_2171 : decode cL_law 2171 = .ok (.aload_n 2, 1) := dk_at (r := (2171, .aload_n 2, 1)) dg_cL_law_41 28 rfl
theorem dL_law_2172 : decode cL_law 2172 = .ok (.aload_n 0, 1) := dk_at (r := (2172, .aload_n 0, 1)) dg_cL_law_41 29 rfl
theorem dL_law_2173 : decode cL_law 2173 = .ok (.iload 4, 2) := dk_at (r := (2173, .iload 4, 2)) dg_cL_law_41 30 rfl
theorem dL_law_2175 : decode cL_law 2175 = .ok (.iconst 1, 1) := dk_at (r := (2175, .iconst 1, 1)) dg_cL_law_41 31 rfl
theorem dg_cL_law_42 : dk cL_law [(2176, .iadd, 1), (2177, .iaload, 1), (2178, .invokevirtual 325, 3), (2181, .astore 6, 2), (2183, .goto 258, 3), (2186, .aload_n 1, 1), (2187, .aload_n 0, 1), (2188, .iload 4, 2), (2190, .iconst 1, 1), (2191, .iadd, 1), (2192, .iaload, 1), (2193, .aload_n 0, 1), (2194, .iload 4, 2), (2196, .iconst 2, 1), (2197, .iadd, 1), (2198, .iaload, 1), (2199, .aload_n 0, 1), (2200, .iload 4, 2), (2202, .iconst 3, 1), (2203, .iadd, 1), (2204, .iaload, 1), (2205, .ifCond .eq 7, 3), (2208, .iconst 1, 1), (2209, .goto 4, 3), (2212, .iconst 0, 1), (2213, .aload_n 3, 1), (2214, .invokestatic 326, 3), (2217, .istore 5, 2), (2219, .aload_n 2, 1), (2220, .aload_n 0, 1), (2221, .iload 4, 2), (2223, .iconst 1, 1)] = true := by decide +kernel
theorem dL_law_2176 : decode cL_law 2176 = .ok (.iadd, 1) := dk_at (r := (2176, .iadd, 1)) dg_cL_law_42 0 rfl
theorem dL_law_2177 : decode cL_law 2177 = .ok (.iaload, 1) := dk_at (r := (2177, .iaload, 1)) dg_cL_law_42 1 rfl
theorem dL_law_2178 : decode cL_law 2178 = .ok (.invokevirtual 325, 3) := dk_at (r := (2178, .invokevirtual 325, 3)) dg_cL_law_42 2 rfl
theorem dL_law_2181 : decode cL_law 2181 = .ok (.astore 6, 2) := dk_at (r := (2181, .astore 6, 2)) dg_cL_law_42 3 rfl
theorem dL_law_2183 : decode cL_law 2183 = .ok (.goto 258, 3) := dk_at (r := (2183, .goto 258, 3)) dg_cL_law_42 4 rfl
theorem dL_law_2186 : decode cL_law 2186 = .ok (.aload_n 1, 1) := dk_at (r := (2186, .aload_n 1, 1)) dg_cL_law_42 5 rfl
theorem dL_law_2187 : decode cL_law 2187 = .ok (.aload_n 0, 1) := dk_at (r := (2187, .aload_n 0, 1)) dg_cL_law_42 6 rfl
theorem dL_law_2188 : decode cL_law 2188 = .ok (.iload 4, 2) := dk_at (r := (2188, .iload 4, 2)) dg_cL_law_42 7 rfl
theorem dL_law_2190 : decode cL_law 2190 = .ok (.iconst 1, 1) := dk_at (r := (2190, .iconst 1, 1)) dg_cL_law_42 8 rfl
theorem dL_law_2191 : decode cL_law 2191 = .ok (.iadd, 1) := dk_at (r := (2191, .iadd, 1)) dg_cL_law_42 9 rfl
theorem dL_law_2192 : decode cL_law 2192 = .ok (.iaload, 1) := dk_at (r := (2192, .iaload, 1)) dg_cL_law_42 10 rfl
theorem dL_law_2193 : decode cL_law 2193 = .ok (.aload_n 0, 1) := dk_at (r := (2193, .aload_n 0, 1)) dg_cL_law_42 11 rfl
theorem dL_law_2194 : decode cL_law 2194 = .ok (.iload 4, 2) := dk_at (r := (2194, .iload 4, 2)) dg_cL_law_42 12 rfl
theorem dL_law_2196 : decode cL_law 2196 = .ok (.iconst 2, 1) := dk_at (r := (2196, .iconst 2, 1)) dg_cL_law_42 13 rfl
theorem dL_law_2197 : decode cL_law 2197 = .ok (.iadd, 1) := dk_at (r := (2197, .iadd, 1)) dg_cL_law_42 14 rfl
theorem dL_law_2198 : decode cL_law 2198 = .ok (.iaload, 1) := dk_at (r := (2198, .iaload, 1)) dg_cL_law_42 15 rfl
theorem dL_law_2199 : decode cL_law 2199 = .ok (.aload_n 0, 1) := dk_at (r := (2199, .aload_n 0, 1)) dg_cL_law_42 16 rfl
theorem dL_law_2200 : decode cL_law 2200 = .ok (.iload 4, 2) := dk_at (r := (2200, .iload 4, 2)) dg_cL_law_42 17 rfl
theorem dL_law_2202 : decode cL_law 2202 = .ok (.iconst 3, 1) := dk_at (r := (2202, .iconst 3, 1)) dg_cL_law_42 18 rfl
theorem dL_law_2203 : decode cL_law 2203 = .ok (.iadd, 1) := dk_at (r := (2203, .iadd, 1)) dg_cL_law_42 19 rfl
theorem dL_law_2204 : decode cL_law 2204 = .ok (.iaload, 1) := dk_at (r := (2204, .iaload, 1)) dg_cL_law_42 20 rfl
theorem dL_law_2205 : decode cL_law 2205 = .ok (.ifCond .eq 7, 3) := dk_at (r := (2205, .ifCond .eq 7, 3)) dg_cL_law_42 21 rfl
theorem dL_law_2208 : decode cL_law 2208 = .ok (.iconst 1, 1) := dk_at (r := (2208, .iconst 1, 1)) dg_cL_law_42 22 rfl
theorem dL_law_2209 : decode cL_law 2209 = .ok (.goto 4, 3) := dk_at (r := (2209, .goto 4, 3)) dg_cL_law_42 23 rfl
theorem dL_law_2212 : decode cL_law 2212 = .ok (.iconst 0, 1) := dk_at (r := (2212, .iconst 0, 1)) dg_cL_law_42 24 rfl
theorem dL_law_2213 : decode cL_law 2213 = .ok (.aload_n 3, 1) := dk_at (r := (2213, .aload_n 3, 1)) dg_cL_law_42 25 rfl
theorem dL_law_2214 : decode cL_law 2214 = .ok (.invokestatic 326, 3) := dk_at (r := (2214, .invokestatic 326, 3)) dg_cL_law_42 26 rfl
theorem dL_law_2217 : decode cL_law 2217 = .ok (.istore 5, 2) := dk_at (r := (2217, .istore 5, 2)) dg_cL_law_42 27 rfl
theorem dL_law_2219 : decode cL_law 2219 = .ok (.aload_n 2, 1) := dk_at (r := (2219, .aload_n 2, 1)) dg_cL_law_42 28 rfl
theorem dL_law_2220 : decode cL_law 2220 = .ok (.aload_n 0, 1) := dk_at (r := (2220, .aload_n 0, 1)) dg_cL_law_42 29 rfl
theorem dL_law_2221 : decode cL_law 2221 = .ok (.iload 4, 2) := dk_at (r := (2221, .iload 4, 2)) dg_cL_law_42 30 rfl
theorem dL_law_2223 : decode cL_law 2223 = .ok (.iconst 1, 1) := dk_at (r := (2223, .iconst 1, 1)) dg_cL_law_42 31 rfl
theorem dg_cL_law_43 : dk cL_law [(2224, .iadd, 1), (2225, .iaload, 1), (2226, .aload_n 0, 1), (2227, .iload 4, 2), (2229, .iconst 2, 1), (2230, .iadd, 1), (2231, .iaload, 1), (2232, .aload_n 0, 1), (2233, .iload 4, 2), (2235, .iconst 3, 1), (2236, .iadd, 1), (2237, .iaload, 1), (2238, .ifCond .eq 7, 3), (2241, .iconst 1, 1), (2242, .goto 4, 3), (2245, .iconst 0, 1), (2246, .invokevirtual 328, 3), (2249, .astore 6, 2), (2251, .goto 190, 3), (2254, .aload_n 1, 1), (2255, .aload_n 0, 1), (2256, .iload 4, 2), (2258, .iconst 1, 1), (2259, .iadd, 1), (2260, .iaload, 1), (2261, .aload_n 0, 1), (2262, .iload 4, 2), (2264, .iconst 2, 1), (2265, .iadd, 1), (2266, .iaload, 1), (2267, .aload_n 3, 1), (2268, .invokestatic 329, 3)] = true := by decide +kernel
theorem dL_law_2224 : decode cL_law 2224 = .ok (.iadd, 1) := dk_at (r := (2224, .iadd, 1)) dg_cL_law_43 0 rfl
theorem dL_law_2225 : decode cL_law 2225 = .ok (.iaload, 1) := dk_at (r := (2225, .iaload, 1)) dg_cL_law_43 1 rfl
theorem dL_law_2226 : decode cL_law 2226 = .ok (.aload_n 0, 1) := dk_at (r := (2226, .aload_n 0, 1)) dg_cL_law_43 2 rfl
theorem dL_law_2227 : decode cL_law 2227 = .ok (.iload 4, 2) := dk_at (r := (2227, .iload 4, 2)) dg_cL_law_43 3 rfl
theorem dL_law_2229 : decode cL_law 2229 = .ok (.iconst 2, 1) := dk_at (r := (2229, .iconst 2, 1)) dg_cL_law_43 4 rfl
theorem dL_law_2230 : decode cL_law 2230 = .ok (.iadd, 1) := dk_at (r := (2230, .iadd, 1)) dg_cL_law_43 5 rfl
theorem dL_law_2231 : decode cL_law 2231 = .ok (.iaload, 1) := dk_at (r := (2231, .iaload, 1)) dg_cL_law_43 6 rfl
theorem dL_law_2232 : decode cL_law 2232 = .ok (.aload_n 0, 1) := dk_at (r := (2232, .aload_n 0, 1)) dg_cL_law_43 7 rfl
theorem dL_law_2233 : decode cL_law 2233 = .ok (.iload 4, 2) := dk_at (r := (2233, .iload 4, 2)) dg_cL_law_43 8 rfl
theorem dL_law_2235 : decode cL_law 2235 = .ok (.iconst 3, 1) := dk_at (r := (2235, .iconst 3, 1)) dg_cL_law_43 9 rfl
theorem dL_law_2236 : decode cL_law 2236 = .ok (.iadd, 1) := dk_at (r := (2236, .iadd, 1)) dg_cL_law_43 10 rfl
theorem dL_law_2237 : decode cL_law 2237 = .ok (.iaload, 1) := dk_at (r := (2237, .iaload, 1)) dg_cL_law_43 11 rfl
theorem dL_law_2238 : decode cL_law 2238 = .ok (.ifCond .eq 7, 3) := dk_at (r := (2238, .ifCond .eq 7, 3)) dg_cL_law_43 12 rfl
theorem dL_law_2241 : decode cL_law 2241 = .ok (.iconst 1, 1) := dk_at (r := (2241, .iconst 1, 1)) dg_cL_law_43 13 rfl
theorem dL_law_2242 : decode cL_law 2242 = .ok (.goto 4, 3) := dk_at (r := (2242, .goto 4, 3)) dg_cL_law_43 14 rfl
theorem dL_law_2245 : decode cL_law 2245 = .ok (.iconst 0, 1) := dk_at (r := (2245, .iconst 0, 1)) dg_cL_law_43 15 rfl
theorem dL_law_2246 : decode cL_law 2246 = .ok (.invokevirtual 328, 3) := dk_at (r := (2246, .invokevirtual 328, 3)) dg_cL_law_43 16 rfl
theorem dL_law_2249 : decode cL_law 2249 = .ok (.astore 6, 2) := dk_at (r := (2249, .astore 6, 2)) dg_cL_law_43 17 rfl
theorem dL_law_2251 : decode cL_law 2251 = .ok (.goto 190, 3) := dk_at (r := (2251, .goto 190, 3)) dg_cL_law_43 18 rfl
theorem dL_law_2254 : decode cL_law 2254 = .ok (.aload_n 1, 1) := dk_at (r := (2254, .aload_n 1, 1)) dg_cL_law_43 19 rfl
theorem dL_law_2255 : decode cL_law 2255 = .ok (.aload_n 0, 1) := dk_at (r := (2255, .aload_n 0, 1)) dg_cL_law_43 20 rfl
theorem dL_law_2256 : decode cL_law 2256 = .ok (.iload 4, 2) := dk_at (r := (2256, .iload 4, 2)) dg_cL_law_43 21 rfl
theorem dL_law_2258 : decode cL_law 2258 = .ok (.iconst 1, 1) := dk_at (r := (2258, .iconst 1, 1)) dg_cL_law_43 22 rfl
theorem dL_law_2259 : decode cL_law 2259 = .ok (.iadd, 1) := dk_at (r := (2259, .iadd, 1)) dg_cL_law_43 23 rfl
theorem dL_law_2260 : decode cL_law 2260 = .ok (.iaload, 1) := dk_at (r := (2260, .iaload, 1)) dg_cL_law_43 24 rfl
theorem dL_law_2261 : decode cL_law 2261 = .ok (.aload_n 0, 1) := dk_at (r := (2261, .aload_n 0, 1)) dg_cL_law_43 25 rfl
theorem dL_law_2262 : decode cL_law 2262 = .ok (.iload 4, 2) := dk_at (r := (2262, .iload 4, 2)) dg_cL_law_43 26 rfl
theorem dL_law_2264 : decode cL_law 2264 = .ok (.iconst 2, 1) := dk_at (r := (2264, .iconst 2, 1)) dg_cL_law_43 27 rfl
theorem dL_law_2265 : decode cL_law 2265 = .ok (.iadd, 1) := dk_at (r := (2265, .iadd, 1)) dg_cL_law_43 28 rfl
theorem dL_law_2266 : decode cL_law 2266 = .ok (.iaload, 1) := dk_at (r := (2266, .iaload, 1)) dg_cL_law_43 29 rfl
theorem dL_law_2267 : decode cL_law 2267 = .ok (.aload_n 3, 1) := dk_at (r := (2267, .aload_n 3, 1)) dg_cL_law_43 30 rfl
theorem dL_law_2268 : decode cL_law 2268 = .ok (.invokestatic 329, 3) := dk_at (r := (2268, .invokestatic 329, 3)) dg_cL_law_43 31 rfl
theorem dg_cL_law_44 : dk cL_law [(2271, .istore 5, 2), (2273, .aload_n 2, 1), (2274, .aload_n 0, 1), (2275, .iload 4, 2), (2277, .iconst 1, 1), (2278, .iadd, 1), (2279, .iaload, 1), (2280, .aload_n 0, 1), (2281, .iload 4, 2), (2283, .iconst 2, 1), (2284, .iadd, 1), (2285, .iaload, 1), (2286, .invokevirtual 331, 3), (2289, .astore 6, 2), (2291, .goto 150, 3), (2294, .aload_n 1, 1), (2295, .aload_n 0, 1), (2296, .iload 4, 2), (2298, .iconst 1, 1), (2299, .iadd, 1), (2300, .iaload, 1), (2301, .aload_n 0, 1), (2302, .iload 4, 2), (2304, .iconst 2, 1), (2305, .iadd, 1), (2306, .iaload, 1), (2307, .aload_n 3, 1), (2308, .invokestatic 332, 3), (2311, .istore 5, 2), (2313, .aload_n 2, 1), (2314, .aload_n 0, 1), (2315, .iload 4, 2)] = true := by decide +kernel
theorem dL_law_2271 : decode cL_law 2271 = .ok (.istore 5, 2) := dk_at (r := (2271, .istore 5, 2)) dg_cL_law_44 0 rfl
theorem dL_law_2273 : decode cL_law 2273 = .ok (.aload_n 2, 1) := dk_at (r := (2273, .aload_n 2, 1)) dg_cL_law_44 1 rfl
theorem dL_law_2274 : decode cL_law 2274 = .ok (.aload_n 0, 1) := dk_at (r := (2274, .aload_n 0, 1)) dg_cL_law_44 2 rfl
theorem dL_law_2275 : decode cL_law 2275 = .ok (.iload 4, 2) := dk_at (r := (2275, .iload 4, 2)) dg_cL_law_44 3 rfl
theorem dL_law_2277 : decode cL_law 2277 = .ok (.iconst 1, 1) := dk_at (r := (2277, .iconst 1, 1)) dg_cL_law_44 4 rfl
theorem dL_law_2278 : decode cL_law 2278 = .ok (.iadd, 1) := dk_at (r := (2278, .iadd, 1)) dg_cL_law_44 5 rfl
theorem dL_law_2279 : decode cL_law 2279 = .ok (.iaload, 1) := dk_at (r := (2279, .iaload, 1)) dg_cL_law_44 6 rfl
theorem dL_law_2280 : decode cL_law 2280 = .ok (.aload_n 0, 1) := dk_at (r := (2280, .aload_n 0, 1)) dg_cL_law_44 7 rfl
theorem dL_law_2281 : decode cL_law 2281 = .ok (.iload 4, 2) := dk_at (r := (2281, .iload 4, 2)) dg_cL_law_44 8 rfl
theorem dL_law_2283 : decode cL_law 2283 = .ok (.iconst 2, 1) := dk_at (r := (2283, .iconst 2, 1)) dg_cL_law_44 9 rfl
theorem dL_law_2284 : decode cL_law 2284 = .ok (.iadd, 1) := dk_at (r := (2284, .iadd, 1)) dg_cL_law_44 10 rfl
theorem dL_law_2285 : decode cL_law 2285 = .ok (.iaload, 1) := dk_at (r := (2285, .iaload, 1)) dg_cL_law_44 11 rfl
theorem dL_law_2286 : decode cL_law 2286 = .ok (.invokevirtual 331, 3) := dk_at (r := (2286, .invokevirtual 331, 3)) dg_cL_law_44 12 rfl
theorem dL_law_2289 : decode cL_law 2289 = .ok (.astore 6, 2) := dk_at (r := (2289, .astore 6, 2)) dg_cL_law_44 13 rfl
theorem dL_law_2291 : decode cL_law 2291 = .ok (.goto 150, 3) := dk_at (r := (2291, .goto 150, 3)) dg_cL_law_44 14 rfl
theorem dL_law_2294 : decode cL_law 2294 = .ok (.aload_n 1, 1) := dk_at (r := (2294, .aload_n 1, 1)) dg_cL_law_44 15 rfl
theorem dL_law_2295 : decode cL_law 2295 = .ok (.aload_n 0, 1) := dk_at (r := (2295, .aload_n 0, 1)) dg_cL_law_44 16 rfl
theorem dL_law_2296 : decode cL_law 2296 = .ok (.iload 4, 2) := dk_at (r := (2296, .iload 4, 2)) dg_cL_law_44 17 rfl
theorem dL_law_2298 : decode cL_law 2298 = .ok (.iconst 1, 1) := dk_at (r := (2298, .iconst 1, 1)) dg_cL_law_44 18 rfl
theorem dL_law_2299 : decode cL_law 2299 = .ok (.iadd, 1) := dk_at (r := (2299, .iadd, 1)) dg_cL_law_44 19 rfl
theorem dL_law_2300 : decode cL_law 2300 = .ok (.iaload, 1) := dk_at (r := (2300, .iaload, 1)) dg_cL_law_44 20 rfl
theorem dL_law_2301 : decode cL_law 2301 = .ok (.aload_n 0, 1) := dk_at (r := (2301, .aload_n 0, 1)) dg_cL_law_44 21 rfl
theorem dL_law_2302 : decode cL_law 2302 = .ok (.iload 4, 2) := dk_at (r := (2302, .iload 4, 2)) dg_cL_law_44 22 rfl
theorem dL_law_2304 : decode cL_law 2304 = .ok (.iconst 2, 1) := dk_at (r := (2304, .iconst 2, 1)) dg_cL_law_44 23 rfl
theorem dL_law_2305 : decode cL_law 2305 = .ok (.iadd, 1) := dk_at (r := (2305, .iadd, 1)) dg_cL_law_44 24 rfl
theorem dL_law_2306 : decode cL_law 2306 = .ok (.iaload, 1) := dk_at (r := (2306, .iaload, 1)) dg_cL_law_44 25 rfl
theorem dL_law_2307 : decode cL_law 2307 = .ok (.aload_n 3, 1) := dk_at (r := (2307, .aload_n 3, 1)) dg_cL_law_44 26 rfl
theorem dL_law_2308 : decode cL_law 2308 = .ok (.invokestatic 332, 3) := dk_at (r := (2308, .invokestatic 332, 3)) dg_cL_law_44 27 rfl
theorem dL_law_2311 : decode cL_law 2311 = .ok (.istore 5, 2) := dk_at (r := (2311, .istore 5, 2)) dg_cL_law_44 28 rfl
theorem dL_law_2313 : decode cL_law 2313 = .ok (.aload_n 2, 1) := dk_at (r := (2313, .aload_n 2, 1)) dg_cL_law_44 29 rfl
theorem dL_law_2314 : decode cL_law 2314 = .ok (.aload_n 0, 1) := dk_at (r := (2314, .aload_n 0, 1)) dg_cL_law_44 30 rfl
theorem dL_law_2315 : decode cL_law 2315 = .ok (.iload 4, 2) := dk_at (r := (2315, .iload 4, 2)) dg_cL_law_44 31 rfl
theorem dg_cL_law_45 : dk cL_law [(2317, .iconst 1, 1), (2318, .iadd, 1), (2319, .iaload, 1), (2320, .aload_n 0, 1), (2321, .iload 4, 2), (2323, .iconst 2, 1), (2324, .iadd, 1), (2325, .iaload, 1), (2326, .invokevirtual 334, 3), (2329, .istore 6, 2), (2331, .goto 110, 3), (2334, .aload_n 1, 1), (2335, .aload_n 0, 1), (2336, .iload 4, 2), (2338, .iconst 1, 1), (2339, .iadd, 1), (2340, .iaload, 1), (2341, .aload_n 0, 1), (2342, .iload 4, 2), (2344, .iconst 2, 1), (2345, .iadd, 1), (2346, .iaload, 1), (2347, .aload_n 3, 1), (2348, .invokestatic 335, 3), (2351, .istore 5, 2), (2353, .aload_n 2, 1), (2354, .aload_n 0, 1), (2355, .iload 4, 2), (2357, .iconst 1, 1), (2358, .iadd, 1), (2359, .iaload, 1), (2360, .aload_n 0, 1)] = true := by decide +kernel
theorem dL_law_2317 : decode cL_law 2317 = .ok (.iconst 1, 1) := dk_at (r := (2317, .iconst 1, 1)) dg_cL_law_45 0 rfl
theorem dL_law_2318 : decode cL_law 2318 = .ok (.iadd, 1) := dk_at (r := (2318, .iadd, 1)) dg_cL_law_45 1 rfl
theorem dL_law_2319 : decode cL_law 2319 = .ok (.iaload, 1) := dk_at (r := (2319, .iaload, 1)) dg_cL_law_45 2 rfl
theorem dL_law_2320 : decode cL_law 2320 = .ok (.aload_n 0, 1) := dk_at (r := (2320, .aload_n 0, 1)) dg_cL_law_45 3 rfl
theorem dL_law_2321 : decode cL_law 2321 = .ok (.iload 4, 2) := dk_at (r := (2321, .iload 4, 2)) dg_cL_law_45 4 rfl
theorem dL_law_2323 : decode cL_law 2323 = .ok (.iconst 2, 1) := dk_at (r := (2323, .iconst 2, 1)) dg_cL_law_45 5 rfl
theorem dL_law_2324 : decode cL_law 2324 = .ok (.iadd, 1) := dk_at (r := (2324, .iadd, 1)) dg_cL_law_45 6 rfl
theorem dL_law_2325 : decode cL_law 2325 = .ok (.iaload, 1) := dk_at (r := (2325, .iaload, 1)) dg_cL_law_45 7 rfl
theorem dL_law_2326 : decode cL_law 2326 = .ok (.invokevirtual 334, 3) := dk_at (r := (2326, .invokevirtual 334, 3)) dg_cL_law_45 8 rfl
theorem dL_law_2329 : decode cL_law 2329 = .ok (.istore 6, 2) := dk_at (r := (2329, .istore 6, 2)) dg_cL_law_45 9 rfl
theorem dL_law_2331 : decode cL_law 2331 = .ok (.goto 110, 3) := dk_at (r := (2331, .goto 110, 3)) dg_cL_law_45 10 rfl
theorem dL_law_2334 : decode cL_law 2334 = .ok (.aload_n 1, 1) := dk_at (r := (2334, .aload_n 1, 1)) dg_cL_law_45 11 rfl
theorem dL_law_2335 : decode cL_law 2335 = .ok (.aload_n 0, 1) := dk_at (r := (2335, .aload_n 0, 1)) dg_cL_law_45 12 rfl
theorem dL_law_2336 : decode cL_law 2336 = .ok (.iload 4, 2) := dk_at (r := (2336, .iload 4, 2)) dg_cL_law_45 13 rfl
theorem dL_law_2338 : decode cL_law 2338 = .ok (.iconst 1, 1) := dk_at (r := (2338, .iconst 1, 1)) dg_cL_law_45 14 rfl
theorem dL_law_2339 : decode cL_law 2339 = .ok (.iadd, 1) := dk_at (r := (2339, .iadd, 1)) dg_cL_law_45 15 rfl
theorem dL_law_2340 : decode cL_law 2340 = .ok (.iaload, 1) := dk_at (r := (2340, .iaload, 1)) dg_cL_law_45 16 rfl
theorem dL_law_2341 : decode cL_law 2341 = .ok (.aload_n 0, 1) := dk_at (r := (2341, .aload_n 0, 1)) dg_cL_law_45 17 rfl
theorem dL_law_2342 : decode cL_law 2342 = .ok (.iload 4, 2) := dk_at (r := (2342, .iload 4, 2)) dg_cL_law_45 18 rfl
theorem dL_law_2344 : decode cL_law 2344 = .ok (.iconst 2, 1) := dk_at (r := (2344, .iconst 2, 1)) dg_cL_law_45 19 rfl
theorem dL_law_2345 : decode cL_law 2345 = .ok (.iadd, 1) := dk_at (r := (2345, .iadd, 1)) dg_cL_law_45 20 rfl
theorem dL_law_2346 : decode cL_law 2346 = .ok (.iaload, 1) := dk_at (r := (2346, .iaload, 1)) dg_cL_law_45 21 rfl
theorem dL_law_2347 : decode cL_law 2347 = .ok (.aload_n 3, 1) := dk_at (r := (2347, .aload_n 3, 1)) dg_cL_law_45 22 rfl
theorem dL_law_2348 : decode cL_law 2348 = .ok (.invokestatic 335, 3) := dk_at (r := (2348, .invokestatic 335, 3)) dg_cL_law_45 23 rfl
theorem dL_law_2351 : decode cL_law 2351 = .ok (.istore 5, 2) := dk_at (r := (2351, .istore 5, 2)) dg_cL_law_45 24 rfl
theorem dL_law_2353 : decode cL_law 2353 = .ok (.aload_n 2, 1) := dk_at (r := (2353, .aload_n 2, 1)) dg_cL_law_45 25 rfl
theorem dL_law_2354 : decode cL_law 2354 = .ok (.aload_n 0, 1) := dk_at (r := (2354, .aload_n 0, 1)) dg_cL_law_45 26 rfl
theorem dL_law_2355 : decode cL_law 2355 = .ok (.iload 4, 2) := dk_at (r := (2355, .iload 4, 2)) dg_cL_law_45 27 rfl
theorem dL_law_2357 : decode cL_law 2357 = .ok (.iconst 1, 1) := dk_at (r := (2357, .iconst 1, 1)) dg_cL_law_45 28 rfl
theorem dL_law_2358 : decode cL_law 2358 = .ok (.iadd, 1) := dk_at (r := (2358, .iadd, 1)) dg_cL_law_45 29 rfl
theorem dL_law_2359 : decode cL_law 2359 = .ok (.iaload, 1) := dk_at (r := (2359, .iaload, 1)) dg_cL_law_45 30 rfl
theorem dL_law_2360 : decode cL_law 2360 = .ok (.aload_n 0, 1) := dk_at (r := (2360, .aload_n 0, 1)) dg_cL_law_45 31 rfl
theorem dg_cL_law_46 : dk cL_law [(2361, .iload 4, 2), (2363, .iconst 2, 1), (2364, .iadd, 1), (2365, .iaload, 1), (2366, .invokevirtual 337, 3), (2369, .istore 6, 2), (2371, .goto 70, 3), (2374, .aload_n 1, 1), (2375, .invokevirtual 338, 3), (2378, .pop, 1), (2379, .aload_n 2, 1), (2380, .invokevirtual 341, 3), (2383, .pop, 1), (2384, .goto 57, 3), (2387, .aload_n 1, 1), (2388, .aload_n 0, 1), (2389, .iload 4, 2), (2391, .iconst 1, 1), (2392, .iadd, 1), (2393, .iaload, 1), (2394, .aload_n 3, 1), (2395, .invokestatic 342, 3), (2398, .istore 5, 2), (2400, .aload_n 2, 1), (2401, .aload_n 0, 1), (2402, .iload 4, 2), (2404, .iconst 1, 1), (2405, .iadd, 1), (2406, .iaload, 1), (2407, .invokevirtual 344, 3), (2410, .istore 6, 2), (2412, .goto 29, 3)] = true := by decide +kernel
theorem dL_law_2361 : decode cL_law 2361 = .ok (.iload 4, 2) := dk_at (r := (2361, .iload 4, 2)) dg_cL_law_46 0 rfl
theorem dL_law_2363 : decode cL_law 2363 = .ok (.iconst 2, 1) := dk_at (r := (2363, .iconst 2, 1)) dg_cL_law_46 1 rfl
theorem dL_law_2364 : decode cL_law 2364 = .ok (.iadd, 1) := dk_at (r := (2364, .iadd, 1)) dg_cL_law_46 2 rfl
theorem dL_law_2365 : decode cL_law 2365 = .ok (.iaload, 1) := dk_at (r := (2365, .iaload, 1)) dg_cL_law_46 3 rfl
theorem dL_law_2366 : decode cL_law 2366 = .ok (.invokevirtual 337, 3) := dk_at (r := (2366, .invokevirtual 337, 3)) dg_cL_law_46 4 rfl
theorem dL_law_2369 : decode cL_law 2369 = .ok (.istore 6, 2) := dk_at (r := (2369, .istore 6, 2)) dg_cL_law_46 5 rfl
theorem dL_law_2371 : decode cL_law 2371 = .ok (.goto 70, 3) := dk_at (r := (2371, .goto 70, 3)) dg_cL_law_46 6 rfl
theorem dL_law_2374 : decode cL_law 2374 = .ok (.aload_n 1, 1) := dk_at (r := (2374, .aload_n 1, 1)) dg_cL_law_46 7 rfl
theorem dL_law_2375 : decode cL_law 2375 = .ok (.invokevirtual 338, 3) := dk_at (r := (2375, .invokevirtual 338, 3)) dg_cL_law_46 8 rfl
theorem dL_law_2378 : decode cL_law 2378 = .ok (.pop, 1) := dk_at (r := (2378, .pop, 1)) dg_cL_law_46 9 rfl
theorem dL_law_2379 : decode cL_law 2379 = .ok (.aload_n 2, 1) := dk_at (r := (2379, .aload_n 2, 1)) dg_cL_law_46 10 rfl
theorem dL_law_2380 : decode cL_law 2380 = .ok (.invokevirtual 341, 3) := dk_at (r := (2380, .invokevirtual 341, 3)) dg_cL_law_46 11 rfl
theorem dL_law_2383 : decode cL_law 2383 = .ok (.pop, 1) := dk_at (r := (2383, .pop, 1)) dg_cL_law_46 12 rfl
theorem dL_law_2384 : decode cL_law 2384 = .ok (.goto 57, 3) := dk_at (r := (2384, .goto 57, 3)) dg_cL_law_46 13 rfl
theorem dL_law_2387 : decode cL_law 2387 = .ok (.aload_n 1, 1) := dk_at (r := (2387, .aload_n 1, 1)) dg_cL_law_46 14 rfl
theorem dL_law_2388 : decode cL_law 2388 = .ok (.aload_n 0, 1) := dk_at (r := (2388, .aload_n 0, 1)) dg_cL_law_46 15 rfl
theorem dL_law_2389 : decode cL_law 2389 = .ok (.iload 4, 2) := dk_at (r := (2389, .iload 4, 2)) dg_cL_law_46 16 rfl
theorem dL_law_2391 : decode cL_law 2391 = .ok (.iconst 1, 1) := dk_at (r := (2391, .iconst 1, 1)) dg_cL_law_46 17 rfl
theorem dL_law_2392 : decode cL_law 2392 = .ok (.iadd, 1) := dk_at (r := (2392, .iadd, 1)) dg_cL_law_46 18 rfl
theorem dL_law_2393 : decode cL_law 2393 = .ok (.iaload, 1) := dk_at (r := (2393, .iaload, 1)) dg_cL_law_46 19 rfl
theorem dL_law_2394 : decode cL_law 2394 = .ok (.aload_n 3, 1) := dk_at (r := (2394, .aload_n 3, 1)) dg_cL_law_46 20 rfl
theorem dL_law_2395 : decode cL_law 2395 = .ok (.invokestatic 342, 3) := dk_at (r := (2395, .invokestatic 342, 3)) dg_cL_law_46 21 rfl
theorem dL_law_2398 : decode cL_law 2398 = .ok (.istore 5, 2) := dk_at (r := (2398, .istore 5, 2)) dg_cL_law_46 22 rfl
theorem dL_law_2400 : decode cL_law 2400 = .ok (.aload_n 2, 1) := dk_at (r := (2400, .aload_n 2, 1)) dg_cL_law_46 23 rfl
theorem dL_law_2401 : decode cL_law 2401 = .ok (.aload_n 0, 1) := dk_at (r := (2401, .aload_n 0, 1)) dg_cL_law_46 24 rfl
theorem dL_law_2402 : decode cL_law 2402 = .ok (.iload 4, 2) := dk_at (r := (2402, .iload 4, 2)) dg_cL_law_46 25 rfl
theorem dL_law_2404 : decode cL_law 2404 = .ok (.iconst 1, 1) := dk_at (r := (2404, .iconst 1, 1)) dg_cL_law_46 26 rfl
theorem dL_law_2405 : decode cL_law 2405 = .ok (.iadd, 1) := dk_at (r := (2405, .iadd, 1)) dg_cL_law_46 27 rfl
theorem dL_law_2406 : decode cL_law 2406 = .ok (.iaload, 1) := dk_at (r := (2406, .iaload, 1)) dg_cL_law_46 28 rfl
theorem dL_law_2407 : decode cL_law 2407 = .ok (.invokevirtual 344, 3) := dk_at (r := (2407, .invokevirtual 344, 3)) dg_cL_law_46 29 rfl
theorem dL_law_2410 : decode cL_law 2410 = .ok (.istore 6, 2) := dk_at (r := (2410, .istore 6, 2)) dg_cL_law_46 30 rfl
theorem dL_law_2412 : decode cL_law 2412 = .ok (.goto 29, 3) := dk_at (r := (2412, .goto 29, 3)) dg_cL_law_46 31 rfl
theorem dg_cL_law_47 : dk cL_law [(2415, .aload_n 1, 1), (2416, .invokevirtual 345, 3), (2419, .pop, 1), (2420, .aload_n 2, 1), (2421, .invokevirtual 349, 3), (2424, .pop, 1), (2425, .goto 16, 3), (2428, .aload_n 1, 1), (2429, .invokevirtual 350, 3), (2432, .pop2, 1), (2433, .aload_n 2, 1), (2434, .invokevirtual 354, 3), (2437, .pop2, 1), (2438, .goto 3, 3), (2441, .iinc 4 5, 3), (2444, .goto (-2417), 3), (2447, .iconst 1, 1), (2448, .ireturn, 1)] = true := by decide +kernel
theorem dL_law_2415 : decode cL_law 2415 = .ok (.aload_n 1, 1) := dk_at (r := (2415, .aload_n 1, 1)) dg_cL_law_47 0 rfl
theorem dL_law_2416 : decode cL_law 2416 = .ok (.invokevirtual 345, 3) := dk_at (r := (2416, .invokevirtual 345, 3)) dg_cL_law_47 1 rfl
theorem dL_law_2419 : decode cL_law 2419 = .ok (.pop, 1) := dk_at (r := (2419, .pop, 1)) dg_cL_law_47 2 rfl
theorem dL_law_2420 : decode cL_law 2420 = .ok (.aload_n 2, 1) := dk_at (r := (2420, .aload_n 2, 1)) dg_cL_law_47 3 rfl
theorem dL_law_2421 : decode cL_law 2421 = .ok (.invokevirtual 349, 3) := dk_at (r := (2421, .invokevirtual 349, 3)) dg_cL_law_47 4 rfl
theorem dL_law_2424 : decode cL_law 2424 = .ok (.pop, 1) := dk_at (r := (2424, .pop, 1)) dg_cL_law_47 5 rfl
theorem dL_law_2425 : decode cL_law 2425 = .ok (.goto 16, 3) := dk_at (r := (2425, .goto 16, 3)) dg_cL_law_47 6 rfl
theorem dL_law_2428 : decode cL_law 2428 = .ok (.aload_n 1, 1) := dk_at (r := (2428, .aload_n 1, 1)) dg_cL_law_47 7 rfl
theorem dL_law_2429 : decode cL_law 2429 = .ok (.invokevirtual 350, 3) := dk_at (r := (2429, .invokevirtual 350, 3)) dg_cL_law_47 8 rfl
theorem dL_law_2432 : decode cL_law 2432 = .ok (.pop2, 1) := dk_at (r := (2432, .pop2, 1)) dg_cL_law_47 9 rfl
theorem dL_law_2433 : decode cL_law 2433 = .ok (.aload_n 2, 1) := dk_at (r := (2433, .aload_n 2, 1)) dg_cL_law_47 10 rfl
theorem dL_law_2434 : decode cL_law 2434 = .ok (.invokevirtual 354, 3) := dk_at (r := (2434, .invokevirtual 354, 3)) dg_cL_law_47 11 rfl
theorem dL_law_2437 : decode cL_law 2437 = .ok (.pop2, 1) := dk_at (r := (2437, .pop2, 1)) dg_cL_law_47 12 rfl
theorem dL_law_2438 : decode cL_law 2438 = .ok (.goto 3, 3) := dk_at (r := (2438, .goto 3, 3)) dg_cL_law_47 13 rfl
theorem dL_law_2441 : decode cL_law 2441 = .ok (.iinc 4 5, 3) := dk_at (r := (2441, .iinc 4 5, 3)) dg_cL_law_47 14 rfl
theorem dL_law_2444 : decode cL_law 2444 = .ok (.goto (-2417), 3) := dk_at (r := (2444, .goto (-2417), 3)) dg_cL_law_47 15 rfl
theorem dL_law_2447 : decode cL_law 2447 = .ok (.iconst 1, 1) := dk_at (r := (2447, .iconst 1, 1)) dg_cL_law_47 16 rfl
theorem dL_law_2448 : decode cL_law 2448 = .ok (.ireturn, 1) := dk_at (r := (2448, .ireturn, 1)) dg_cL_law_47 17 rfl
