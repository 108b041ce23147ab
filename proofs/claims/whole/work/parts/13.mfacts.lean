theorem g_out0_12 {x : Int} (h0 : ¬ x = 0) (h1 : ¬ x = 1) (h2 : ¬ x = 2) (h3 : ¬ x = 3) (h4 : ¬ x = 4) (h5 : ¬ x = 5) (h6 : ¬ x = 6) (h7 : ¬ x = 7) (h8 : ¬ x = 8) (h9 : ¬ x = 9) (h10 : ¬ x = 10) (h11 : ¬ x = 11) (h12 : ¬ x = 12) : x < 0 ∨ 12 < x := by omega
theorem g_out0_2 {x : Int} (h0 : ¬ x = 0) (h1 : ¬ x = 1) (h2 : ¬ x = 2) : x < 0 ∨ 2 < x := by omega
theorem g_out0_4 {x : Int} (h0 : ¬ x = 0) (h1 : ¬ x = 1) (h2 : ¬ x = 2) (h3 : ¬ x = 3) (h4 : ¬ x = 4) : x < 0 ∨ 4 < x := by omega
theorem g_out20_26 {x : Int} (h0 : ¬ x = 20) (h1 : ¬ x = 21) (h2 : ¬ x = 22) (h3 : ¬ x = 23) (h4 : ¬ x = 24) (h5 : ¬ x = 25) (h6 : ¬ x = 26) : x < 20 ∨ 26 < x := by omega
theorem kb_10 : (Int8.ofInt (10)).toInt32 = (10 : Int32) := by decide
theorem kb_12 : (Int8.ofInt (12)).toInt32 = (12 : Int32) := by decide
theorem kb_122 : (Int8.ofInt (122)).toInt32 = (122 : Int32) := by decide
theorem kb_13 : (Int8.ofInt (13)).toInt32 = (13 : Int32) := by decide
theorem kb_15 : (Int8.ofInt (15)).toInt32 = (15 : Int32) := by decide
theorem kb_16 : (Int8.ofInt (16)).toInt32 = (16 : Int32) := by decide
theorem kb_17 : (Int8.ofInt (17)).toInt32 = (17 : Int32) := by decide
theorem kb_18 : (Int8.ofInt (18)).toInt32 = (18 : Int32) := by decide
theorem kb_19 : (Int8.ofInt (19)).toInt32 = (19 : Int32) := by decide
theorem kb_20 : (Int8.ofInt (20)).toInt32 = (20 : Int32) := by decide
theorem kb_21 : (Int8.ofInt (21)).toInt32 = (21 : Int32) := by decide
theorem kb_22 : (Int8.ofInt (22)).toInt32 = (22 : Int32) := by decide
theorem kb_23 : (Int8.ofInt (23)).toInt32 = (23 : Int32) := by decide
theorem kb_24 : (Int8.ofInt (24)).toInt32 = (24 : Int32) := by decide
theorem kb_25 : (Int8.ofInt (25)).toInt32 = (25 : Int32) := by decide
theorem kb_26 : (Int8.ofInt (26)).toInt32 = (26 : Int32) := by decide
theorem kb_27 : (Int8.ofInt (27)).toInt32 = (27 : Int32) := by decide
theorem kb_28 : (Int8.ofInt (28)).toInt32 = (28 : Int32) := by decide
theorem kb_29 : (Int8.ofInt (29)).toInt32 = (29 : Int32) := by decide
theorem kb_30 : (Int8.ofInt (30)).toInt32 = (30 : Int32) := by decide
theorem kb_31 : (Int8.ofInt (31)).toInt32 = (31 : Int32) := by decide
theorem kb_32 : (Int8.ofInt (32)).toInt32 = (32 : Int32) := by decide
theorem kb_36 : (Int8.ofInt (36)).toInt32 = (36 : Int32) := by decide
theorem kb_37 : (Int8.ofInt (37)).toInt32 = (37 : Int32) := by decide
theorem kb_40 : (Int8.ofInt (40)).toInt32 = (40 : Int32) := by decide
theorem kb_41 : (Int8.ofInt (41)).toInt32 = (41 : Int32) := by decide
theorem kb_42 : (Int8.ofInt (42)).toInt32 = (42 : Int32) := by decide
theorem kb_43 : (Int8.ofInt (43)).toInt32 = (43 : Int32) := by decide
theorem kb_45 : (Int8.ofInt (45)).toInt32 = (45 : Int32) := by decide
theorem kb_46 : (Int8.ofInt (46)).toInt32 = (46 : Int32) := by decide
theorem kb_47 : (Int8.ofInt (47)).toInt32 = (47 : Int32) := by decide
theorem kb_48 : (Int8.ofInt (48)).toInt32 = (48 : Int32) := by decide
theorem kb_50 : (Int8.ofInt (50)).toInt32 = (50 : Int32) := by decide
theorem kb_56 : (Int8.ofInt (56)).toInt32 = (56 : Int32) := by decide
theorem kb_57 : (Int8.ofInt (57)).toInt32 = (57 : Int32) := by decide
theorem kb_59 : (Int8.ofInt (59)).toInt32 = (59 : Int32) := by decide
theorem kb_6 : (Int8.ofInt (6)).toInt32 = (6 : Int32) := by decide
theorem kb_60 : (Int8.ofInt (60)).toInt32 = (60 : Int32) := by decide
theorem kb_61 : (Int8.ofInt (61)).toInt32 = (61 : Int32) := by decide
theorem kb_62 : (Int8.ofInt (62)).toInt32 = (62 : Int32) := by decide
theorem kb_64 : (Int8.ofInt (64)).toInt32 = (64 : Int32) := by decide
theorem kb_66 : (Int8.ofInt (66)).toInt32 = (66 : Int32) := by decide
theorem kb_7 : (Int8.ofInt (7)).toInt32 = (7 : Int32) := by decide
theorem kb_70 : (Int8.ofInt (70)).toInt32 = (70 : Int32) := by decide
theorem kb_76 : (Int8.ofInt (76)).toInt32 = (76 : Int32) := by decide
theorem kb_8 : (Int8.ofInt (8)).toInt32 = (8 : Int32) := by decide
theorem kb_9 : (Int8.ofInt (9)).toInt32 = (9 : Int32) := by decide
theorem kb_91 : (Int8.ofInt (91)).toInt32 = (91 : Int32) := by decide
theorem kb_93 : (Int8.ofInt (93)).toInt32 = (93 : Int32) := by decide
theorem kb_97 : (Int8.ofInt (97)).toInt32 = (97 : Int32) := by decide
theorem kb_98 : (Int8.ofInt (98)).toInt32 = (98 : Int32) := by decide
theorem kb_99 : (Int8.ofInt (99)).toInt32 = (99 : Int32) := by decide
theorem kb_m2 : (Int8.ofInt (-2)).toInt32 = (-2 : Int32) := by decide
theorem kb_m3 : (Int8.ofInt (-3)).toInt32 = (-3 : Int32) := by decide
theorem kb_m5 : (Int8.ofInt (-5)).toInt32 = (-5 : Int32) := by decide
theorem kb_m6 : (Int8.ofInt (-6)).toInt32 = (-6 : Int32) := by decide
theorem kc_0 : Int32.ofInt (0) = (0 : Int32) := by decide
theorem kc_1 : Int32.ofInt (1) = (1 : Int32) := by decide
theorem kc_2 : Int32.ofInt (2) = (2 : Int32) := by decide
theorem kc_3 : Int32.ofInt (3) = (3 : Int32) := by decide
theorem kc_4 : Int32.ofInt (4) = (4 : Int32) := by decide
theorem kc_5 : Int32.ofInt (5) = (5 : Int32) := by decide
theorem kc_m1 : Int32.ofInt (-1) = (-1 : Int32) := by decide
theorem kc_m8 : Int32.ofInt (-8) = (-8 : Int32) := by decide
theorem kl_0 : Int64.ofNat ((0 : Fin 2) : Nat) = (0 : Int64) := by decide
theorem kl_1 : Int64.ofNat ((1 : Fin 2) : Nat) = (1 : Int64) := by decide
theorem ks_255 : (Int16.ofInt (255)).toInt32 = (255 : Int32) := by decide
theorem ks_256 : (Int16.ofInt (256)).toInt32 = (256 : Int32) := by decide
theorem ks_315 : (Int16.ofInt (315)).toInt32 = (315 : Int32) := by decide
theorem ks_336 : (Int16.ofInt (336)).toInt32 = (336 : Int32) := by decide
theorem ks_400 : (Int16.ofInt (400)).toInt32 = (400 : Int32) := by decide
theorem ks_5476 : (Int16.ofInt (5476)).toInt32 = (5476 : Int32) := by decide
theorem ks_900 : (Int16.ofInt (900)).toInt32 = (900 : Int32) := by decide
theorem ks_999 : (Int16.ofInt (999)).toInt32 = (999 : Int32) := by decide
theorem kt_0 : (0 : Int32).toNatClampNeg = 0 := by decide
theorem kt_1 : (1 : Int32).toNatClampNeg = 1 := by decide
theorem kt_2 : (2 : Int32).toNatClampNeg = 2 := by decide
theorem kt_26 : (26 : Int32).toNatClampNeg = 26 := by decide
theorem kt_3 : (3 : Int32).toNatClampNeg = 3 := by decide
theorem kt_4 : (4 : Int32).toNatClampNeg = 4 := by decide
theorem kt_5 : (5 : Int32).toNatClampNeg = 5 := by decide
theorem kt_6 : (6 : Int32).toNatClampNeg = 6 := by decide
theorem kt_7 : (7 : Int32).toNatClampNeg = 7 := by decide
theorem kt_8 : (8 : Int32).toNatClampNeg = 8 := by decide
theorem kt_9 : (9 : Int32).toNatClampNeg = 9 := by decide
theorem kx_0_11 : inb (0 : Int32) 11 = true := by decide
theorem kx_0_400 : inb (0 : Int32) 400 = true := by decide
theorem kx_0_5476 : inb (0 : Int32) 5476 = true := by decide
theorem kx_1_13 : inb (1 : Int32) 13 = true := by decide
theorem kx_1_5476 : inb (1 : Int32) 5476 = true := by decide
theorem kx_1_7 : inb (1 : Int32) 7 = true := by decide
theorem kx_26_5476 : inb (26 : Int32) 5476 = true := by decide
theorem kx_2_13 : inb (2 : Int32) 13 = true := by decide
theorem kx_2_5476 : inb (2 : Int32) 5476 = true := by decide
theorem kx_2_7 : inb (2 : Int32) 7 = true := by decide
theorem kx_3_13 : inb (3 : Int32) 13 = true := by decide
theorem kx_3_5476 : inb (3 : Int32) 5476 = true := by decide
theorem kx_3_7 : inb (3 : Int32) 7 = true := by decide
theorem kx_4_13 : inb (4 : Int32) 13 = true := by decide
theorem kx_4_5476 : inb (4 : Int32) 5476 = true := by decide
theorem kx_5_13 : inb (5 : Int32) 13 = true := by decide
theorem kx_5_5476 : inb (5 : Int32) 5476 = true := by decide
theorem kx_5_7 : inb (5 : Int32) 7 = true := by decide
theorem kx_6_13 : inb (6 : Int32) 13 = true := by decide
theorem kx_6_5476 : inb (6 : Int32) 5476 = true := by decide
theorem kx_6_7 : inb (6 : Int32) 7 = true := by decide
theorem kx_7_13 : inb (7 : Int32) 13 = true := by decide
theorem kx_7_5476 : inb (7 : Int32) 5476 = true := by decide
theorem kx_8_13 : inb (8 : Int32) 13 = true := by decide
theorem kx_9_13 : inb (9 : Int32) 13 = true := by decide
theorem kV_168 : cVf "LostLanesModel" 168 yX11_tell cX11_tell 2 (some .int) "LostLanesModel" 1 := ⟨wd6_89, wd6_86, wd6_88, wp2_6, wd1_10, by decide +kernel⟩
theorem kV_172 : cVf "LostLanesModel" 172 yX11_keepAll cX11_keepAll 3 none "LostLanesModel" 1 := ⟨wd7_129, wd7_126, wd7_128, wp5_2, wd1_10, by decide +kernel⟩
theorem kV_176 : cVf "LostLanesModel" 176 yX11_putBack cX11_putBack 3 none "LostLanesModel" 1 := ⟨wd6_93, wd6_90, wd6_92, wp2_7, wd1_10, by decide +kernel⟩
theorem kS_179 : cSf "LostLanesModel" 179 yX11_in cX11_in 6 (some .boolean) 3 := ⟨wd6_100, wd6_98, wd6_99, wd1_10, by decide +kernel⟩
theorem kV_183 : cVf "LostLanesModel" 183 yX11_lasting cX11_lasting 2 (some .int) "LostLanesModel" 1 := ⟨wd6_108, wd6_105, wd6_107, wp2_8, wd1_10, by decide +kernel⟩
theorem kS_188 : cSf "LostLanesModel" 188 yX11_isCorner cX11_isCorner 1 (some .boolean) 1 := ⟨wd6_119, wd6_117, wd6_118, wd1_10, by decide +kernel⟩
theorem kV_196 : cVf "LostLanesModel" 196 yX11_come cX11_come 6 (some .int) "LostLanesModel" 4 := ⟨wd6_116, wd6_113, wd6_115, wp2_9, wd1_10, by decide +kernel⟩
theorem kV_200 : cVf "LostLanesModel" 200 yX11_isLane cX11_isLane 2 (some .boolean) "LostLanesModel" 1 := ⟨wd6_130, wd6_127, wd6_129, wp2_10, wd1_10, by decide +kernel⟩
theorem kV_203 : cVf "LostLanesModel" 203 yX11_isChild cX11_isChild 2 (some .boolean) "LostLanesModel" 1 := ⟨wd6_142, wd6_139, wd6_141, wp2_11, wd1_10, by decide +kernel⟩
theorem kV_206 : cVf "LostLanesModel" 206 yX11_turnsTo cX11_turnsTo 2 (some .int) "LostLanesModel" 1 := ⟨wd6_146, wd6_143, wd6_145, wp2_12, wd1_10, by decide +kernel⟩
theorem kV_209 : cVf "LostLanesModel" 209 yX11_laneOf cX11_laneOf 6 (some .int) "LostLanesModel" 1 := ⟨wd6_172, wd6_169, wd6_171, wp3_1, wd1_10, by decide +kernel⟩
theorem kV_212 : cVf "LostLanesModel" 212 yX11_saysOf cX11_saysOf 3 (some .int) "LostLanesModel" 2 := ⟨wd6_192, wd6_189, wd6_191, wp3_5, wd1_10, by decide +kernel⟩
theorem kV_216 : cVf "LostLanesModel" 216 yX11_isBarred cX11_isBarred 3 (some .boolean) "LostLanesModel" 2 := ⟨wd6_184, wd6_181, wd6_183, wp3_4, wd1_10, by decide +kernel⟩
theorem kV_224 : cVf "LostLanesModel" 224 yX11_change cX11_change 4 (some .int) "LostLanesModel" 2 := ⟨wd6_202, wd6_199, wd6_201, wp3_6, wd1_10, by decide +kernel⟩
theorem kV_233 : cVf "LostLanesModel" 233 yX11_four cX11_four 3 none "LostLanesModel" 1 := ⟨wd6_218, wd6_215, wd6_217, wp3_7, wd1_10, by decide +kernel⟩
theorem kV_243 : cVf "LostLanesModel" 243 yX11_next cX11_next 1 none "LostLanesModel" 0 := ⟨wd7_2, wd6_239, wd7_1, wp3_10, wd1_10, by decide +kernel⟩
theorem kS_253 : cSf "LostLanesModel" 253 yX11_isSmall cX11_isSmall 1 (some .boolean) 1 := ⟨wd7_5, wd7_3, wd7_4, wd1_10, by decide +kernel⟩
theorem kS_256 : cSf "LostLanesModel" 256 yX11_isDigit cX11_isDigit 1 (some .boolean) 1 := ⟨wd7_8, wd7_6, wd7_7, wd1_10, by decide +kernel⟩
theorem kV_272 : cVf "LostLanesModel" 272 yX11_must cX11_must 2 none "LostLanesModel" 1 := ⟨wd7_24, wd7_21, wd7_23, wp3_13, wd1_10, by decide +kernel⟩
theorem kS_282 : cSf "LostLanesModel" 282 yX11_binds cX11_binds 1 (some .int) 1 := ⟨wd7_78, wd7_76, wd7_77, wd1_10, by decide +kernel⟩
theorem kV_285 : cVf "LostLanesModel" 285 yX11_emit cX11_emit 3 none "LostLanesModel" 2 := ⟨wd7_66, wd7_63, wd7_65, wp4_7, wd1_10, by decide +kernel⟩
theorem kV_297 : cVf "LostLanesModel" 297 yX11_isWord cX11_isWord 3 (some .boolean) "LostLanesModel" 1 := ⟨wd7_20, wd7_17, wd7_19, wp3_12, wd1_10, by decide +kernel⟩
theorem kV_304 : cVf "LostLanesModel" 304 yX11_push cX11_push 3 none "LostLanesModel" 2 := ⟨wd7_37, wd7_34, wd7_36, wp4_0, wd1_10, by decide +kernel⟩
theorem kV_310 : cVf "LostLanesModel" 310 yX11_isSign cX11_isSign 2 (some .boolean) "LostLanesModel" 1 := ⟨wd7_41, wd7_38, wd7_40, wp4_1, wd1_10, by decide +kernel⟩
theorem kV_313 : cVf "LostLanesModel" 313 yX11_openBracket cX11_openBracket 2 none "LostLanesModel" 1 := ⟨wd7_45, wd7_42, wd7_44, wp4_2, wd1_10, by decide +kernel⟩
theorem kV_319 : cVf "LostLanesModel" 319 yX11_orderPartAt cX11_orderPartAt 3 (some .int) "LostLanesModel" 0 := ⟨wd7_53, wd7_50, wd7_52, wp4_4, wd1_10, by decide +kernel⟩
theorem kV_323 : cVf "LostLanesModel" 323 yX11_partAt cX11_partAt 3 (some .int) "LostLanesModel" 0 := ⟨wd7_57, wd7_54, wd7_56, wp4_5, wd1_10, by decide +kernel⟩
theorem kV_328 : cVf "LostLanesModel" 328 yX11_leaf cX11_leaf 4 none "LostLanesModel" 3 := ⟨wd7_62, wd7_59, wd7_61, wp4_6, wd1_10, by decide +kernel⟩
theorem kV_334 : cVf "LostLanesModel" 334 yX11_number cX11_number 6 (some .int) "LostLanesModel" 2 := ⟨wd7_71, wd7_68, wd7_70, wp4_8, wd1_10, by decide +kernel⟩
theorem kV_340 : cVf "LostLanesModel" 340 yX11_readPart cX11_readPart 4 (some .int) "LostLanesModel" 0 := ⟨wd7_49, wd7_46, wd7_48, wp4_3, wd1_10, by decide +kernel⟩
theorem kV_343 : cVf "LostLanesModel" 343 yX11_settle cX11_settle 2 none "LostLanesModel" 1 := ⟨wd7_82, wd7_79, wd7_81, wp4_10, wd1_10, by decide +kernel⟩
theorem kV_346 : cVf "LostLanesModel" 346 yX11_inner cX11_inner 3 (some .int) "LostLanesModel" 0 := ⟨wd7_86, wd7_83, wd7_85, wp4_11, wd1_10, by decide +kernel⟩
theorem kV_349 : cVf "LostLanesModel" 349 yX11_isCompared cX11_isCompared 2 (some .boolean) "LostLanesModel" 0 := ⟨wd7_90, wd7_87, wd7_89, wp4_12, wd1_10, by decide +kernel⟩
theorem kV_357 : cVf "LostLanesModel" 357 yX11_readPlain cX11_readPlain 1 (some .int) "LostLanesModel" 0 := ⟨wd7_32, wd7_29, wd7_31, wp3_15, wd1_10, by decide +kernel⟩
theorem kV_360 : cVf "LostLanesModel" 360 yX11_behindSum cX11_behindSum 4 (some .int) "LostLanesModel" 1 := ⟨wd7_75, wd7_72, wd7_74, wp4_9, wd1_10, by decide +kernel⟩
theorem kV_364 : cVf "LostLanesModel" 364 yX11_behindTest cX11_behindTest 2 (some .int) "LostLanesModel" 0 := ⟨wd7_98, wd7_95, wd7_97, wp4_13, wd1_10, by decide +kernel⟩
theorem kV_367 : cVf "LostLanesModel" 367 yX11_begin cX11_begin 1 none "LostLanesModel" 0 := ⟨wd6_238, wd6_235, wd6_237, wp3_9, wd1_10, by decide +kernel⟩
theorem kV_373 : cVf "LostLanesModel" 373 yX11_readExpression cX11_readExpression 3 none "LostLanesModel" 1 := ⟨wd7_28, wd7_25, wd7_27, wp3_14, wd1_10, by decide +kernel⟩
theorem kV_378 : cVf "LostLanesModel" 378 yX11_beginText cX11_beginText 2 none "LostLanesModel" 1 := ⟨wd6_234, wd6_231, wd6_233, wp3_8, wd1_10, by decide +kernel⟩
theorem kV_381 : cVf "LostLanesModel" 381 yX11_readLaw cX11_readLaw 4 none "LostLanesModel" 0 := ⟨wd7_16, wd7_13, wd7_15, wp3_11, wd1_10, by decide +kernel⟩
theorem kV_384 : cVf "LostLanesModel" 384 yX11_endText cX11_endText 1 none "LostLanesModel" 0 := ⟨wd7_105, wd7_102, wd7_104, wp4_14, wd1_10, by decide +kernel⟩
theorem kV_387 : cVf "LostLanesModel" 387 yX11_isLaw cX11_isLaw 2 (some .boolean) "LostLanesModel" 1 := ⟨wd7_113, wd7_110, wd7_112, wp4_15, wd1_10, by decide +kernel⟩
theorem kV_396 : cVf "LostLanesModel" 396 yX11_reckon cX11_reckon 6 (some .long) "LostLanesModel" 3 := ⟨wd6_163, wd6_160, wd6_162, wp3_0, wd1_10, by decide +kernel⟩
theorem kV_407 : cVf "LostLanesModel" 407 yX11_reckonAll cX11_reckonAll 7 none "LostLanesModel" 2 := ⟨wd6_159, wd6_156, wd6_158, wp2_15, wd1_10, by decide +kernel⟩
theorem kV_413 : cVf "LostLanesModel" 413 yX11_isSo cX11_isSo 2 (some .boolean) "LostLanesModel" 1 := ⟨wd6_155, wd6_152, wd6_154, wp2_14, wd1_10, by decide +kernel⟩
theorem kV_416 : cVf "LostLanesModel" 416 yX11_tells cX11_tells 10 (some .long) "LostLanesModel" 4 := ⟨wd6_150, wd6_147, wd6_149, wp2_13, wd1_10, by decide +kernel⟩
theorem kS_420 : cSf "LostLanesModel" 420 yX11_bounded cX11_bounded 4 (some .int) 3 := ⟨wd6_168, wd6_166, wd6_167, wd1_10, by decide +kernel⟩
theorem kV_424 : cVf "LostLanesModel" 424 yX11_ends cX11_ends 3 (some .boolean) "LostLanesModel" 2 := ⟨wd6_180, wd6_177, wd6_179, wp3_3, wd1_10, by decide +kernel⟩
theorem kV_427 : cVf "LostLanesModel" 427 yX11_canGo cX11_canGo 3 (some .boolean) "LostLanesModel" 2 := ⟨wd6_176, wd6_173, wd6_175, wp3_2, wd1_10, by decide +kernel⟩
theorem kV_430 : cVf "LostLanesModel" 430 yX11_across cX11_across 3 (some .int) "LostLanesModel" 2 := ⟨wd7_137, wd7_134, wd7_136, wp5_4, wd1_10, by decide +kernel⟩
theorem kV_433 : cVf "LostLanesModel" 433 yX11_remember cX11_remember 3 none "LostLanesModel" 1 := ⟨wd7_125, wd7_122, wd7_124, wp5_1, wd1_10, by decide +kernel⟩
theorem kV_436 : cVf "LostLanesModel" 436 yX11_goAlong cX11_goAlong 3 none "LostLanesModel" 2 := ⟨wd7_133, wd7_130, wd7_132, wp5_3, wd1_10, by decide +kernel⟩
theorem kV_439 : cVf "LostLanesModel" 439 yX11_wanderNow cX11_wanderNow 3 (some .int) "LostLanesModel" 1 := ⟨wd7_121, wd7_118, wd7_120, wp5_0, wd1_10, by decide +kernel⟩
theorem kV_442 : cVf "LostLanesModel" 442 yX11_cryIt cX11_cryIt 3 (some .int) "LostLanesModel" 1 := ⟨wd7_149, wd7_146, wd7_148, wp5_6, wd1_10, by decide +kernel⟩
theorem kV_445 : cVf "LostLanesModel" 445 yX11_cryNow cX11_cryNow 2 (some .int) "LostLanesModel" 1 := ⟨wd7_145, wd7_142, wd7_144, wp5_5, wd1_10, by decide +kernel⟩
theorem kV_448 : cVf "LostLanesModel" 448 yX11_leadNow cX11_leadNow 4 (some .int) "LostLanesModel" 2 := ⟨wd7_157, wd7_154, wd7_156, wp5_7, wd1_10, by decide +kernel⟩
theorem kV_451 : cVf "LostLanesModel" 451 yX11_passIt cX11_passIt 3 (some .int) "LostLanesModel" 0 := ⟨wd7_169, wd7_166, wd7_168, wp5_9, wd1_10, by decide +kernel⟩
theorem kV_454 : cVf "LostLanesModel" 454 yX11_passNow cX11_passNow 1 (some .int) "LostLanesModel" 0 := ⟨wd7_165, wd7_162, wd7_164, wp5_8, wd1_10, by decide +kernel⟩
theorem kV_460 : cVf "LostLanesModel" 460 yX11_layFar cX11_layFar 5 none "LostLanesModel" 0 := ⟨wd7_182, wd7_179, wd7_181, wp5_10, wd1_10, by decide +kernel⟩
theorem kV_463 : cVf "LostLanesModel" 463 yX11_farOf cX11_farOf 3 (some .int) "LostLanesModel" 2 := ⟨wd7_187, wd7_184, wd7_186, wp5_11, wd1_10, by decide +kernel⟩
theorem kV_466 : cVf "LostLanesModel" 466 yX11_foundAt cX11_foundAt 4 (some .int) "LostLanesModel" 2 := ⟨wd7_195, wd7_192, wd7_194, wp5_12, wd1_10, by decide +kernel⟩
theorem kV_469 : cVf "LostLanesModel" 469 yX11_laneEnds cX11_laneEnds 4 (some .int) "LostLanesModel" 1 := ⟨wd7_215, wd7_212, wd7_214, wp5_14, wd1_10, by decide +kernel⟩
theorem kS_472 : cSf "LostLanesModel" 472 yX11_is cX11_is 2 (some .boolean) 2 := ⟨wd7_218, wd7_216, wd7_217, wd1_10, by decide +kernel⟩
theorem kS_477 : cSf "LostLanesModel" 477 yX11_ones cX11_ones 3 (some .int) 1 := ⟨wd7_207, wd7_205, wd7_206, wd1_10, by decide +kernel⟩
theorem kV_480 : cVf "LostLanesModel" 480 yX11_allNear cX11_allNear 7 (some .boolean) "LostLanesModel" 2 := ⟨wd7_211, wd7_208, wd7_210, wp5_13, wd1_10, by decide +kernel⟩
theorem kV_487 : cVf "LostLanesModel" 487 yX11_goneFrom cX11_goneFrom 4 (some .int) "LostLanesModel" 1 := ⟨wd8_0, wd7_237, wd7_239, wp5_15, wd1_10, by decide +kernel⟩
theorem kV_490 : cVf "LostLanesModel" 490 yX11_nearEnd cX11_nearEnd 6 (some .int) "LostLanesModel" 2 := ⟨wd8_12, wd8_9, wd8_11, wp6_0, wd1_10, by decide +kernel⟩
theorem kV_493 : cVf "LostLanesModel" 493 yX11_laneBetween cX11_laneBetween 6 (some .int) "LostLanesModel" 2 := ⟨wd8_16, wd8_13, wd8_15, wp6_1, wd1_10, by decide +kernel⟩
theorem kV_496 : cVf "LostLanesModel" 496 yX11_haveCorner cX11_haveCorner 3 (some .boolean) "LostLanesModel" 2 := ⟨wd8_36, wd8_33, wd8_35, wp6_5, wd1_10, by decide +kernel⟩
theorem kV_499 : cVf "LostLanesModel" 499 yX11_nameAhead cX11_nameAhead 4 (some .int) "LostLanesModel" 1 := ⟨wd8_28, wd8_25, wd8_27, wp6_3, wd1_10, by decide +kernel⟩
theorem kV_502 : cVf "LostLanesModel" 502 yX11_fitsName cX11_fitsName 4 (some .boolean) "LostLanesModel" 1 := ⟨wd8_32, wd8_29, wd8_31, wp6_4, wd1_10, by decide +kernel⟩
theorem kV_505 : cVf "LostLanesModel" 505 yX11_findNames cX11_findNames 4 (some .boolean) "LostLanesModel" 1 := ⟨wd8_24, wd8_21, wd8_23, wp6_2, wd1_10, by decide +kernel⟩
theorem kV_508 : cVf "LostLanesModel" 508 yX11_layPaired cX11_layPaired 5 none "LostLanesModel" 0 := ⟨wd8_48, wd8_45, wd8_47, wp6_6, wd1_10, by decide +kernel⟩
theorem kV_515 : cVf "LostLanesModel" 515 yX11_readSum cX11_readSum 2 none "LostLanesModel" 1 := ⟨wd8_74, wd8_71, wd8_73, wp6_8, wd1_10, by decide +kernel⟩
theorem kV_531 : cVf "LostLanesModel" 531 yX11_namedOnes cX11_namedOnes 3 (some .int) "LostLanesModel" 0 := ⟨wd8_84, wd8_81, wd8_83, wp6_10, wd1_10, by decide +kernel⟩
theorem kV_534 : cVf "LostLanesModel" 534 yX11_sumOf cX11_sumOf 2 (some .int) "LostLanesModel" 1 := ⟨wd8_88, wd8_85, wd8_87, wp6_11, wd1_10, by decide +kernel⟩
theorem kV_537 : cVf "LostLanesModel" 537 yX11_act cX11_act 4 (some .int) "LostLanesModel" 3 := ⟨wd8_92, wd8_89, wd8_91, wp6_12, wd1_10, by decide +kernel⟩
theorem kV_541 : cVf "LostLanesModel" 541 yX11_readOrder cX11_readOrder 4 none "LostLanesModel" 0 := ⟨wd8_70, wd8_67, wd8_69, wp6_7, wd1_10, by decide +kernel⟩
theorem kV_544 : cVf "LostLanesModel" 544 yX11_run cX11_run 5 (some .int) "LostLanesModel" 1 := ⟨wd8_80, wd8_77, wd8_79, wp6_9, wd1_10, by decide +kernel⟩
theorem kV_547 : cVf "LostLanesModel" 547 yX11_giveBack cX11_giveBack 3 none "LostLanesModel" 1 := ⟨wd8_96, wd8_93, wd8_95, wp6_13, wd1_10, by decide +kernel⟩
theorem kV_559 : cVf "LostLanesModel" 559 yX11_draw cX11_draw 2 (some .int) "LostLanesModel" 1 := ⟨wd8_108, wd8_105, wd8_107, wp6_14, wd1_10, by decide +kernel⟩
