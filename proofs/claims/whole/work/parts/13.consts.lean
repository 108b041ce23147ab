theorem g_out0_12 {x : Int} (h0 : ¬ x = 0) (h1 : ¬ x = 1) (h2 : ¬ x = 2) (h3 : ¬ x = 3) (h4 : ¬ x = 4) (h5 : ¬ x = 5) (h6 : ¬ x = 6) (h7 : ¬ x = 7) (h8 : ¬ x = 8) (h9 : ¬ x = 9) (h10 : ¬ x = 10) (h11 : ¬ x = 11) (h12 : ¬ x = 12) : x < 0 ∨ 12 < x := by omega
theorem g_out0_15 {x : Int} (h0 : ¬ x = 0) (h1 : ¬ x = 1) (h2 : ¬ x = 2) (h3 : ¬ x = 3) (h4 : ¬ x = 4) (h5 : ¬ x = 5) (h6 : ¬ x = 6) (h7 : ¬ x = 7) (h8 : ¬ x = 8) (h9 : ¬ x = 9) (h10 : ¬ x = 10) (h11 : ¬ x = 11) (h12 : ¬ x = 12) (h13 : ¬ x = 13) (h14 : ¬ x = 14) (h15 : ¬ x = 15) : x < 0 ∨ 15 < x := by omega
theorem g_out0_2 {x : Int} (h0 : ¬ x = 0) (h1 : ¬ x = 1) (h2 : ¬ x = 2) : x < 0 ∨ 2 < x := by omega
theorem g_out0_4 {x : Int} (h0 : ¬ x = 0) (h1 : ¬ x = 1) (h2 : ¬ x = 2) (h3 : ¬ x = 3) (h4 : ¬ x = 4) : x < 0 ∨ 4 < x := by omega
theorem g_out0_42 {x : Int} (h0 : ¬ x = 0) (h1 : ¬ x = 1) (h2 : ¬ x = 2) (h3 : ¬ x = 3) (h4 : ¬ x = 4) (h5 : ¬ x = 5) (h6 : ¬ x = 6) (h7 : ¬ x = 7) (h8 : ¬ x = 8) (h9 : ¬ x = 9) (h10 : ¬ x = 10) (h11 : ¬ x = 11) (h12 : ¬ x = 12) (h13 : ¬ x = 13) (h14 : ¬ x = 14) (h15 : ¬ x = 15) (h16 : ¬ x = 16) (h17 : ¬ x = 17) (h18 : ¬ x = 18) (h19 : ¬ x = 19) (h20 : ¬ x = 20) (h21 : ¬ x = 21) (h22 : ¬ x = 22) (h23 : ¬ x = 23) (h24 : ¬ x = 24) (h25 : ¬ x = 25) (h26 : ¬ x = 26) (h27 : ¬ x = 27) (h28 : ¬ x = 28) (h29 : ¬ x = 29) (h30 : ¬ x = 30) (h31 : ¬ x = 31) (h32 : ¬ x = 32) (h33 : ¬ x = 33) (h34 : ¬ x = 34) (h35 : ¬ x = 35) (h36 : ¬ x = 36) (h37 : ¬ x = 37) (h38 : ¬ x = 38) (h39 : ¬ x = 39) (h40 : ¬ x = 40) (h41 : ¬ x = 41) (h42 : ¬ x = 42) : x < 0 ∨ 42 < x := by omega
theorem g_out20_26 {x : Int} (h0 : ¬ x = 20) (h1 : ¬ x = 21) (h2 : ¬ x = 22) (h3 : ¬ x = 23) (h4 : ¬ x = 24) (h5 : ¬ x = 25) (h6 : ¬ x = 26) : x < 20 ∨ 26 < x := by omega
theorem g_out2_9 {x : Int} (h0 : ¬ x = 2) (h1 : ¬ x = 3) (h2 : ¬ x = 4) (h3 : ¬ x = 5) (h4 : ¬ x = 6) (h5 : ¬ x = 7) (h6 : ¬ x = 8) (h7 : ¬ x = 9) : x < 2 ∨ 9 < x := by omega
theorem kb_10 : (Int8.ofInt (10)).toInt32 = (10 : Int32) := by decide
theorem kb_11 : (Int8.ofInt (11)).toInt32 = (11 : Int32) := by decide
theorem kb_12 : (Int8.ofInt (12)).toInt32 = (12 : Int32) := by decide
theorem kb_122 : (Int8.ofInt (122)).toInt32 = (122 : Int32) := by decide
theorem kb_13 : (Int8.ofInt (13)).toInt32 = (13 : Int32) := by decide
theorem kb_15 : (Int8.ofInt (15)).toInt32 = (15 : Int32) := by decide
theorem kb_16 : (Int8.ofInt (16)).toInt32 = (16 : Int32) := by decide
theorem kb_17 : (Int8.ofInt (17)).toInt32 = (17 : Int32) := by decide
theorem kb_18 : (Int8.ofInt (18)).toInt32 = (18 : Int32) := by decide
theorem kb_19 : (Int8.ofInt (19)).toInt32 = (19 : Int32) := by decide
theorem kb_20 : (Int8.ofInt (20)).toInt32 = (20 : Int32) := by decide
theorem kb_21 : (Int8.ofInt (21)).toInt32 = (21 : Int32) := by decide
theorem kb_22 : (Int8.ofInt (22)).toInt32 = (22 : Int32) := by decide
theorem kb_23 : (Int8.ofInt (23)).toInt32 = (23 : Int32) := by decide
theorem kb_24 : (Int8.ofInt (24)).toInt32 = (24 : Int32) := by decide
theorem kb_25 : (Int8.ofInt (25)).toInt32 = (25 : Int32) := by decide
theorem kb_26 : (Int8.ofInt (26)).toInt32 = (26 : Int32) := by decide
theorem kb_27 : (Int8.ofInt (27)).toInt32 = (27 : Int32) := by decide
theorem kb_28 : (Int8.ofInt (28)).toInt32 = (28 : Int32) := by decide
theorem kb_29 : (Int8.ofInt (29)).toInt32 = (29 : Int32) := by decide
theorem kb_30 : (Int8.ofInt (30)).toInt32 = (30 : Int32) := by decide
theorem kb_31 : (Int8.ofInt (31)).toInt32 = (31 : Int32) := by decide
theorem kb_32 : (Int8.ofInt (32)).toInt32 = (32 : Int32) := by decide
theorem kb_36 : (Int8.ofInt (36)).toInt32 = (36 : Int32) := by decide
theorem kb_37 : (Int8.ofInt (37)).toInt32 = (37 : Int32) := by decide
theorem kb_40 : (Int8.ofInt (40)).toInt32 = (40 : Int32) := by decide
theorem kb_41 : (Int8.ofInt (41)).toInt32 = (41 : Int32) := by decide
theorem kb_42 : (Int8.ofInt (42)).toInt32 = (42 : Int32) := by decide
theorem kb_43 : (Int8.ofInt (43)).toInt32 = (43 : Int32) := by decide
theorem kb_45 : (Int8.ofInt (45)).toInt32 = (45 : Int32) := by decide
theorem kb_46 : (Int8.ofInt (46)).toInt32 = (46 : Int32) := by decide
theorem kb_47 : (Int8.ofInt (47)).toInt32 = (47 : Int32) := by decide
theorem kb_48 : (Int8.ofInt (48)).toInt32 = (48 : Int32) := by decide
theorem kb_50 : (Int8.ofInt (50)).toInt32 = (50 : Int32) := by decide
theorem kb_52 : (Int8.ofInt (52)).toInt32 = (52 : Int32) := by decide
theorem kb_56 : (Int8.ofInt (56)).toInt32 = (56 : Int32) := by decide
theorem kb_57 : (Int8.ofInt (57)).toInt32 = (57 : Int32) := by decide
theorem kb_59 : (Int8.ofInt (59)).toInt32 = (59 : Int32) := by decide
theorem kb_6 : (Int8.ofInt (6)).toInt32 = (6 : Int32) := by decide
theorem kb_60 : (Int8.ofInt (60)).toInt32 = (60 : Int32) := by decide
theorem kb_61 : (Int8.ofInt (61)).toInt32 = (61 : Int32) := by decide
theorem kb_62 : (Int8.ofInt (62)).toInt32 = (62 : Int32) := by decide
theorem kb_63 : (Int8.ofInt (63)).toInt32 = (63 : Int32) := by decide
theorem kb_64 : (Int8.ofInt (64)).toInt32 = (64 : Int32) := by decide
theorem kb_66 : (Int8.ofInt (66)).toInt32 = (66 : Int32) := by decide
theorem kb_7 : (Int8.ofInt (7)).toInt32 = (7 : Int32) := by decide
theorem kb_70 : (Int8.ofInt (70)).toInt32 = (70 : Int32) := by decide
theorem kb_76 : (Int8.ofInt (76)).toInt32 = (76 : Int32) := by decide
theorem kb_8 : (Int8.ofInt (8)).toInt32 = (8 : Int32) := by decide
theorem kb_9 : (Int8.ofInt (9)).toInt32 = (9 : Int32) := by decide
theorem kb_91 : (Int8.ofInt (91)).toInt32 = (91 : Int32) := by decide
theorem kb_93 : (Int8.ofInt (93)).toInt32 = (93 : Int32) := by decide
theorem kb_96 : (Int8.ofInt (96)).toInt32 = (96 : Int32) := by decide
theorem kb_97 : (Int8.ofInt (97)).toInt32 = (97 : Int32) := by decide
theorem kb_98 : (Int8.ofInt (98)).toInt32 = (98 : Int32) := by decide
theorem kb_99 : (Int8.ofInt (99)).toInt32 = (99 : Int32) := by decide
theorem kb_m2 : (Int8.ofInt (-2)).toInt32 = (-2 : Int32) := by decide
theorem kb_m3 : (Int8.ofInt (-3)).toInt32 = (-3 : Int32) := by decide
theorem kb_m5 : (Int8.ofInt (-5)).toInt32 = (-5 : Int32) := by decide
theorem kb_m6 : (Int8.ofInt (-6)).toInt32 = (-6 : Int32) := by decide
theorem kc_0 : Int32.ofInt (0) = (0 : Int32) := by decide
theorem kc_1 : Int32.ofInt (1) = (1 : Int32) := by decide
theorem kc_2 : Int32.ofInt (2) = (2 : Int32) := by decide
theorem kc_3 : Int32.ofInt (3) = (3 : Int32) := by decide
theorem kc_4 : Int32.ofInt (4) = (4 : Int32) := by decide
theorem kc_5 : Int32.ofInt (5) = (5 : Int32) := by decide
theorem kc_6 : Int32.ofInt (6) = (6 : Int32) := by decide
theorem kc_m1 : Int32.ofInt (-1) = (-1 : Int32) := by decide
theorem kc_m8 : Int32.ofInt (-8) = (-8 : Int32) := by decide
theorem kl_0 : Int64.ofNat ((0 : Fin 2) : Nat) = (0 : Int64) := by decide
theorem kl_1 : Int64.ofNat ((1 : Fin 2) : Nat) = (1 : Int64) := by decide
theorem kn_10 : Int32.ofNat 10 = (10 : Int32) := by decide
theorem kn_2 : Int32.ofNat 2 = (2 : Int32) := by decide
theorem kn_20 : Int32.ofNat 20 = (20 : Int32) := by decide
theorem kn_3 : Int32.ofNat 3 = (3 : Int32) := by decide
theorem kn_320 : Int32.ofNat 320 = (320 : Int32) := by decide
theorem kn_52 : Int32.ofNat 52 = (52 : Int32) := by decide
theorem kn_61 : Int32.ofNat 61 = (61 : Int32) := by decide
theorem kn_64 : Int32.ofNat 64 = (64 : Int32) := by decide
theorem kn_7 : Int32.ofNat 7 = (7 : Int32) := by decide
theorem kn_800 : Int32.ofNat 800 = (800 : Int32) := by decide
theorem ks_1000 : (Int16.ofInt (1000)).toInt32 = (1000 : Int32) := by decide
theorem ks_1001 : (Int16.ofInt (1001)).toInt32 = (1001 : Int32) := by decide
theorem ks_10952 : (Int16.ofInt (10952)).toInt32 = (10952 : Int32) := by decide
theorem ks_255 : (Int16.ofInt (255)).toInt32 = (255 : Int32) := by decide
theorem ks_256 : (Int16.ofInt (256)).toInt32 = (256 : Int32) := by decide
theorem ks_300 : (Int16.ofInt (300)).toInt32 = (300 : Int32) := by decide
theorem ks_315 : (Int16.ofInt (315)).toInt32 = (315 : Int32) := by decide
theorem ks_320 : (Int16.ofInt (320)).toInt32 = (320 : Int32) := by decide
theorem ks_336 : (Int16.ofInt (336)).toInt32 = (336 : Int32) := by decide
theorem ks_378 : (Int16.ofInt (378)).toInt32 = (378 : Int32) := by decide
theorem ks_400 : (Int16.ofInt (400)).toInt32 = (400 : Int32) := by decide
theorem ks_5476 : (Int16.ofInt (5476)).toInt32 = (5476 : Int32) := by decide
theorem ks_800 : (Int16.ofInt (800)).toInt32 = (800 : Int32) := by decide
theorem ks_900 : (Int16.ofInt (900)).toInt32 = (900 : Int32) := by decide
theorem ks_999 : (Int16.ofInt (999)).toInt32 = (999 : Int32) := by decide
theorem kt_0 : (0 : Int32).toNatClampNeg = 0 := by decide
theorem kt_1 : (1 : Int32).toNatClampNeg = 1 := by decide
theorem kt_10 : (10 : Int32).toNatClampNeg = 10 := by decide
theorem kt_10952 : (10952 : Int32).toNatClampNeg = 10952 := by decide
theorem kt_11 : (11 : Int32).toNatClampNeg = 11 := by decide
theorem kt_12 : (12 : Int32).toNatClampNeg = 12 := by decide
theorem kt_13 : (13 : Int32).toNatClampNeg = 13 := by decide
theorem kt_16 : (16 : Int32).toNatClampNeg = 16 := by decide
theorem kt_19 : (19 : Int32).toNatClampNeg = 19 := by decide
theorem kt_2 : (2 : Int32).toNatClampNeg = 2 := by decide
theorem kt_20 : (20 : Int32).toNatClampNeg = 20 := by decide
theorem kt_21 : (21 : Int32).toNatClampNeg = 21 := by decide
theorem kt_256 : (256 : Int32).toNatClampNeg = 256 := by decide
theorem kt_26 : (26 : Int32).toNatClampNeg = 26 := by decide
theorem kt_3 : (3 : Int32).toNatClampNeg = 3 := by decide
theorem kt_320 : (320 : Int32).toNatClampNeg = 320 := by decide
theorem kt_336 : (336 : Int32).toNatClampNeg = 336 := by decide
theorem kt_378 : (378 : Int32).toNatClampNeg = 378 := by decide
theorem kt_4 : (4 : Int32).toNatClampNeg = 4 := by decide
theorem kt_400 : (400 : Int32).toNatClampNeg = 400 := by decide
theorem kt_5 : (5 : Int32).toNatClampNeg = 5 := by decide
theorem kt_52 : (52 : Int32).toNatClampNeg = 52 := by decide
theorem kt_5476 : (5476 : Int32).toNatClampNeg = 5476 := by decide
theorem kt_6 : (6 : Int32).toNatClampNeg = 6 := by decide
theorem kt_61 : (61 : Int32).toNatClampNeg = 61 := by decide
theorem kt_64 : (64 : Int32).toNatClampNeg = 64 := by decide
theorem kt_7 : (7 : Int32).toNatClampNeg = 7 := by decide
theorem kt_8 : (8 : Int32).toNatClampNeg = 8 := by decide
theorem kt_800 : (800 : Int32).toNatClampNeg = 800 := by decide
theorem kt_9 : (9 : Int32).toNatClampNeg = 9 := by decide
theorem kt_96 : (96 : Int32).toNatClampNeg = 96 := by decide
theorem kx_0_11 : inb (0 : Int32) 11 = true := by decide
theorem kx_0_19 : inb (0 : Int32) 19 = true := by decide
theorem kx_0_20 : inb (0 : Int32) 20 = true := by decide
theorem kx_0_256 : inb (0 : Int32) 256 = true := by decide
theorem kx_0_3 : inb (0 : Int32) 3 = true := by decide
theorem kx_0_4 : inb (0 : Int32) 4 = true := by decide
theorem kx_0_400 : inb (0 : Int32) 400 = true := by decide
theorem kx_0_52 : inb (0 : Int32) 52 = true := by decide
theorem kx_0_5476 : inb (0 : Int32) 5476 = true := by decide
theorem kx_0_61 : inb (0 : Int32) 61 = true := by decide
theorem kx_0_65536 : inb (0 : Int32) 65536 = true := by decide
theorem kx_0_7 : inb (0 : Int32) 7 = true := by decide
theorem kx_0_9 : inb (0 : Int32) 9 = true := by decide
theorem kx_10952_65536 : inb (10952 : Int32) 65536 = true := by decide
theorem kx_10_65536 : inb (10 : Int32) 65536 = true := by decide
theorem kx_11_65536 : inb (11 : Int32) 65536 = true := by decide
theorem kx_12_65536 : inb (12 : Int32) 65536 = true := by decide
theorem kx_13_65536 : inb (13 : Int32) 65536 = true := by decide
theorem kx_16_65536 : inb (16 : Int32) 65536 = true := by decide
theorem kx_19_65536 : inb (19 : Int32) 65536 = true := by decide
theorem kx_1_13 : inb (1 : Int32) 13 = true := by decide
theorem kx_1_19 : inb (1 : Int32) 19 = true := by decide
theorem kx_1_20 : inb (1 : Int32) 20 = true := by decide
theorem kx_1_3 : inb (1 : Int32) 3 = true := by decide
theorem kx_1_4 : inb (1 : Int32) 4 = true := by decide
theorem kx_1_5476 : inb (1 : Int32) 5476 = true := by decide
theorem kx_1_7 : inb (1 : Int32) 7 = true := by decide
theorem kx_1_9 : inb (1 : Int32) 9 = true := by decide
theorem kx_20_65536 : inb (20 : Int32) 65536 = true := by decide
theorem kx_21_65536 : inb (21 : Int32) 65536 = true := by decide
theorem kx_256_65536 : inb (256 : Int32) 65536 = true := by decide
theorem kx_26_5476 : inb (26 : Int32) 5476 = true := by decide
theorem kx_2_13 : inb (2 : Int32) 13 = true := by decide
theorem kx_2_19 : inb (2 : Int32) 19 = true := by decide
theorem kx_2_3 : inb (2 : Int32) 3 = true := by decide
theorem kx_2_4 : inb (2 : Int32) 4 = true := by decide
theorem kx_2_5476 : inb (2 : Int32) 5476 = true := by decide
theorem kx_2_65536 : inb (2 : Int32) 65536 = true := by decide
theorem kx_2_7 : inb (2 : Int32) 7 = true := by decide
theorem kx_2_9 : inb (2 : Int32) 9 = true := by decide
theorem kx_320_65536 : inb (320 : Int32) 65536 = true := by decide
theorem kx_336_65536 : inb (336 : Int32) 65536 = true := by decide
theorem kx_378_65536 : inb (378 : Int32) 65536 = true := by decide
theorem kx_3_13 : inb (3 : Int32) 13 = true := by decide
theorem kx_3_19 : inb (3 : Int32) 19 = true := by decide
theorem kx_3_4 : inb (3 : Int32) 4 = true := by decide
theorem kx_3_5476 : inb (3 : Int32) 5476 = true := by decide
theorem kx_3_65536 : inb (3 : Int32) 65536 = true := by decide
theorem kx_3_7 : inb (3 : Int32) 7 = true := by decide
theorem kx_3_9 : inb (3 : Int32) 9 = true := by decide
theorem kx_400_65536 : inb (400 : Int32) 65536 = true := by decide
theorem kx_4_13 : inb (4 : Int32) 13 = true := by decide
theorem kx_4_19 : inb (4 : Int32) 19 = true := by decide
theorem kx_4_5476 : inb (4 : Int32) 5476 = true := by decide
theorem kx_4_65536 : inb (4 : Int32) 65536 = true := by decide
theorem kx_4_7 : inb (4 : Int32) 7 = true := by decide
theorem kx_4_9 : inb (4 : Int32) 9 = true := by decide
theorem kx_52_65536 : inb (52 : Int32) 65536 = true := by decide
theorem kx_5476_65536 : inb (5476 : Int32) 65536 = true := by decide
theorem kx_5_13 : inb (5 : Int32) 13 = true := by decide
theorem kx_5_5476 : inb (5 : Int32) 5476 = true := by decide
theorem kx_5_7 : inb (5 : Int32) 7 = true := by decide
theorem kx_5_9 : inb (5 : Int32) 9 = true := by decide
theorem kx_61_65536 : inb (61 : Int32) 65536 = true := by decide
theorem kx_64_65536 : inb (64 : Int32) 65536 = true := by decide
theorem kx_6_13 : inb (6 : Int32) 13 = true := by decide
theorem kx_6_5476 : inb (6 : Int32) 5476 = true := by decide
theorem kx_6_65536 : inb (6 : Int32) 65536 = true := by decide
theorem kx_6_7 : inb (6 : Int32) 7 = true := by decide
theorem kx_6_9 : inb (6 : Int32) 9 = true := by decide
theorem kx_7_13 : inb (7 : Int32) 13 = true := by decide
theorem kx_7_5476 : inb (7 : Int32) 5476 = true := by decide
theorem kx_7_65536 : inb (7 : Int32) 65536 = true := by decide
theorem kx_7_9 : inb (7 : Int32) 9 = true := by decide
theorem kx_800_65536 : inb (800 : Int32) 65536 = true := by decide
theorem kx_8_13 : inb (8 : Int32) 13 = true := by decide
theorem kx_8_65536 : inb (8 : Int32) 65536 = true := by decide
theorem kx_8_9 : inb (8 : Int32) 9 = true := by decide
theorem kx_96_65536 : inb (96 : Int32) 65536 = true := by decide
theorem kx_9_13 : inb (9 : Int32) 13 = true := by decide
theorem kx_9_65536 : inb (9 : Int32) 65536 = true := by decide
