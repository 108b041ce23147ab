theorem dX0_init_0 : decode cX0_init 0 = .ok (.aload_n 0, 1) := by decide +kernel
theorem dX0_init_1 : decode cX0_init 1 = .ok (.invokespecial 1, 3) := by decide +kernel
theorem dX0_init_4 : decode cX0_init 4 = .ok (.aload_n 0, 1) := by decide +kernel
theorem dX0_init_5 : decode cX0_init 5 = .ok (.iconst 1, 1) := by decide +kernel
theorem dX0_init_6 : decode cX0_init 6 = .ok (.putfield 7, 3) := by decide +kernel
theorem dX0_init_9 : decode cX0_init 9 = .ok (.aload_n 0, 1) := by decide +kernel
theorem dX0_init_10 : decode cX0_init 10 = .ok (.iload_n 1, 1) := by decide +kernel
theorem dX0_init_11 : decode cX0_init 11 = .ok (.putfield 13, 3) := by decide +kernel
theorem dX0_init_14 : decode cX0_init 14 = .ok (.aload_n 0, 1) := by decide +kernel
theorem dX0_init_15 : decode cX0_init 15 = .ok (.iload_n 2, 1) := by decide +kernel
theorem dX0_init_16 : decode cX0_init 16 = .ok (.putfield 16, 3) := by decide +kernel
theorem dX0_init_19 : decode cX0_init 19 = .ok (.return_, 1) := by decide +kernel
theorem dX5_init_0 : decode cX5_init 0 = .ok (.aload_n 0, 1) := by decide +kernel
theorem dX5_init_1 : decode cX5_init 1 = .ok (.invokespecial 1, 3) := by decide +kernel
theorem dX5_init_4 : decode cX5_init 4 = .ok (.aload_n 0, 1) := by decide +kernel
theorem dX5_init_5 : decode cX5_init 5 = .ok (.bipush 12, 2) := by decide +kernel
theorem dX5_init_7 : decode cX5_init 7 = .ok (.anewarray 9, 3) := by decide +kernel
theorem dX5_init_10 : decode cX5_init 10 = .ok (.putfield 11, 3) := by decide +kernel
theorem dX5_init_13 : decode cX5_init 13 = .ok (.aload_n 0, 1) := by decide +kernel
theorem dX5_init_14 : decode cX5_init 14 = .ok (.iconst 0, 1) := by decide +kernel
theorem dX5_init_15 : decode cX5_init 15 = .ok (.newarray .int, 2) := by decide +kernel
theorem dX5_init_17 : decode cX5_init 17 = .ok (.putfield 15, 3) := by decide +kernel
theorem dX5_init_20 : decode cX5_init 20 = .ok (.return_, 1) := by decide +kernel
theorem dX5_add_0 : decode cX5_add 0 = .ok (.aload_n 0, 1) := by decide +kernel
theorem dX5_add_1 : decode cX5_add 1 = .ok (.getfield 19, 3) := by decide +kernel
theorem dX5_add_4 : decode cX5_add 4 = .ok (.bipush 12, 2) := by decide +kernel
theorem dX5_add_6 : decode cX5_add 6 = .ok (.if_icmp .ge 23, 3) := by decide +kernel
theorem dX5_add_9 : decode cX5_add 9 = .ok (.aload_n 0, 1) := by decide +kernel
theorem dX5_add_10 : decode cX5_add 10 = .ok (.getfield 11, 3) := by decide +kernel
theorem dX5_add_13 : decode cX5_add 13 = .ok (.aload_n 0, 1) := by decide +kernel
theorem dX5_add_14 : decode cX5_add 14 = .ok (.getfield 19, 3) := by decide +kernel
theorem dX5_add_17 : decode cX5_add 17 = .ok (.aload_n 1, 1) := by decide +kernel
theorem dX5_add_18 : decode cX5_add 18 = .ok (.aastore, 1) := by decide +kernel
theorem dX5_add_19 : decode cX5_add 19 = .ok (.aload_n 0, 1) := by decide +kernel
theorem dX5_add_20 : decode cX5_add 20 = .ok (.dup, 1) := by decide +kernel
theorem dX5_add_21 : decode cX5_add 21 = .ok (.getfield 19, 3) := by decide +kernel
theorem dX5_add_24 : decode cX5_add 24 = .ok (.iconst 1, 1) := by decide +kernel
theorem dX5_add_25 : decode cX5_add 25 = .ok (.iadd, 1) := by decide +kernel
theorem dX5_add_26 : decode cX5_add 26 = .ok (.putfield 19, 3) := by decide +kernel
theorem dX5_add_29 : decode cX5_add 29 = .ok (.return_, 1) := by decide +kernel
theorem dJ7_copyOf_59c91_0 : decode cJ7_copyOf_59c91 0 = .ok (.iload_n 1, 1) := by decide +kernel
theorem dJ7_copyOf_59c91_1 : decode cJ7_copyOf_59c91 1 = .ok (.aload_n 0, 1) := by decide +kernel
theorem dJ7_copyOf_59c91_2 : decode cJ7_copyOf_59c91 2 = .ok (.arraylength, 1) := by decide +kernel
theorem dJ7_copyOf_59c91_3 : decode cJ7_copyOf_59c91 3 = .ok (.if_icmp .ne 11, 3) := by decide +kernel
theorem dJ7_copyOf_59c91_6 : decode cJ7_copyOf_59c91 6 = .ok (.aload_n 0, 1) := by decide +kernel
theorem dJ7_copyOf_59c91_7 : decode cJ7_copyOf_59c91 7 = .ok (.invokevirtual 316, 3) := by decide +kernel
theorem dJ7_copyOf_59c91_10 : decode cJ7_copyOf_59c91 10 = .ok (.checkcast 317, 3) := by decide +kernel
theorem dJ7_copyOf_59c91_13 : decode cJ7_copyOf_59c91 13 = .ok (.areturn, 1) := by decide +kernel
theorem dJ7_copyOf_59c91_14 : decode cJ7_copyOf_59c91 14 = .ok (.iload_n 1, 1) := by decide +kernel
theorem dJ7_copyOf_59c91_15 : decode cJ7_copyOf_59c91 15 = .ok (.newarray .int, 2) := by decide +kernel
theorem dJ7_copyOf_59c91_17 : decode cJ7_copyOf_59c91 17 = .ok (.astore_n 2, 1) := by decide +kernel
theorem dJ7_copyOf_59c91_18 : decode cJ7_copyOf_59c91 18 = .ok (.aload_n 0, 1) := by decide +kernel
theorem dJ7_copyOf_59c91_19 : decode cJ7_copyOf_59c91 19 = .ok (.iconst 0, 1) := by decide +kernel
theorem dJ7_copyOf_59c91_20 : decode cJ7_copyOf_59c91 20 = .ok (.aload_n 2, 1) := by decide +kernel
theorem dJ7_copyOf_59c91_21 : decode cJ7_copyOf_59c91 21 = .ok (.iconst 0, 1) := by decide +kernel
theorem dJ7_copyOf_59c91_22 : decode cJ7_copyOf_59c91 22 = .ok (.aload_n 0, 1) := by decide +kernel
theorem dJ7_copyOf_59c91_23 : decode cJ7_copyOf_59c91 23 = .ok (.arraylength, 1) := by decide +kernel
theorem dJ7_copyOf_59c91_24 : decode cJ7_copyOf_59c91 24 = .ok (.iload_n 1, 1) := by decide +kernel
theorem dJ7_copyOf_59c91_25 : decode cJ7_copyOf_59c91 25 = .ok (.invokestatic 304, 3) := by decide +kernel
theorem dJ7_copyOf_59c91_28 : decode cJ7_copyOf_59c91 28 = .ok (.invokestatic 150, 3) := by decide +kernel
theorem dJ7_copyOf_59c91_31 : decode cJ7_copyOf_59c91 31 = .ok (.aload_n 2, 1) := by decide +kernel
theorem dJ7_copyOf_59c91_32 : decode cJ7_copyOf_59c91 32 = .ok (.areturn, 1) := by decide +kernel
theorem dX3_clause_0 : decode cX3_clause 0 = .ok (.aload_n 0, 1) := by decide +kernel
theorem dX3_clause_1 : decode cX3_clause 1 = .ok (.aload_n 0, 1) := by decide +kernel
theorem dX3_clause_2 : decode cX3_clause 2 = .ok (.getfield 26, 3) := by decide +kernel
theorem dX3_clause_5 : decode cX3_clause 5 = .ok (.ifCond .eq 8, 3) := by decide +kernel
theorem dX3_clause_8 : decode cX3_clause 8 = .ok (.ldc 70, 2) := by decide +kernel
theorem dX3_clause_10 : decode cX3_clause 10 = .ok (.goto 5, 3) := by decide +kernel
theorem dX3_clause_13 : decode cX3_clause 13 = .ok (.ldc 72, 2) := by decide +kernel
theorem dX3_clause_15 : decode cX3_clause 15 = .ok (.invokevirtual 74, 3) := by decide +kernel
theorem dX3_clause_18 : decode cX3_clause 18 = .ok (.istore_n 2, 1) := by decide +kernel
theorem dX3_clause_19 : decode cX3_clause 19 = .ok (.iload_n 2, 1) := by decide +kernel
theorem dX3_clause_20 : decode cX3_clause 20 = .ok (.iconst (-1), 1) := by decide +kernel
theorem dX3_clause_21 : decode cX3_clause 21 = .ok (.if_icmp .ne 8, 3) := by decide +kernel
theorem dX3_clause_24 : decode cX3_clause 24 = .ok (.aload_n 0, 1) := by decide +kernel
theorem dX3_clause_25 : decode cX3_clause 25 = .ok (.invokevirtual 66, 3) := by decide +kernel
theorem dX3_clause_28 : decode cX3_clause 28 = .ok (.ireturn, 1) := by decide +kernel
theorem dX3_clause_29 : decode cX3_clause 29 = .ok (.aload_n 0, 1) := by decide +kernel
theorem dX3_clause_30 : decode cX3_clause 30 = .ok (.invokevirtual 42, 3) := by decide +kernel
theorem dX3_clause_33 : decode cX3_clause 33 = .ok (.new 78, 3) := by decide +kernel
theorem dX3_clause_36 : decode cX3_clause 36 = .ok (.dup, 1) := by decide +kernel
theorem dX3_clause_37 : decode cX3_clause 37 = .ok (.iload_n 2, 1) := by decide +kernel
theorem dX3_clause_38 : decode cX3_clause 38 = .ok (.aload_n 0, 1) := by decide +kernel
theorem dX3_clause_39 : decode cX3_clause 39 = .ok (.getfield 30, 3) := by decide +kernel
theorem dX3_clause_42 : decode cX3_clause 42 = .ok (.invokespecial 80, 3) := by decide +kernel
theorem dX3_clause_45 : decode cX3_clause 45 = .ok (.astore_n 3, 1) := by decide +kernel
theorem dX3_clause_46 : decode cX3_clause 46 = .ok (.iload_n 2, 1) := by decide +kernel
theorem dX3_clause_47 : decode cX3_clause 47 = .ok (.aload_n 0, 1) := by decide +kernel
theorem dX3_clause_48 : decode cX3_clause 48 = .ok (.getfield 26, 3) := by decide +kernel
theorem dX3_clause_51 : decode cX3_clause 51 = .ok (.ifCond .eq 7, 3) := by decide +kernel
theorem dX3_clause_54 : decode cX3_clause 54 = .ok (.iconst 2, 1) := by decide +kernel
theorem dX3_clause_55 : decode cX3_clause 55 = .ok (.goto 4, 3) := by decide +kernel
theorem dX3_clause_58 : decode cX3_clause 58 = .ok (.iconst 3, 1) := by decide +kernel
theorem dX3_clause_59 : decode cX3_clause 59 = .ok (.if_icmp .eq 12, 3) := by decide +kernel
theorem dX3_clause_62 : decode cX3_clause 62 = .ok (.aload_n 0, 1) := by decide +kernel
theorem dX3_clause_63 : decode cX3_clause 63 = .ok (.invokevirtual 83, 3) := by decide +kernel
theorem dX3_clause_66 : decode cX3_clause 66 = .ok (.ifCond .ne 5, 3) := by decide +kernel
theorem dX3_clause_69 : decode cX3_clause 69 = .ok (.iconst 0, 1) := by decide +kernel
theorem dX3_clause_70 : decode cX3_clause 70 = .ok (.ireturn, 1) := by decide +kernel
theorem dX3_clause_71 : decode cX3_clause 71 = .ok (.aload_n 3, 1) := by decide +kernel
theorem dX3_clause_72 : decode cX3_clause 72 = .ok (.aload_n 0, 1) := by decide +kernel
theorem dX3_clause_73 : decode cX3_clause 73 = .ok (.getfield 30, 3) := by decide +kernel
theorem dX3_clause_76 : decode cX3_clause 76 = .ok (.putfield 86, 3) := by decide +kernel
theorem dX3_clause_79 : decode cX3_clause 79 = .ok (.aload_n 0, 1) := by decide +kernel
theorem dX3_clause_80 : decode cX3_clause 80 = .ok (.getfield 26, 3) := by decide +kernel
theorem dX3_clause_83 : decode cX3_clause 83 = .ok (.ifCond .ne 29, 3) := by decide +kernel
theorem dX3_clause_86 : decode cX3_clause 86 = .ok (.iload_n 2, 1) := by decide +kernel
theorem dX3_clause_87 : decode cX3_clause 87 = .ok (.iconst 2, 1) := by decide +kernel
theorem dX3_clause_88 : decode cX3_clause 88 = .ok (.if_icmp .ne 24, 3) := by decide +kernel
theorem dX3_clause_91 : decode cX3_clause 91 = .ok (.aload_n 0, 1) := by decide +kernel
theorem dX3_clause_92 : decode cX3_clause 92 = .ok (.ldc 89, 2) := by decide +kernel
theorem dX3_clause_94 : decode cX3_clause 94 = .ok (.invokevirtual 91, 3) := by decide +kernel
theorem dX3_clause_97 : decode cX3_clause 97 = .ok (.ifCond .eq 10, 3) := by decide +kernel
theorem dX3_clause_100 : decode cX3_clause 100 = .ok (.aload_n 0, 1) := by decide +kernel
theorem dX3_clause_101 : decode cX3_clause 101 = .ok (.invokevirtual 83, 3) := by decide +kernel
theorem dX3_clause_104 : decode cX3_clause 104 = .ok (.ifCond .ne 8, 3) := by decide +kernel
theorem dX3_clause_107 : decode cX3_clause 107 = .ok (.aload_n 0, 1) := by decide +kernel
theorem dX3_clause_108 : decode cX3_clause 108 = .ok (.invokevirtual 66, 3) := by decide +kernel
theorem dX3_clause_111 : decode cX3_clause 111 = .ok (.ireturn, 1) := by decide +kernel
theorem dX3_clause_112 : decode cX3_clause 112 = .ok (.aload_n 3, 1) := by decide +kernel
theorem dX3_clause_113 : decode cX3_clause 113 = .ok (.aload_n 0, 1) := by decide +kernel
theorem dX3_clause_114 : decode cX3_clause 114 = .ok (.getfield 30, 3) := by decide +kernel
theorem dX3_clause_117 : decode cX3_clause 117 = .ok (.putfield 95, 3) := by decide +kernel
theorem dX3_clause_120 : decode cX3_clause 120 = .ok (.aload_n 0, 1) := by decide +kernel
theorem dX3_clause_121 : decode cX3_clause 121 = .ok (.getfield 26, 3) := by decide +kernel
theorem dX3_clause_124 : decode cX3_clause 124 = .ok (.ifCond .ne 39, 3) := by decide +kernel
theorem dX3_clause_127 : decode cX3_clause 127 = .ok (.aload_n 0, 1) := by decide +kernel
theorem dX3_clause_128 : decode cX3_clause 128 = .ok (.ldc 98, 2) := by decide +kernel
theorem dX3_clause_130 : decode cX3_clause 130 = .ok (.invokevirtual 91, 3) := by decide +kernel
theorem dX3_clause_133 : decode cX3_clause 133 = .ok (.ifCond .eq 30, 3) := by decide +kernel
theorem dX3_clause_136 : decode cX3_clause 136 = .ok (.aload_n 0, 1) := by decide +kernel
theorem dX3_clause_137 : decode cX3_clause 137 = .ok (.iconst 1, 1) := by decide +kernel
theorem dX3_clause_138 : decode cX3_clause 138 = .ok (.bipush 20, 2) := by decide +kernel
theorem dX3_clause_140 : decode cX3_clause 140 = .ok (.invokevirtual 100, 3) := by decide +kernel
theorem dX3_clause_143 : decode cX3_clause 143 = .ok (.ifCond .ne 8, 3) := by decide +kernel
theorem dX3_clause_146 : decode cX3_clause 146 = .ok (.aload_n 0, 1) := by decide +kernel
theorem dX3_clause_147 : decode cX3_clause 147 = .ok (.invokevirtual 66, 3) := by decide +kernel
theorem dX3_clause_150 : decode cX3_clause 150 = .ok (.ireturn, 1) := by decide +kernel
theorem dX3_clause_151 : decode cX3_clause 151 = .ok (.aload_n 3, 1) := by decide +kernel
theorem dX3_clause_152 : decode cX3_clause 152 = .ok (.aload_n 0, 1) := by decide +kernel
theorem dX3_clause_153 : decode cX3_clause 153 = .ok (.getfield 104, 3) := by decide +kernel
theorem dX3_clause_156 : decode cX3_clause 156 = .ok (.putfield 107, 3) := by decide +kernel
theorem dX3_clause_159 : decode cX3_clause 159 = .ok (.aload_n 0, 1) := by decide +kernel
theorem dX3_clause_160 : decode cX3_clause 160 = .ok (.invokevirtual 42, 3) := by decide +kernel
theorem dX3_clause_163 : decode cX3_clause 163 = .ok (.aload_n 0, 1) := by decide +kernel
theorem dX3_clause_164 : decode cX3_clause 164 = .ok (.ldc 109, 2) := by decide +kernel
theorem dX3_clause_166 : decode cX3_clause 166 = .ok (.invokevirtual 91, 3) := by decide +kernel
theorem dX3_clause_169 : decode cX3_clause 169 = .ok (.ifCond .eq 12, 3) := by decide +kernel
theorem dX3_clause_172 : decode cX3_clause 172 = .ok (.aload_n 0, 1) := by decide +kernel
theorem dX3_clause_173 : decode cX3_clause 173 = .ok (.invokevirtual 111, 3) := by decide +kernel
theorem dX3_clause_176 : decode cX3_clause 176 = .ok (.ifCond .ne 5, 3) := by decide +kernel
theorem dX3_clause_179 : decode cX3_clause 179 = .ok (.iconst 0, 1) := by decide +kernel
theorem dX3_clause_180 : decode cX3_clause 180 = .ok (.ireturn, 1) := by decide +kernel
theorem dX3_clause_181 : decode cX3_clause 181 = .ok (.aload_n 3, 1) := by decide +kernel
theorem dX3_clause_182 : decode cX3_clause 182 = .ok (.aload_n 0, 1) := by decide +kernel
theorem dX3_clause_183 : decode cX3_clause 183 = .ok (.getfield 30, 3) := by decide +kernel
theorem dX3_clause_186 : decode cX3_clause 186 = .ok (.putfield 114, 3) := by decide +kernel
theorem dX3_clause_189 : decode cX3_clause 189 = .ok (.aload_n 1, 1) := by decide +kernel
theorem dX3_clause_190 : decode cX3_clause 190 = .ok (.aload_n 3, 1) := by decide +kernel
theorem dX3_clause_191 : decode cX3_clause 191 = .ok (.invokevirtual 117, 3) := by decide +kernel
theorem dX3_clause_194 : decode cX3_clause 194 = .ok (.iconst 1, 1) := by decide +kernel
theorem dX3_clause_195 : decode cX3_clause 195 = .ok (.ireturn, 1) := by decide +kernel
theorem dX3_read_0 : decode cX3_read 0 = .ok (.aload_n 0, 1) := by decide +kernel
theorem dX3_read_1 : decode cX3_read 1 = .ok (.iload_n 1, 1) := by decide +kernel
theorem dX3_read_2 : decode cX3_read 2 = .ok (.putfield 26, 3) := by decide +kernel
theorem dX3_read_5 : decode cX3_read 5 = .ok (.aload_n 0, 1) := by decide +kernel
theorem dX3_read_6 : decode cX3_read 6 = .ok (.iconst 0, 1) := by decide +kernel
theorem dX3_read_7 : decode cX3_read 7 = .ok (.putfield 30, 3) := by decide +kernel
theorem dX3_read_10 : decode cX3_read 10 = .ok (.aload_n 0, 1) := by decide +kernel
theorem dX3_read_11 : decode cX3_read 11 = .ok (.iconst 0, 1) := by decide +kernel
theorem dX3_read_12 : decode cX3_read 12 = .ok (.putfield 33, 3) := by decide +kernel
theorem dX3_read_15 : decode cX3_read 15 = .ok (.aload_n 0, 1) := by decide +kernel
theorem dX3_read_16 : decode cX3_read 16 = .ok (.iconst 0, 1) := by decide +kernel
theorem dX3_read_17 : decode cX3_read 17 = .ok (.putfield 36, 3) := by decide +kernel
theorem dX3_read_20 : decode cX3_read 20 = .ok (.aload_n 0, 1) := by decide +kernel
theorem dX3_read_21 : decode cX3_read 21 = .ok (.iconst 0, 1) := by decide +kernel
theorem dX3_read_22 : decode cX3_read 22 = .ok (.putfield 39, 3) := by decide +kernel
theorem dX3_read_25 : decode cX3_read 25 = .ok (.aload_n 0, 1) := by decide +kernel
theorem dX3_read_26 : decode cX3_read 26 = .ok (.iconst (-1), 1) := by decide +kernel
theorem dX3_read_27 : decode cX3_read 27 = .ok (.putfield 22, 3) := by decide +kernel
theorem dX3_read_30 : decode cX3_read 30 = .ok (.aload_n 0, 1) := by decide +kernel
theorem dX3_read_31 : decode cX3_read 31 = .ok (.invokevirtual 42, 3) := by decide +kernel
theorem dX3_read_34 : decode cX3_read 34 = .ok (.new 45, 3) := by decide +kernel
theorem dX3_read_37 : decode cX3_read 37 = .ok (.dup, 1) := by decide +kernel
theorem dX3_read_38 : decode cX3_read 38 = .ok (.invokespecial 47, 3) := by decide +kernel
theorem dX3_read_41 : decode cX3_read 41 = .ok (.astore_n 2, 1) := by decide +kernel
theorem dX3_read_42 : decode cX3_read 42 = .ok (.iconst 0, 1) := by decide +kernel
theorem dX3_read_43 : decode cX3_read 43 = .ok (.istore_n 3, 1) := by decide +kernel
theorem dX3_read_44 : decode cX3_read 44 = .ok (.iload_n 3, 1) := by decide +kernel
theorem dX3_read_45 : decode cX3_read 45 = .ok (.bipush 12, 2) := by decide +kernel
theorem dX3_read_47 : decode cX3_read 47 = .ok (.if_icmp .ge 63, 3) := by decide +kernel
theorem dX3_read_50 : decode cX3_read 50 = .ok (.aload_n 0, 1) := by decide +kernel
theorem dX3_read_51 : decode cX3_read 51 = .ok (.aload_n 2, 1) := by decide +kernel
theorem dX3_read_52 : decode cX3_read 52 = .ok (.invokevirtual 48, 3) := by decide +kernel
theorem dX3_read_55 : decode cX3_read 55 = .ok (.ifCond .ne 5, 3) := by decide +kernel
theorem dX3_read_58 : decode cX3_read 58 = .ok (.aconst_null, 1) := by decide +kernel
theorem dX3_read_59 : decode cX3_read 59 = .ok (.areturn, 1) := by decide +kernel
theorem dX3_read_60 : decode cX3_read 60 = .ok (.aload_n 0, 1) := by decide +kernel
theorem dX3_read_61 : decode cX3_read 61 = .ok (.getfield 52, 3) := by decide +kernel
theorem dX3_read_64 : decode cX3_read 64 = .ok (.ifCond .ne 20, 3) := by decide +kernel
theorem dX3_read_67 : decode cX3_read 67 = .ok (.aload_n 2, 1) := by decide +kernel
theorem dX3_read_68 : decode cX3_read 68 = .ok (.aload_n 0, 1) := by decide +kernel
theorem dX3_read_69 : decode cX3_read 69 = .ok (.getfield 18, 3) := by decide +kernel
theorem dX3_read_72 : decode cX3_read 72 = .ok (.aload_n 0, 1) := by decide +kernel
theorem dX3_read_73 : decode cX3_read 73 = .ok (.getfield 30, 3) := by decide +kernel
theorem dX3_read_76 : decode cX3_read 76 = .ok (.invokestatic 55, 3) := by decide +kernel
theorem dX3_read_79 : decode cX3_read 79 = .ok (.putfield 61, 3) := by decide +kernel
theorem dX3_read_82 : decode cX3_read 82 = .ok (.aload_n 2, 1) := by decide +kernel
theorem dX3_read_83 : decode cX3_read 83 = .ok (.areturn, 1) := by decide +kernel
theorem dX3_read_84 : decode cX3_read 84 = .ok (.aload_n 0, 1) := by decide +kernel
theorem dX3_read_85 : decode cX3_read 85 = .ok (.bipush 59, 2) := by decide +kernel
theorem dX3_read_87 : decode cX3_read 87 = .ok (.invokevirtual 62, 3) := by decide +kernel
theorem dX3_read_90 : decode cX3_read 90 = .ok (.ifCond .ne 10, 3) := by decide +kernel
theorem dX3_read_93 : decode cX3_read 93 = .ok (.aload_n 0, 1) := by decide +kernel
theorem dX3_read_94 : decode cX3_read 94 = .ok (.invokevirtual 66, 3) := by decide +kernel
theorem dX3_read_97 : decode cX3_read 97 = .ok (.pop, 1) := by decide +kernel
theorem dX3_read_98 : decode cX3_read 98 = .ok (.aconst_null, 1) := by decide +kernel
theorem dX3_read_99 : decode cX3_read 99 = .ok (.areturn, 1) := by decide +kernel
theorem dX3_read_100 : decode cX3_read 100 = .ok (.aload_n 0, 1) := by decide +kernel
theorem dX3_read_101 : decode cX3_read 101 = .ok (.invokevirtual 42, 3) := by decide +kernel
theorem dX3_read_104 : decode cX3_read 104 = .ok (.iinc 3 1, 3) := by decide +kernel
theorem dX3_read_107 : decode cX3_read 107 = .ok (.goto (-63), 3) := by decide +kernel
theorem dX3_read_110 : decode cX3_read 110 = .ok (.aload_n 0, 1) := by decide +kernel
theorem dX3_read_111 : decode cX3_read 111 = .ok (.invokevirtual 66, 3) := by decide +kernel
theorem dX3_read_114 : decode cX3_read 114 = .ok (.pop, 1) := by decide +kernel
theorem dX3_read_115 : decode cX3_read 115 = .ok (.aconst_null, 1) := by decide +kernel
theorem dX3_read_116 : decode cX3_read 116 = .ok (.areturn, 1) := by decide +kernel
theorem dX10_law_0 : decode cX10_law 0 = .ok (.aload_n 0, 1) := by decide +kernel
theorem dX10_law_1 : decode cX10_law 1 = .ok (.getfield 12, 3) := by decide +kernel
theorem dX10_law_4 : decode cX10_law 4 = .ok (.getfield 191, 3) := by decide +kernel
theorem dX10_law_7 : decode cX10_law 7 = .ok (.bipush 6, 2) := by decide +kernel
theorem dX10_law_9 : decode cX10_law 9 = .ok (.if_icmp .lt 18, 3) := by decide +kernel
theorem dX10_law_12 : decode cX10_law 12 = .ok (.aload_n 0, 1) := by decide +kernel
theorem dX10_law_13 : decode cX10_law 13 = .ok (.getfield 47, 3) := by decide +kernel
theorem dX10_law_16 : decode cX10_law 16 = .ok (.iconst 0, 1) := by decide +kernel
theorem dX10_law_17 : decode cX10_law 17 = .ok (.putfield 176, 3) := by decide +kernel
theorem dX10_law_20 : decode cX10_law 20 = .ok (.aload_n 0, 1) := by decide +kernel
theorem dX10_law_21 : decode cX10_law 21 = .ok (.bipush (-5), 2) := by decide +kernel
theorem dX10_law_23 : decode cX10_law 23 = .ok (.invokevirtual 93, 3) := by decide +kernel
theorem dX10_law_26 : decode cX10_law 26 = .ok (.ireturn, 1) := by decide +kernel
theorem dX10_law_27 : decode cX10_law 27 = .ok (.aload_n 0, 1) := by decide +kernel
theorem dX10_law_28 : decode cX10_law 28 = .ok (.getfield 39, 3) := by decide +kernel
theorem dX10_law_31 : decode cX10_law 31 = .ok (.iconst 1, 1) := by decide +kernel
theorem dX10_law_32 : decode cX10_law 32 = .ok (.invokevirtual 194, 3) := by decide +kernel
theorem dX10_law_35 : decode cX10_law 35 = .ok (.astore_n 1, 1) := by decide +kernel
theorem dX10_law_36 : decode cX10_law 36 = .ok (.aload_n 0, 1) := by decide +kernel
theorem dX10_law_37 : decode cX10_law 37 = .ok (.getfield 47, 3) := by decide +kernel
theorem dX10_law_40 : decode cX10_law 40 = .ok (.iconst 0, 1) := by decide +kernel
theorem dX10_law_41 : decode cX10_law 41 = .ok (.putfield 176, 3) := by decide +kernel
theorem dX10_law_44 : decode cX10_law 44 = .ok (.aload_n 1, 1) := by decide +kernel
theorem dX10_law_45 : decode cX10_law 45 = .ok (.ifnonnull 10, 3) := by decide +kernel
theorem dX10_law_48 : decode cX10_law 48 = .ok (.aload_n 0, 1) := by decide +kernel
theorem dX10_law_49 : decode cX10_law 49 = .ok (.bipush (-6), 2) := by decide +kernel
theorem dX10_law_51 : decode cX10_law 51 = .ok (.invokevirtual 93, 3) := by decide +kernel
theorem dX10_law_54 : decode cX10_law 54 = .ok (.ireturn, 1) := by decide +kernel
theorem dX10_law_55 : decode cX10_law 55 = .ok (.aload_n 0, 1) := by decide +kernel
theorem dX10_law_56 : decode cX10_law 56 = .ok (.getfield 12, 3) := by decide +kernel
theorem dX10_law_59 : decode cX10_law 59 = .ok (.getfield 198, 3) := by decide +kernel
theorem dX10_law_62 : decode cX10_law 62 = .ok (.aload_n 0, 1) := by decide +kernel
theorem dX10_law_63 : decode cX10_law 63 = .ok (.getfield 12, 3) := by decide +kernel
theorem dX10_law_66 : decode cX10_law 66 = .ok (.getfield 191, 3) := by decide +kernel
theorem dX10_law_69 : decode cX10_law 69 = .ok (.aload_n 1, 1) := by decide +kernel
theorem dX10_law_70 : decode cX10_law 70 = .ok (.aastore, 1) := by decide +kernel
theorem dX10_law_71 : decode cX10_law 71 = .ok (.aload_n 0, 1) := by decide +kernel
theorem dX10_law_72 : decode cX10_law 72 = .ok (.getfield 12, 3) := by decide +kernel
theorem dX10_law_75 : decode cX10_law 75 = .ok (.dup, 1) := by decide +kernel
theorem dX10_law_76 : decode cX10_law 76 = .ok (.getfield 191, 3) := by decide +kernel
theorem dX10_law_79 : decode cX10_law 79 = .ok (.iconst 1, 1) := by decide +kernel
theorem dX10_law_80 : decode cX10_law 80 = .ok (.iadd, 1) := by decide +kernel
theorem dX10_law_81 : decode cX10_law 81 = .ok (.putfield 191, 3) := by decide +kernel
theorem dX10_law_84 : decode cX10_law 84 = .ok (.aload_n 0, 1) := by decide +kernel
theorem dX10_law_85 : decode cX10_law 85 = .ok (.aload_n 0, 1) := by decide +kernel
theorem dX10_law_86 : decode cX10_law 86 = .ok (.getfield 12, 3) := by decide +kernel
theorem dX10_law_89 : decode cX10_law 89 = .ok (.getfield 191, 3) := by decide +kernel
theorem dX10_law_92 : decode cX10_law 92 = .ok (.iconst 1, 1) := by decide +kernel
theorem dX10_law_93 : decode cX10_law 93 = .ok (.isub, 1) := by decide +kernel
theorem dX10_law_94 : decode cX10_law 94 = .ok (.invokevirtual 107, 3) := by decide +kernel
theorem dX10_law_97 : decode cX10_law 97 = .ok (.ireturn, 1) := by decide +kernel
theorem dX10_orders_0 : decode cX10_orders 0 = .ok (.aload_n 0, 1) := by decide +kernel
theorem dX10_orders_1 : decode cX10_orders 1 = .ok (.getfield 39, 3) := by decide +kernel
theorem dX10_orders_4 : decode cX10_orders 4 = .ok (.iconst 0, 1) := by decide +kernel
theorem dX10_orders_5 : decode cX10_orders 5 = .ok (.invokevirtual 194, 3) := by decide +kernel
theorem dX10_orders_8 : decode cX10_orders 8 = .ok (.astore_n 1, 1) := by decide +kernel
theorem dX10_orders_9 : decode cX10_orders 9 = .ok (.aload_n 0, 1) := by decide +kernel
theorem dX10_orders_10 : decode cX10_orders 10 = .ok (.getfield 47, 3) := by decide +kernel
theorem dX10_orders_13 : decode cX10_orders 13 = .ok (.iconst 0, 1) := by decide +kernel
theorem dX10_orders_14 : decode cX10_orders 14 = .ok (.putfield 176, 3) := by decide +kernel
theorem dX10_orders_17 : decode cX10_orders 17 = .ok (.aload_n 0, 1) := by decide +kernel
theorem dX10_orders_18 : decode cX10_orders 18 = .ok (.iconst (-1), 1) := by decide +kernel
theorem dX10_orders_19 : decode cX10_orders 19 = .ok (.putfield 85, 3) := by decide +kernel
theorem dX10_orders_22 : decode cX10_orders 22 = .ok (.aload_n 1, 1) := by decide +kernel
theorem dX10_orders_23 : decode cX10_orders 23 = .ok (.ifnonnull 10, 3) := by decide +kernel
theorem dX10_orders_26 : decode cX10_orders 26 = .ok (.aload_n 0, 1) := by decide +kernel
theorem dX10_orders_27 : decode cX10_orders 27 = .ok (.bipush (-6), 2) := by decide +kernel
theorem dX10_orders_29 : decode cX10_orders 29 = .ok (.invokevirtual 93, 3) := by decide +kernel
theorem dX10_orders_32 : decode cX10_orders 32 = .ok (.ireturn, 1) := by decide +kernel
theorem dX10_orders_33 : decode cX10_orders 33 = .ok (.aload_n 0, 1) := by decide +kernel
theorem dX10_orders_34 : decode cX10_orders 34 = .ok (.getfield 16, 3) := by decide +kernel
theorem dX10_orders_37 : decode cX10_orders 37 = .ok (.aload_n 0, 1) := by decide +kernel
theorem dX10_orders_38 : decode cX10_orders 38 = .ok (.getfield 12, 3) := by decide +kernel
theorem dX10_orders_41 : decode cX10_orders 41 = .ok (.invokevirtual 202, 3) := by decide +kernel
theorem dX10_orders_44 : decode cX10_orders 44 = .ok (.aload_n 0, 1) := by decide +kernel
theorem dX10_orders_45 : decode cX10_orders 45 = .ok (.getfield 33, 3) := by decide +kernel
theorem dX10_orders_48 : decode cX10_orders 48 = .ok (.aload_n 0, 1) := by decide +kernel
theorem dX10_orders_49 : decode cX10_orders 49 = .ok (.getfield 29, 3) := by decide +kernel
theorem dX10_orders_52 : decode cX10_orders 52 = .ok (.invokevirtual 206, 3) := by decide +kernel
theorem dX10_orders_55 : decode cX10_orders 55 = .ok (.aload_n 0, 1) := by decide +kernel
theorem dX10_orders_56 : decode cX10_orders 56 = .ok (.getfield 74, 3) := by decide +kernel
theorem dX10_orders_59 : decode cX10_orders 59 = .ok (.iconst 1, 1) := by decide +kernel
theorem dX10_orders_60 : decode cX10_orders 60 = .ok (.iconst 0, 1) := by decide +kernel
theorem dX10_orders_61 : decode cX10_orders 61 = .ok (.iastore, 1) := by decide +kernel
theorem dX10_orders_62 : decode cX10_orders 62 = .ok (.aload_n 0, 1) := by decide +kernel
theorem dX10_orders_63 : decode cX10_orders 63 = .ok (.getfield 74, 3) := by decide +kernel
theorem dX10_orders_66 : decode cX10_orders 66 = .ok (.iconst 2, 1) := by decide +kernel
theorem dX10_orders_67 : decode cX10_orders 67 = .ok (.iconst (-1), 1) := by decide +kernel
theorem dX10_orders_68 : decode cX10_orders 68 = .ok (.iastore, 1) := by decide +kernel
theorem dX10_orders_69 : decode cX10_orders 69 = .ok (.iconst 0, 1) := by decide +kernel
theorem dX10_orders_70 : decode cX10_orders 70 = .ok (.istore_n 2, 1) := by decide +kernel
theorem dX10_orders_71 : decode cX10_orders 71 = .ok (.iload_n 2, 1) := by decide +kernel
theorem dX10_orders_72 : decode cX10_orders 72 = .ok (.aload_n 1, 1) := by decide +kernel
theorem dX10_orders_73 : decode cX10_orders 73 = .ok (.getfield 209, 3) := by decide +kernel
theorem dX10_orders_76 : decode cX10_orders 76 = .ok (.if_icmp .ge 53, 3) := by decide +kernel
theorem dX10_orders_79 : decode cX10_orders 79 = .ok (.aload_n 1, 1) := by decide +kernel
theorem dX10_orders_80 : decode cX10_orders 80 = .ok (.getfield 212, 3) := by decide +kernel
theorem dX10_orders_83 : decode cX10_orders 83 = .ok (.iload_n 2, 1) := by decide +kernel
theorem dX10_orders_84 : decode cX10_orders 84 = .ok (.aaload, 1) := by decide +kernel
theorem dX10_orders_85 : decode cX10_orders 85 = .ok (.astore_n 3, 1) := by decide +kernel
theorem dX10_orders_86 : decode cX10_orders 86 = .ok (.iconst 0, 1) := by decide +kernel
theorem dX10_orders_87 : decode cX10_orders 87 = .ok (.istore 4, 2) := by decide +kernel
theorem dX10_orders_89 : decode cX10_orders 89 = .ok (.aload_n 3, 1) := by decide +kernel
theorem dX10_orders_90 : decode cX10_orders 90 = .ok (.ifnull 33, 3) := by decide +kernel
theorem dX10_orders_93 : decode cX10_orders 93 = .ok (.iload 4, 2) := by decide +kernel
theorem dX10_orders_95 : decode cX10_orders 95 = .ok (.aload_n 3, 1) := by decide +kernel
theorem dX10_orders_96 : decode cX10_orders 96 = .ok (.getfield 216, 3) := by decide +kernel
theorem dX10_orders_99 : decode cX10_orders 99 = .ok (.if_icmp .ge 24, 3) := by decide +kernel
theorem dX10_orders_102 : decode cX10_orders 102 = .ok (.aload_n 0, 1) := by decide +kernel
theorem dX10_orders_103 : decode cX10_orders 103 = .ok (.aload_n 1, 1) := by decide +kernel
theorem dX10_orders_104 : decode cX10_orders 104 = .ok (.aload_n 3, 1) := by decide +kernel
theorem dX10_orders_105 : decode cX10_orders 105 = .ok (.invokevirtual 221, 3) := by decide +kernel
theorem dX10_orders_108 : decode cX10_orders 108 = .ok (.ifCond .ne 9, 3) := by decide +kernel
theorem dX10_orders_111 : decode cX10_orders 111 = .ok (.aload_n 0, 1) := by decide +kernel
theorem dX10_orders_112 : decode cX10_orders 112 = .ok (.iload_n 2, 1) := by decide +kernel
theorem dX10_orders_113 : decode cX10_orders 113 = .ok (.invokevirtual 225, 3) := by decide +kernel
theorem dX10_orders_116 : decode cX10_orders 116 = .ok (.ireturn, 1) := by decide +kernel
theorem dX10_orders_117 : decode cX10_orders 117 = .ok (.iinc 4 1, 3) := by decide +kernel
theorem dX10_orders_120 : decode cX10_orders 120 = .ok (.goto (-31), 3) := by decide +kernel
theorem dX10_orders_123 : decode cX10_orders 123 = .ok (.iinc 2 1, 3) := by decide +kernel
theorem dX10_orders_126 : decode cX10_orders 126 = .ok (.goto (-55), 3) := by decide +kernel
theorem dX10_orders_129 : decode cX10_orders 129 = .ok (.aload_n 0, 1) := by decide +kernel
theorem dX10_orders_130 : decode cX10_orders 130 = .ok (.aload_n 0, 1) := by decide +kernel
theorem dX10_orders_131 : decode cX10_orders 131 = .ok (.getfield 74, 3) := by decide +kernel
theorem dX10_orders_134 : decode cX10_orders 134 = .ok (.iconst 1, 1) := by decide +kernel
theorem dX10_orders_135 : decode cX10_orders 135 = .ok (.iaload, 1) := by decide +kernel
theorem dX10_orders_136 : decode cX10_orders 136 = .ok (.invokevirtual 107, 3) := by decide +kernel
theorem dX10_orders_139 : decode cX10_orders 139 = .ok (.ireturn, 1) := by decide +kernel
theorem dX7_init_0 : decode cX7_init 0 = .ok (.aload_n 0, 1) := by decide +kernel
theorem dX7_init_1 : decode cX7_init 1 = .ok (.invokespecial 3, 3) := by decide +kernel
theorem dX7_init_4 : decode cX7_init 4 = .ok (.aload_n 0, 1) := by decide +kernel
theorem dX7_init_5 : decode cX7_init 5 = .ok (.bipush 10, 2) := by decide +kernel
theorem dX7_init_7 : decode cX7_init 7 = .ok (.newarray .int, 2) := by decide +kernel
theorem dX7_init_9 : decode cX7_init 9 = .ok (.putfield 9, 3) := by decide +kernel
theorem dX7_init_12 : decode cX7_init 12 = .ok (.aload_n 0, 1) := by decide +kernel
theorem dX7_init_13 : decode cX7_init 13 = .ok (.bipush 10, 2) := by decide +kernel
theorem dX7_init_15 : decode cX7_init 15 = .ok (.newarray .int, 2) := by decide +kernel
theorem dX7_init_17 : decode cX7_init 17 = .ok (.putfield 15, 3) := by decide +kernel
theorem dX7_init_20 : decode cX7_init 20 = .ok (.aload_n 0, 1) := by decide +kernel
theorem dX7_init_21 : decode cX7_init 21 = .ok (.bipush 10, 2) := by decide +kernel
theorem dX7_init_23 : decode cX7_init 23 = .ok (.newarray .int, 2) := by decide +kernel
theorem dX7_init_25 : decode cX7_init 25 = .ok (.putfield 18, 3) := by decide +kernel
theorem dX7_init_28 : decode cX7_init 28 = .ok (.aload_n 0, 1) := by decide +kernel
theorem dX7_init_29 : decode cX7_init 29 = .ok (.bipush 10, 2) := by decide +kernel
theorem dX7_init_31 : decode cX7_init 31 = .ok (.newarray .int, 2) := by decide +kernel
theorem dX7_init_33 : decode cX7_init 33 = .ok (.putfield 21, 3) := by decide +kernel
theorem dX7_init_36 : decode cX7_init 36 = .ok (.aload_n 0, 1) := by decide +kernel
theorem dX7_init_37 : decode cX7_init 37 = .ok (.bipush 10, 2) := by decide +kernel
theorem dX7_init_39 : decode cX7_init 39 = .ok (.newarray .int, 2) := by decide +kernel
theorem dX7_init_41 : decode cX7_init 41 = .ok (.putfield 24, 3) := by decide +kernel
theorem dX7_init_44 : decode cX7_init 44 = .ok (.aload_n 0, 1) := by decide +kernel
theorem dX7_init_45 : decode cX7_init 45 = .ok (.iconst 4, 1) := by decide +kernel
theorem dX7_init_46 : decode cX7_init 46 = .ok (.newarray .int, 2) := by decide +kernel
theorem dX7_init_48 : decode cX7_init 48 = .ok (.putfield 27, 3) := by decide +kernel
theorem dX7_init_51 : decode cX7_init 51 = .ok (.aload_n 0, 1) := by decide +kernel
theorem dX7_init_52 : decode cX7_init 52 = .ok (.iconst 4, 1) := by decide +kernel
theorem dX7_init_53 : decode cX7_init 53 = .ok (.newarray .int, 2) := by decide +kernel
theorem dX7_init_55 : decode cX7_init 55 = .ok (.putfield 30, 3) := by decide +kernel
theorem dX7_init_58 : decode cX7_init 58 = .ok (.aload_n 0, 1) := by decide +kernel
theorem dX7_init_59 : decode cX7_init 59 = .ok (.iconst 4, 1) := by decide +kernel
theorem dX7_init_60 : decode cX7_init 60 = .ok (.newarray .int, 2) := by decide +kernel
theorem dX7_init_62 : decode cX7_init 62 = .ok (.putfield 33, 3) := by decide +kernel
theorem dX7_init_65 : decode cX7_init 65 = .ok (.aload_n 0, 1) := by decide +kernel
theorem dX7_init_66 : decode cX7_init 66 = .ok (.bipush 6, 2) := by decide +kernel
theorem dX7_init_68 : decode cX7_init 68 = .ok (.newarray .int, 2) := by decide +kernel
theorem dX7_init_70 : decode cX7_init 70 = .ok (.putfield 36, 3) := by decide +kernel
theorem dX7_init_73 : decode cX7_init 73 = .ok (.aload_n 0, 1) := by decide +kernel
theorem dX7_init_74 : decode cX7_init 74 = .ok (.iconst 3, 1) := by decide +kernel
theorem dX7_init_75 : decode cX7_init 75 = .ok (.newarray .int, 2) := by decide +kernel
theorem dX7_init_77 : decode cX7_init 77 = .ok (.dup, 1) := by decide +kernel
theorem dX7_init_78 : decode cX7_init 78 = .ok (.iconst 0, 1) := by decide +kernel
theorem dX7_init_79 : decode cX7_init 79 = .ok (.iconst 0, 1) := by decide +kernel
theorem dX7_init_80 : decode cX7_init 80 = .ok (.iastore, 1) := by decide +kernel
theorem dX7_init_81 : decode cX7_init 81 = .ok (.dup, 1) := by decide +kernel
theorem dX7_init_82 : decode cX7_init 82 = .ok (.iconst 1, 1) := by decide +kernel
theorem dX7_init_83 : decode cX7_init 83 = .ok (.iconst 1, 1) := by decide +kernel
theorem dX7_init_84 : decode cX7_init 84 = .ok (.iastore, 1) := by decide +kernel
theorem dX7_init_85 : decode cX7_init 85 = .ok (.dup, 1) := by decide +kernel
theorem dX7_init_86 : decode cX7_init 86 = .ok (.iconst 2, 1) := by decide +kernel
theorem dX7_init_87 : decode cX7_init 87 = .ok (.iconst 0, 1) := by decide +kernel
theorem dX7_init_88 : decode cX7_init 88 = .ok (.iastore, 1) := by decide +kernel
theorem dX7_init_89 : decode cX7_init 89 = .ok (.putfield 39, 3) := by decide +kernel
theorem dX7_init_92 : decode cX7_init 92 = .ok (.aload_n 0, 1) := by decide +kernel
theorem dX7_init_93 : decode cX7_init 93 = .ok (.bipush 6, 2) := by decide +kernel
theorem dX7_init_95 : decode cX7_init 95 = .ok (.anewarray 42, 3) := by decide +kernel
theorem dX7_init_98 : decode cX7_init 98 = .ok (.putfield 44, 3) := by decide +kernel
theorem dX7_init_101 : decode cX7_init 101 = .ok (.aload_n 0, 1) := by decide +kernel
theorem dX7_init_102 : decode cX7_init 102 = .ok (.iconst (-1), 1) := by decide +kernel
theorem dX7_init_103 : decode cX7_init 103 = .ok (.putfield 48, 3) := by decide +kernel
theorem dX7_init_106 : decode cX7_init 106 = .ok (.return_, 1) := by decide +kernel
theorem dX10_image_0 : decode cX10_image 0 = .ok (.iload_n 1, 1) := by decide +kernel
theorem dX10_image_1 : decode cX10_image 1 = .ok (.ifCond .lt 12, 3) := by decide +kernel
theorem dX10_image_4 : decode cX10_image 4 = .ok (.iload_n 1, 1) := by decide +kernel
theorem dX10_image_5 : decode cX10_image 5 = .ok (.aload_n 0, 1) := by decide +kernel
theorem dX10_image_6 : decode cX10_image 6 = .ok (.getfield 22, 3) := by decide +kernel
theorem dX10_image_9 : decode cX10_image 9 = .ok (.arraylength, 1) := by decide +kernel
theorem dX10_image_10 : decode cX10_image 10 = .ok (.if_icmp .lt 9, 3) := by decide +kernel
theorem dX10_image_13 : decode cX10_image 13 = .ok (.aload_n 0, 1) := by decide +kernel
theorem dX10_image_14 : decode cX10_image 14 = .ok (.iconst (-1), 1) := by decide +kernel
theorem dX10_image_15 : decode cX10_image 15 = .ok (.invokevirtual 93, 3) := by decide +kernel
theorem dX10_image_18 : decode cX10_image 18 = .ok (.ireturn, 1) := by decide +kernel
theorem dX10_image_19 : decode cX10_image 19 = .ok (.aload_n 0, 1) := by decide +kernel
theorem dX10_image_20 : decode cX10_image 20 = .ok (.getfield 22, 3) := by decide +kernel
theorem dX10_image_23 : decode cX10_image 23 = .ok (.iload_n 1, 1) := by decide +kernel
theorem dX10_image_24 : decode cX10_image 24 = .ok (.aaload, 1) := by decide +kernel
theorem dX10_image_25 : decode cX10_image 25 = .ok (.astore_n 2, 1) := by decide +kernel
theorem dX10_image_26 : decode cX10_image 26 = .ok (.aload_n 2, 1) := by decide +kernel
theorem dX10_image_27 : decode cX10_image 27 = .ok (.ifnonnull 18, 3) := by decide +kernel
theorem dX10_image_30 : decode cX10_image 30 = .ok (.new 9, 3) := by decide +kernel
theorem dX10_image_33 : decode cX10_image 33 = .ok (.dup, 1) := by decide +kernel
theorem dX10_image_34 : decode cX10_image 34 = .ok (.invokespecial 11, 3) := by decide +kernel
theorem dX10_image_37 : decode cX10_image 37 = .ok (.astore_n 2, 1) := by decide +kernel
theorem dX10_image_38 : decode cX10_image 38 = .ok (.aload_n 0, 1) := by decide +kernel
theorem dX10_image_39 : decode cX10_image 39 = .ok (.getfield 22, 3) := by decide +kernel
theorem dX10_image_42 : decode cX10_image 42 = .ok (.iload_n 1, 1) := by decide +kernel
theorem dX10_image_43 : decode cX10_image 43 = .ok (.aload_n 2, 1) := by decide +kernel
theorem dX10_image_44 : decode cX10_image 44 = .ok (.aastore, 1) := by decide +kernel
theorem dX10_image_45 : decode cX10_image 45 = .ok (.aload_n 2, 1) := by decide +kernel
theorem dX10_image_46 : decode cX10_image 46 = .ok (.aload_n 0, 1) := by decide +kernel
theorem dX10_image_47 : decode cX10_image 47 = .ok (.getfield 12, 3) := by decide +kernel
theorem dX10_image_50 : decode cX10_image 50 = .ok (.invokevirtual 202, 3) := by decide +kernel
theorem dX10_image_53 : decode cX10_image 53 = .ok (.aload_n 0, 1) := by decide +kernel
theorem dX10_image_54 : decode cX10_image 54 = .ok (.iconst 0, 1) := by decide +kernel
theorem dX10_image_55 : decode cX10_image 55 = .ok (.invokevirtual 107, 3) := by decide +kernel
theorem dX10_image_58 : decode cX10_image 58 = .ok (.ireturn, 1) := by decide +kernel
