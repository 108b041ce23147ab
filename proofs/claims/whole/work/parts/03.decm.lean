theorem dX11_in_0 : decode cX11_in 0 = .ok (.lload_n 0, 1) := by decide +kernel
theorem dX11_in_1 : decode cX11_in 1 = .ok (.lload_n 2, 1) := by decide +kernel
theorem dX11_in_2 : decode cX11_in 2 = .ok (.lcmp, 1) := by decide +kernel
theorem dX11_in_3 : decode cX11_in 3 = .ok (.ifCond .lt 14, 3) := by decide +kernel
theorem dX11_in_6 : decode cX11_in 6 = .ok (.lload_n 0, 1) := by decide +kernel
theorem dX11_in_7 : decode cX11_in 7 = .ok (.lload 4, 2) := by decide +kernel
theorem dX11_in_9 : decode cX11_in 9 = .ok (.lcmp, 1) := by decide +kernel
theorem dX11_in_10 : decode cX11_in 10 = .ok (.ifCond .gt 7, 3) := by decide +kernel
theorem dX11_in_13 : decode cX11_in 13 = .ok (.iconst 1, 1) := by decide +kernel
theorem dX11_in_14 : decode cX11_in 14 = .ok (.goto 4, 3) := by decide +kernel
theorem dX11_in_17 : decode cX11_in 17 = .ok (.iconst 0, 1) := by decide +kernel
theorem dX11_in_18 : decode cX11_in 18 = .ok (.ireturn, 1) := by decide +kernel
theorem dX11_is_0 : decode cX11_is 0 = .ok (.iload_n 0, 1) := by decide +kernel
theorem dX11_is_1 : decode cX11_is 1 = .ok (.iload_n 1, 1) := by decide +kernel
theorem dX11_is_2 : decode cX11_is 2 = .ok (.ishr, 1) := by decide +kernel
theorem dX11_is_3 : decode cX11_is 3 = .ok (.iconst 1, 1) := by decide +kernel
theorem dX11_is_4 : decode cX11_is 4 = .ok (.iand, 1) := by decide +kernel
theorem dX11_is_5 : decode cX11_is 5 = .ok (.iconst 1, 1) := by decide +kernel
theorem dX11_is_6 : decode cX11_is 6 = .ok (.if_icmp .ne 7, 3) := by decide +kernel
theorem dX11_is_9 : decode cX11_is 9 = .ok (.iconst 1, 1) := by decide +kernel
theorem dX11_is_10 : decode cX11_is 10 = .ok (.goto 4, 3) := by decide +kernel
theorem dX11_is_13 : decode cX11_is 13 = .ok (.iconst 0, 1) := by decide +kernel
theorem dX11_is_14 : decode cX11_is 14 = .ok (.ireturn, 1) := by decide +kernel
theorem dX11_ones_0 : decode cX11_ones 0 = .ok (.iconst 0, 1) := by decide +kernel
theorem dX11_ones_1 : decode cX11_ones 1 = .ok (.istore_n 1, 1) := by decide +kernel
theorem dX11_ones_2 : decode cX11_ones 2 = .ok (.iconst 0, 1) := by decide +kernel
theorem dX11_ones_3 : decode cX11_ones 3 = .ok (.istore_n 2, 1) := by decide +kernel
theorem dX11_ones_4 : decode cX11_ones 4 = .ok (.iload_n 2, 1) := by decide +kernel
theorem dX11_ones_5 : decode cX11_ones 5 = .ok (.bipush 8, 2) := by decide +kernel
theorem dX11_ones_7 : decode cX11_ones 7 = .ok (.if_icmp .ge 17, 3) := by decide +kernel
theorem dX11_ones_10 : decode cX11_ones 10 = .ok (.iload_n 1, 1) := by decide +kernel
theorem dX11_ones_11 : decode cX11_ones 11 = .ok (.iload_n 0, 1) := by decide +kernel
theorem dX11_ones_12 : decode cX11_ones 12 = .ok (.iload_n 2, 1) := by decide +kernel
theorem dX11_ones_13 : decode cX11_ones 13 = .ok (.ishr, 1) := by decide +kernel
theorem dX11_ones_14 : decode cX11_ones 14 = .ok (.iconst 1, 1) := by decide +kernel
theorem dX11_ones_15 : decode cX11_ones 15 = .ok (.iand, 1) := by decide +kernel
theorem dX11_ones_16 : decode cX11_ones 16 = .ok (.iadd, 1) := by decide +kernel
theorem dX11_ones_17 : decode cX11_ones 17 = .ok (.istore_n 1, 1) := by decide +kernel
theorem dX11_ones_18 : decode cX11_ones 18 = .ok (.iinc 2 1, 3) := by decide +kernel
theorem dX11_ones_21 : decode cX11_ones 21 = .ok (.goto (-17), 3) := by decide +kernel
theorem dX11_ones_24 : decode cX11_ones 24 = .ok (.iload_n 1, 1) := by decide +kernel
theorem dX11_ones_25 : decode cX11_ones 25 = .ok (.ireturn, 1) := by decide +kernel
theorem dX11_bounded_0 : decode cX11_bounded 0 = .ok (.lload_n 0, 1) := by decide +kernel
theorem dX11_bounded_1 : decode cX11_bounded 1 = .ok (.iload_n 2, 1) := by decide +kernel
theorem dX11_bounded_2 : decode cX11_bounded 2 = .ok (.i2l, 1) := by decide +kernel
theorem dX11_bounded_3 : decode cX11_bounded 3 = .ok (.lcmp, 1) := by decide +kernel
theorem dX11_bounded_4 : decode cX11_bounded 4 = .ok (.ifCond .ge 7, 3) := by decide +kernel
theorem dX11_bounded_7 : decode cX11_bounded 7 = .ok (.iload_n 2, 1) := by decide +kernel
theorem dX11_bounded_8 : decode cX11_bounded 8 = .ok (.goto 16, 3) := by decide +kernel
theorem dX11_bounded_11 : decode cX11_bounded 11 = .ok (.lload_n 0, 1) := by decide +kernel
theorem dX11_bounded_12 : decode cX11_bounded 12 = .ok (.iload_n 3, 1) := by decide +kernel
theorem dX11_bounded_13 : decode cX11_bounded 13 = .ok (.i2l, 1) := by decide +kernel
theorem dX11_bounded_14 : decode cX11_bounded 14 = .ok (.lcmp, 1) := by decide +kernel
theorem dX11_bounded_15 : decode cX11_bounded 15 = .ok (.ifCond .le 7, 3) := by decide +kernel
theorem dX11_bounded_18 : decode cX11_bounded 18 = .ok (.iload_n 3, 1) := by decide +kernel
theorem dX11_bounded_19 : decode cX11_bounded 19 = .ok (.goto 5, 3) := by decide +kernel
theorem dX11_bounded_22 : decode cX11_bounded 22 = .ok (.lload_n 0, 1) := by decide +kernel
theorem dX11_bounded_23 : decode cX11_bounded 23 = .ok (.l2i, 1) := by decide +kernel
theorem dX11_bounded_24 : decode cX11_bounded 24 = .ok (.ireturn, 1) := by decide +kernel
theorem dX11_tell_0 : decode cX11_tell 0 = .ok (.aload_n 0, 1) := by decide +kernel
theorem dX11_tell_1 : decode cX11_tell 1 = .ok (.iload_n 1, 1) := by decide +kernel
theorem dX11_tell_2 : decode cX11_tell 2 = .ok (.ifCond .ge 7, 3) := by decide +kernel
theorem dX11_tell_5 : decode cX11_tell 5 = .ok (.iload_n 1, 1) := by decide +kernel
theorem dX11_tell_6 : decode cX11_tell 6 = .ok (.goto 4, 3) := by decide +kernel
theorem dX11_tell_9 : decode cX11_tell 9 = .ok (.iconst 0, 1) := by decide +kernel
theorem dX11_tell_10 : decode cX11_tell 10 = .ok (.putfield 162, 3) := by decide +kernel
theorem dX11_tell_13 : decode cX11_tell 13 = .ok (.iload_n 1, 1) := by decide +kernel
theorem dX11_tell_14 : decode cX11_tell 14 = .ok (.ifCond .ge 14, 3) := by decide +kernel
theorem dX11_tell_17 : decode cX11_tell 17 = .ok (.aload_n 0, 1) := by decide +kernel
theorem dX11_tell_18 : decode cX11_tell 18 = .ok (.getfield 7, 3) := by decide +kernel
theorem dX11_tell_21 : decode cX11_tell 21 = .ok (.iload_n 1, 1) := by decide +kernel
theorem dX11_tell_22 : decode cX11_tell 22 = .ok (.ineg, 1) := by decide +kernel
theorem dX11_tell_23 : decode cX11_tell 23 = .ok (.dup2, 1) := by decide +kernel
theorem dX11_tell_24 : decode cX11_tell 24 = .ok (.iaload, 1) := by decide +kernel
theorem dX11_tell_25 : decode cX11_tell 25 = .ok (.iconst 1, 1) := by decide +kernel
theorem dX11_tell_26 : decode cX11_tell 26 = .ok (.iadd, 1) := by decide +kernel
theorem dX11_tell_27 : decode cX11_tell 27 = .ok (.iastore, 1) := by decide +kernel
theorem dX11_tell_28 : decode cX11_tell 28 = .ok (.iload_n 1, 1) := by decide +kernel
theorem dX11_tell_29 : decode cX11_tell 29 = .ok (.ireturn, 1) := by decide +kernel
theorem dX11_change_0 : decode cX11_change 0 = .ok (.aload_n 0, 1) := by decide +kernel
theorem dX11_change_1 : decode cX11_change 1 = .ok (.getfield 13, 3) := by decide +kernel
theorem dX11_change_4 : decode cX11_change 4 = .ok (.iload_n 1, 1) := by decide +kernel
theorem dX11_change_5 : decode cX11_change 5 = .ok (.iaload, 1) := by decide +kernel
theorem dX11_change_6 : decode cX11_change 6 = .ok (.istore_n 3, 1) := by decide +kernel
theorem dX11_change_7 : decode cX11_change 7 = .ok (.aload_n 0, 1) := by decide +kernel
theorem dX11_change_8 : decode cX11_change 8 = .ok (.getfield 13, 3) := by decide +kernel
theorem dX11_change_11 : decode cX11_change 11 = .ok (.iload_n 1, 1) := by decide +kernel
theorem dX11_change_12 : decode cX11_change 12 = .ok (.iload_n 2, 1) := by decide +kernel
theorem dX11_change_13 : decode cX11_change 13 = .ok (.iastore, 1) := by decide +kernel
theorem dX11_change_14 : decode cX11_change 14 = .ok (.aload_n 0, 1) := by decide +kernel
theorem dX11_change_15 : decode cX11_change 15 = .ok (.iconst 0, 1) := by decide +kernel
theorem dX11_change_16 : decode cX11_change 16 = .ok (.putfield 162, 3) := by decide +kernel
theorem dX11_change_19 : decode cX11_change 19 = .ok (.iload_n 3, 1) := by decide +kernel
theorem dX11_change_20 : decode cX11_change 20 = .ok (.ireturn, 1) := by decide +kernel
theorem dX11_lasting_0 : decode cX11_lasting 0 = .ok (.aload_n 0, 1) := by decide +kernel
theorem dX11_lasting_1 : decode cX11_lasting 1 = .ok (.iload_n 1, 1) := by decide +kernel
theorem dX11_lasting_2 : decode cX11_lasting 2 = .ok (.ifCond .ge 10, 3) := by decide +kernel
theorem dX11_lasting_5 : decode cX11_lasting 5 = .ok (.aload_n 0, 1) := by decide +kernel
theorem dX11_lasting_6 : decode cX11_lasting 6 = .ok (.getfield 165, 3) := by decide +kernel
theorem dX11_lasting_9 : decode cX11_lasting 9 = .ok (.goto 4, 3) := by decide +kernel
theorem dX11_lasting_12 : decode cX11_lasting 12 = .ok (.iconst 0, 1) := by decide +kernel
theorem dX11_lasting_13 : decode cX11_lasting 13 = .ok (.putfield 165, 3) := by decide +kernel
theorem dX11_lasting_16 : decode cX11_lasting 16 = .ok (.aload_n 0, 1) := by decide +kernel
theorem dX11_lasting_17 : decode cX11_lasting 17 = .ok (.iload_n 1, 1) := by decide +kernel
theorem dX11_lasting_18 : decode cX11_lasting 18 = .ok (.invokevirtual 168, 3) := by decide +kernel
theorem dX11_lasting_21 : decode cX11_lasting 21 = .ok (.ireturn, 1) := by decide +kernel
theorem dX11_keepAll_0 : decode cX11_keepAll 0 = .ok (.iconst 0, 1) := by decide +kernel
theorem dX11_keepAll_1 : decode cX11_keepAll 1 = .ok (.istore_n 2, 1) := by decide +kernel
theorem dX11_keepAll_2 : decode cX11_keepAll 2 = .ok (.iload_n 2, 1) := by decide +kernel
theorem dX11_keepAll_3 : decode cX11_keepAll 3 = .ok (.bipush 21, 2) := by decide +kernel
theorem dX11_keepAll_5 : decode cX11_keepAll 5 = .ok (.if_icmp .ge 28, 3) := by decide +kernel
theorem dX11_keepAll_8 : decode cX11_keepAll 8 = .ok (.aload_n 0, 1) := by decide +kernel
theorem dX11_keepAll_9 : decode cX11_keepAll 9 = .ok (.getfield 23, 3) := by decide +kernel
theorem dX11_keepAll_12 : decode cX11_keepAll 12 = .ok (.bipush 21, 2) := by decide +kernel
theorem dX11_keepAll_14 : decode cX11_keepAll 14 = .ok (.iload_n 1, 1) := by decide +kernel
theorem dX11_keepAll_15 : decode cX11_keepAll 15 = .ok (.imul, 1) := by decide +kernel
theorem dX11_keepAll_16 : decode cX11_keepAll 16 = .ok (.iload_n 2, 1) := by decide +kernel
theorem dX11_keepAll_17 : decode cX11_keepAll 17 = .ok (.iadd, 1) := by decide +kernel
theorem dX11_keepAll_18 : decode cX11_keepAll 18 = .ok (.aload_n 0, 1) := by decide +kernel
theorem dX11_keepAll_19 : decode cX11_keepAll 19 = .ok (.getfield 13, 3) := by decide +kernel
theorem dX11_keepAll_22 : decode cX11_keepAll 22 = .ok (.iconst 5, 1) := by decide +kernel
theorem dX11_keepAll_23 : decode cX11_keepAll 23 = .ok (.iload_n 2, 1) := by decide +kernel
theorem dX11_keepAll_24 : decode cX11_keepAll 24 = .ok (.iadd, 1) := by decide +kernel
theorem dX11_keepAll_25 : decode cX11_keepAll 25 = .ok (.iaload, 1) := by decide +kernel
theorem dX11_keepAll_26 : decode cX11_keepAll 26 = .ok (.iastore, 1) := by decide +kernel
theorem dX11_keepAll_27 : decode cX11_keepAll 27 = .ok (.iinc 2 1, 3) := by decide +kernel
theorem dX11_keepAll_30 : decode cX11_keepAll 30 = .ok (.goto (-28), 3) := by decide +kernel
theorem dX11_keepAll_33 : decode cX11_keepAll 33 = .ok (.return_, 1) := by decide +kernel
theorem dX11_putBack_0 : decode cX11_putBack 0 = .ok (.iconst 0, 1) := by decide +kernel
theorem dX11_putBack_1 : decode cX11_putBack 1 = .ok (.istore_n 2, 1) := by decide +kernel
theorem dX11_putBack_2 : decode cX11_putBack 2 = .ok (.iload_n 2, 1) := by decide +kernel
theorem dX11_putBack_3 : decode cX11_putBack 3 = .ok (.bipush 21, 2) := by decide +kernel
theorem dX11_putBack_5 : decode cX11_putBack 5 = .ok (.if_icmp .ge 28, 3) := by decide +kernel
theorem dX11_putBack_8 : decode cX11_putBack 8 = .ok (.aload_n 0, 1) := by decide +kernel
theorem dX11_putBack_9 : decode cX11_putBack 9 = .ok (.getfield 13, 3) := by decide +kernel
theorem dX11_putBack_12 : decode cX11_putBack 12 = .ok (.iconst 5, 1) := by decide +kernel
theorem dX11_putBack_13 : decode cX11_putBack 13 = .ok (.iload_n 2, 1) := by decide +kernel
theorem dX11_putBack_14 : decode cX11_putBack 14 = .ok (.iadd, 1) := by decide +kernel
theorem dX11_putBack_15 : decode cX11_putBack 15 = .ok (.aload_n 0, 1) := by decide +kernel
theorem dX11_putBack_16 : decode cX11_putBack 16 = .ok (.getfield 23, 3) := by decide +kernel
theorem dX11_putBack_19 : decode cX11_putBack 19 = .ok (.bipush 21, 2) := by decide +kernel
theorem dX11_putBack_21 : decode cX11_putBack 21 = .ok (.iload_n 1, 1) := by decide +kernel
theorem dX11_putBack_22 : decode cX11_putBack 22 = .ok (.imul, 1) := by decide +kernel
theorem dX11_putBack_23 : decode cX11_putBack 23 = .ok (.iload_n 2, 1) := by decide +kernel
theorem dX11_putBack_24 : decode cX11_putBack 24 = .ok (.iadd, 1) := by decide +kernel
theorem dX11_putBack_25 : decode cX11_putBack 25 = .ok (.iaload, 1) := by decide +kernel
theorem dX11_putBack_26 : decode cX11_putBack 26 = .ok (.iastore, 1) := by decide +kernel
theorem dX11_putBack_27 : decode cX11_putBack 27 = .ok (.iinc 2 1, 3) := by decide +kernel
theorem dX11_putBack_30 : decode cX11_putBack 30 = .ok (.goto (-28), 3) := by decide +kernel
theorem dX11_putBack_33 : decode cX11_putBack 33 = .ok (.return_, 1) := by decide +kernel
theorem dX11_remember_0 : decode cX11_remember 0 = .ok (.aload_n 0, 1) := by decide +kernel
theorem dX11_remember_1 : decode cX11_remember 1 = .ok (.getfield 165, 3) := by decide +kernel
theorem dX11_remember_4 : decode cX11_remember 4 = .ok (.bipush 16, 2) := by decide +kernel
theorem dX11_remember_6 : decode cX11_remember 6 = .ok (.if_icmp .ne 71, 3) := by decide +kernel
theorem dX11_remember_9 : decode cX11_remember 9 = .ok (.iconst 0, 1) := by decide +kernel
theorem dX11_remember_10 : decode cX11_remember 10 = .ok (.istore_n 2, 1) := by decide +kernel
theorem dX11_remember_11 : decode cX11_remember 11 = .ok (.iload_n 2, 1) := by decide +kernel
theorem dX11_remember_12 : decode cX11_remember 12 = .ok (.sipush 315, 3) := by decide +kernel
theorem dX11_remember_15 : decode cX11_remember 15 = .ok (.if_icmp .ge 24, 3) := by decide +kernel
theorem dX11_remember_18 : decode cX11_remember 18 = .ok (.aload_n 0, 1) := by decide +kernel
theorem dX11_remember_19 : decode cX11_remember 19 = .ok (.getfield 23, 3) := by decide +kernel
theorem dX11_remember_22 : decode cX11_remember 22 = .ok (.iload_n 2, 1) := by decide +kernel
theorem dX11_remember_23 : decode cX11_remember 23 = .ok (.aload_n 0, 1) := by decide +kernel
theorem dX11_remember_24 : decode cX11_remember 24 = .ok (.getfield 23, 3) := by decide +kernel
theorem dX11_remember_27 : decode cX11_remember 27 = .ok (.iload_n 2, 1) := by decide +kernel
theorem dX11_remember_28 : decode cX11_remember 28 = .ok (.bipush 21, 2) := by decide +kernel
theorem dX11_remember_30 : decode cX11_remember 30 = .ok (.iadd, 1) := by decide +kernel
theorem dX11_remember_31 : decode cX11_remember 31 = .ok (.iaload, 1) := by decide +kernel
theorem dX11_remember_32 : decode cX11_remember 32 = .ok (.iastore, 1) := by decide +kernel
theorem dX11_remember_33 : decode cX11_remember 33 = .ok (.iinc 2 1, 3) := by decide +kernel
theorem dX11_remember_36 : decode cX11_remember 36 = .ok (.goto (-25), 3) := by decide +kernel
theorem dX11_remember_39 : decode cX11_remember 39 = .ok (.iconst 0, 1) := by decide +kernel
theorem dX11_remember_40 : decode cX11_remember 40 = .ok (.istore_n 2, 1) := by decide +kernel
theorem dX11_remember_41 : decode cX11_remember 41 = .ok (.iload_n 2, 1) := by decide +kernel
theorem dX11_remember_42 : decode cX11_remember 42 = .ok (.bipush 15, 2) := by decide +kernel
theorem dX11_remember_44 : decode cX11_remember 44 = .ok (.if_icmp .ge 23, 3) := by decide +kernel
theorem dX11_remember_47 : decode cX11_remember 47 = .ok (.aload_n 0, 1) := by decide +kernel
theorem dX11_remember_48 : decode cX11_remember 48 = .ok (.getfield 26, 3) := by decide +kernel
theorem dX11_remember_51 : decode cX11_remember 51 = .ok (.iload_n 2, 1) := by decide +kernel
theorem dX11_remember_52 : decode cX11_remember 52 = .ok (.aload_n 0, 1) := by decide +kernel
theorem dX11_remember_53 : decode cX11_remember 53 = .ok (.getfield 26, 3) := by decide +kernel
theorem dX11_remember_56 : decode cX11_remember 56 = .ok (.iload_n 2, 1) := by decide +kernel
theorem dX11_remember_57 : decode cX11_remember 57 = .ok (.iconst 1, 1) := by decide +kernel
theorem dX11_remember_58 : decode cX11_remember 58 = .ok (.iadd, 1) := by decide +kernel
theorem dX11_remember_59 : decode cX11_remember 59 = .ok (.iaload, 1) := by decide +kernel
theorem dX11_remember_60 : decode cX11_remember 60 = .ok (.iastore, 1) := by decide +kernel
theorem dX11_remember_61 : decode cX11_remember 61 = .ok (.iinc 2 1, 3) := by decide +kernel
theorem dX11_remember_64 : decode cX11_remember 64 = .ok (.goto (-23), 3) := by decide +kernel
theorem dX11_remember_67 : decode cX11_remember 67 = .ok (.aload_n 0, 1) := by decide +kernel
theorem dX11_remember_68 : decode cX11_remember 68 = .ok (.dup, 1) := by decide +kernel
theorem dX11_remember_69 : decode cX11_remember 69 = .ok (.getfield 165, 3) := by decide +kernel
theorem dX11_remember_72 : decode cX11_remember 72 = .ok (.iconst 1, 1) := by decide +kernel
theorem dX11_remember_73 : decode cX11_remember 73 = .ok (.isub, 1) := by decide +kernel
theorem dX11_remember_74 : decode cX11_remember 74 = .ok (.putfield 165, 3) := by decide +kernel
theorem dX11_remember_77 : decode cX11_remember 77 = .ok (.aload_n 0, 1) := by decide +kernel
theorem dX11_remember_78 : decode cX11_remember 78 = .ok (.aload_n 0, 1) := by decide +kernel
theorem dX11_remember_79 : decode cX11_remember 79 = .ok (.getfield 165, 3) := by decide +kernel
theorem dX11_remember_82 : decode cX11_remember 82 = .ok (.invokevirtual 172, 3) := by decide +kernel
theorem dX11_remember_85 : decode cX11_remember 85 = .ok (.aload_n 0, 1) := by decide +kernel
theorem dX11_remember_86 : decode cX11_remember 86 = .ok (.getfield 26, 3) := by decide +kernel
theorem dX11_remember_89 : decode cX11_remember 89 = .ok (.aload_n 0, 1) := by decide +kernel
theorem dX11_remember_90 : decode cX11_remember 90 = .ok (.getfield 165, 3) := by decide +kernel
theorem dX11_remember_93 : decode cX11_remember 93 = .ok (.iload_n 1, 1) := by decide +kernel
theorem dX11_remember_94 : decode cX11_remember 94 = .ok (.iastore, 1) := by decide +kernel
theorem dX11_remember_95 : decode cX11_remember 95 = .ok (.aload_n 0, 1) := by decide +kernel
theorem dX11_remember_96 : decode cX11_remember 96 = .ok (.dup, 1) := by decide +kernel
theorem dX11_remember_97 : decode cX11_remember 97 = .ok (.getfield 165, 3) := by decide +kernel
theorem dX11_remember_100 : decode cX11_remember 100 = .ok (.iconst 1, 1) := by decide +kernel
theorem dX11_remember_101 : decode cX11_remember 101 = .ok (.iadd, 1) := by decide +kernel
theorem dX11_remember_102 : decode cX11_remember 102 = .ok (.putfield 165, 3) := by decide +kernel
theorem dX11_remember_105 : decode cX11_remember 105 = .ok (.return_, 1) := by decide +kernel
theorem dX11_undo_0 : decode cX11_undo 0 = .ok (.aload_n 0, 1) := by decide +kernel
theorem dX11_undo_1 : decode cX11_undo 1 = .ok (.iconst 0, 1) := by decide +kernel
theorem dX11_undo_2 : decode cX11_undo 2 = .ok (.putfield 159, 3) := by decide +kernel
theorem dX11_undo_5 : decode cX11_undo 5 = .ok (.aload_n 0, 1) := by decide +kernel
theorem dX11_undo_6 : decode cX11_undo 6 = .ok (.getfield 165, 3) := by decide +kernel
theorem dX11_undo_9 : decode cX11_undo 9 = .ok (.ifCond .ne 10, 3) := by decide +kernel
theorem dX11_undo_12 : decode cX11_undo 12 = .ok (.aload_n 0, 1) := by decide +kernel
theorem dX11_undo_13 : decode cX11_undo 13 = .ok (.bipush (-3), 2) := by decide +kernel
theorem dX11_undo_15 : decode cX11_undo 15 = .ok (.invokevirtual 168, 3) := by decide +kernel
theorem dX11_undo_18 : decode cX11_undo 18 = .ok (.ireturn, 1) := by decide +kernel
theorem dX11_undo_19 : decode cX11_undo 19 = .ok (.aload_n 0, 1) := by decide +kernel
theorem dX11_undo_20 : decode cX11_undo 20 = .ok (.dup, 1) := by decide +kernel
theorem dX11_undo_21 : decode cX11_undo 21 = .ok (.getfield 165, 3) := by decide +kernel
theorem dX11_undo_24 : decode cX11_undo 24 = .ok (.iconst 1, 1) := by decide +kernel
theorem dX11_undo_25 : decode cX11_undo 25 = .ok (.isub, 1) := by decide +kernel
theorem dX11_undo_26 : decode cX11_undo 26 = .ok (.putfield 165, 3) := by decide +kernel
theorem dX11_undo_29 : decode cX11_undo 29 = .ok (.aload_n 0, 1) := by decide +kernel
theorem dX11_undo_30 : decode cX11_undo 30 = .ok (.aload_n 0, 1) := by decide +kernel
theorem dX11_undo_31 : decode cX11_undo 31 = .ok (.getfield 165, 3) := by decide +kernel
theorem dX11_undo_34 : decode cX11_undo 34 = .ok (.invokevirtual 176, 3) := by decide +kernel
theorem dX11_undo_37 : decode cX11_undo 37 = .ok (.aload_n 0, 1) := by decide +kernel
theorem dX11_undo_38 : decode cX11_undo 38 = .ok (.aload_n 0, 1) := by decide +kernel
theorem dX11_undo_39 : decode cX11_undo 39 = .ok (.getfield 26, 3) := by decide +kernel
theorem dX11_undo_42 : decode cX11_undo 42 = .ok (.aload_n 0, 1) := by decide +kernel
theorem dX11_undo_43 : decode cX11_undo 43 = .ok (.getfield 165, 3) := by decide +kernel
theorem dX11_undo_46 : decode cX11_undo 46 = .ok (.iaload, 1) := by decide +kernel
theorem dX11_undo_47 : decode cX11_undo 47 = .ok (.invokevirtual 168, 3) := by decide +kernel
theorem dX11_undo_50 : decode cX11_undo 50 = .ok (.ireturn, 1) := by decide +kernel
theorem dX11_image_0 : decode cX11_image 0 = .ok (.aload_n 0, 1) := by decide +kernel
theorem dX11_image_1 : decode cX11_image 1 = .ok (.iconst 0, 1) := by decide +kernel
theorem dX11_image_2 : decode cX11_image 2 = .ok (.putfield 159, 3) := by decide +kernel
theorem dX11_image_5 : decode cX11_image 5 = .ok (.iload_n 1, 1) := by decide +kernel
theorem dX11_image_6 : decode cX11_image 6 = .ok (.i2l, 1) := by decide +kernel
theorem dX11_image_7 : decode cX11_image 7 = .ok (.lconst 0, 1) := by decide +kernel
theorem dX11_image_8 : decode cX11_image 8 = .ok (.lconst 1, 1) := by decide +kernel
theorem dX11_image_9 : decode cX11_image 9 = .ok (.invokestatic 179, 3) := by decide +kernel
theorem dX11_image_12 : decode cX11_image 12 = .ok (.ifCond .ne 9, 3) := by decide +kernel
theorem dX11_image_15 : decode cX11_image 15 = .ok (.aload_n 0, 1) := by decide +kernel
theorem dX11_image_16 : decode cX11_image 16 = .ok (.iconst (-1), 1) := by decide +kernel
theorem dX11_image_17 : decode cX11_image 17 = .ok (.invokevirtual 168, 3) := by decide +kernel
theorem dX11_image_20 : decode cX11_image 20 = .ok (.ireturn, 1) := by decide +kernel
theorem dX11_image_21 : decode cX11_image 21 = .ok (.iconst 0, 1) := by decide +kernel
theorem dX11_image_22 : decode cX11_image 22 = .ok (.istore_n 2, 1) := by decide +kernel
theorem dX11_image_23 : decode cX11_image 23 = .ok (.iload_n 2, 1) := by decide +kernel
theorem dX11_image_24 : decode cX11_image 24 = .ok (.sipush 5476, 3) := by decide +kernel
theorem dX11_image_27 : decode cX11_image 27 = .ok (.if_icmp .ge 27, 3) := by decide +kernel
theorem dX11_image_30 : decode cX11_image 30 = .ok (.aload_n 0, 1) := by decide +kernel
theorem dX11_image_31 : decode cX11_image 31 = .ok (.getfield 16, 3) := by decide +kernel
theorem dX11_image_34 : decode cX11_image 34 = .ok (.sipush 5476, 3) := by decide +kernel
theorem dX11_image_37 : decode cX11_image 37 = .ok (.iload_n 1, 1) := by decide +kernel
theorem dX11_image_38 : decode cX11_image 38 = .ok (.imul, 1) := by decide +kernel
theorem dX11_image_39 : decode cX11_image 39 = .ok (.iload_n 2, 1) := by decide +kernel
theorem dX11_image_40 : decode cX11_image 40 = .ok (.iadd, 1) := by decide +kernel
theorem dX11_image_41 : decode cX11_image 41 = .ok (.aload_n 0, 1) := by decide +kernel
theorem dX11_image_42 : decode cX11_image 42 = .ok (.getfield 13, 3) := by decide +kernel
theorem dX11_image_45 : decode cX11_image 45 = .ok (.iload_n 2, 1) := by decide +kernel
theorem dX11_image_46 : decode cX11_image 46 = .ok (.iaload, 1) := by decide +kernel
theorem dX11_image_47 : decode cX11_image 47 = .ok (.iastore, 1) := by decide +kernel
theorem dX11_image_48 : decode cX11_image 48 = .ok (.iinc 2 1, 3) := by decide +kernel
theorem dX11_image_51 : decode cX11_image 51 = .ok (.goto (-28), 3) := by decide +kernel
theorem dX11_image_54 : decode cX11_image 54 = .ok (.aload_n 0, 1) := by decide +kernel
theorem dX11_image_55 : decode cX11_image 55 = .ok (.getfield 19, 3) := by decide +kernel
theorem dX11_image_58 : decode cX11_image 58 = .ok (.iload_n 1, 1) := by decide +kernel
theorem dX11_image_59 : decode cX11_image 59 = .ok (.iconst 1, 1) := by decide +kernel
theorem dX11_image_60 : decode cX11_image 60 = .ok (.bastore, 1) := by decide +kernel
theorem dX11_image_61 : decode cX11_image 61 = .ok (.aload_n 0, 1) := by decide +kernel
theorem dX11_image_62 : decode cX11_image 62 = .ok (.iconst 0, 1) := by decide +kernel
theorem dX11_image_63 : decode cX11_image 63 = .ok (.invokevirtual 168, 3) := by decide +kernel
theorem dX11_image_66 : decode cX11_image 66 = .ok (.ireturn, 1) := by decide +kernel
theorem dX11_back_0 : decode cX11_back 0 = .ok (.aload_n 0, 1) := by decide +kernel
theorem dX11_back_1 : decode cX11_back 1 = .ok (.iconst 0, 1) := by decide +kernel
theorem dX11_back_2 : decode cX11_back 2 = .ok (.putfield 159, 3) := by decide +kernel
theorem dX11_back_5 : decode cX11_back 5 = .ok (.iload_n 1, 1) := by decide +kernel
theorem dX11_back_6 : decode cX11_back 6 = .ok (.i2l, 1) := by decide +kernel
theorem dX11_back_7 : decode cX11_back 7 = .ok (.lconst 0, 1) := by decide +kernel
theorem dX11_back_8 : decode cX11_back 8 = .ok (.lconst 1, 1) := by decide +kernel
theorem dX11_back_9 : decode cX11_back 9 = .ok (.invokestatic 179, 3) := by decide +kernel
theorem dX11_back_12 : decode cX11_back 12 = .ok (.ifCond .ne 9, 3) := by decide +kernel
theorem dX11_back_15 : decode cX11_back 15 = .ok (.aload_n 0, 1) := by decide +kernel
theorem dX11_back_16 : decode cX11_back 16 = .ok (.iconst (-1), 1) := by decide +kernel
theorem dX11_back_17 : decode cX11_back 17 = .ok (.invokevirtual 168, 3) := by decide +kernel
theorem dX11_back_20 : decode cX11_back 20 = .ok (.ireturn, 1) := by decide +kernel
theorem dX11_back_21 : decode cX11_back 21 = .ok (.aload_n 0, 1) := by decide +kernel
theorem dX11_back_22 : decode cX11_back 22 = .ok (.getfield 19, 3) := by decide +kernel
theorem dX11_back_25 : decode cX11_back 25 = .ok (.iload_n 1, 1) := by decide +kernel
theorem dX11_back_26 : decode cX11_back 26 = .ok (.baload, 1) := by decide +kernel
theorem dX11_back_27 : decode cX11_back 27 = .ok (.ifCond .ne 10, 3) := by decide +kernel
theorem dX11_back_30 : decode cX11_back 30 = .ok (.aload_n 0, 1) := by decide +kernel
theorem dX11_back_31 : decode cX11_back 31 = .ok (.bipush (-2), 2) := by decide +kernel
theorem dX11_back_33 : decode cX11_back 33 = .ok (.invokevirtual 168, 3) := by decide +kernel
theorem dX11_back_36 : decode cX11_back 36 = .ok (.ireturn, 1) := by decide +kernel
theorem dX11_back_37 : decode cX11_back 37 = .ok (.iconst 0, 1) := by decide +kernel
theorem dX11_back_38 : decode cX11_back 38 = .ok (.istore_n 2, 1) := by decide +kernel
theorem dX11_back_39 : decode cX11_back 39 = .ok (.iload_n 2, 1) := by decide +kernel
theorem dX11_back_40 : decode cX11_back 40 = .ok (.sipush 5476, 3) := by decide +kernel
theorem dX11_back_43 : decode cX11_back 43 = .ok (.if_icmp .ge 27, 3) := by decide +kernel
theorem dX11_back_46 : decode cX11_back 46 = .ok (.aload_n 0, 1) := by decide +kernel
theorem dX11_back_47 : decode cX11_back 47 = .ok (.getfield 13, 3) := by decide +kernel
theorem dX11_back_50 : decode cX11_back 50 = .ok (.iload_n 2, 1) := by decide +kernel
theorem dX11_back_51 : decode cX11_back 51 = .ok (.aload_n 0, 1) := by decide +kernel
theorem dX11_back_52 : decode cX11_back 52 = .ok (.getfield 16, 3) := by decide +kernel
theorem dX11_back_55 : decode cX11_back 55 = .ok (.sipush 5476, 3) := by decide +kernel
theorem dX11_back_58 : decode cX11_back 58 = .ok (.iload_n 1, 1) := by decide +kernel
theorem dX11_back_59 : decode cX11_back 59 = .ok (.imul, 1) := by decide +kernel
theorem dX11_back_60 : decode cX11_back 60 = .ok (.iload_n 2, 1) := by decide +kernel
theorem dX11_back_61 : decode cX11_back 61 = .ok (.iadd, 1) := by decide +kernel
theorem dX11_back_62 : decode cX11_back 62 = .ok (.iaload, 1) := by decide +kernel
theorem dX11_back_63 : decode cX11_back 63 = .ok (.iastore, 1) := by decide +kernel
theorem dX11_back_64 : decode cX11_back 64 = .ok (.iinc 2 1, 3) := by decide +kernel
theorem dX11_back_67 : decode cX11_back 67 = .ok (.goto (-28), 3) := by decide +kernel
theorem dX11_back_70 : decode cX11_back 70 = .ok (.aload_n 0, 1) := by decide +kernel
theorem dX11_back_71 : decode cX11_back 71 = .ok (.iconst 0, 1) := by decide +kernel
theorem dX11_back_72 : decode cX11_back 72 = .ok (.invokevirtual 183, 3) := by decide +kernel
theorem dX11_back_75 : decode cX11_back 75 = .ok (.ireturn, 1) := by decide +kernel
theorem dX11_isLane_0 : decode cX11_isLane 0 = .ok (.iload_n 1, 1) := by decide +kernel
theorem dX11_isLane_1 : decode cX11_isLane 1 = .ok (.i2l, 1) := by decide +kernel
theorem dX11_isLane_2 : decode cX11_isLane 2 = .ok (.lconst 0, 1) := by decide +kernel
theorem dX11_isLane_3 : decode cX11_isLane 3 = .ok (.aload_n 0, 1) := by decide +kernel
theorem dX11_isLane_4 : decode cX11_isLane 4 = .ok (.getfield 13, 3) := by decide +kernel
theorem dX11_isLane_7 : decode cX11_isLane 7 = .ok (.iconst 0, 1) := by decide +kernel
theorem dX11_isLane_8 : decode cX11_isLane 8 = .ok (.iaload, 1) := by decide +kernel
theorem dX11_isLane_9 : decode cX11_isLane 9 = .ok (.i2l, 1) := by decide +kernel
theorem dX11_isLane_10 : decode cX11_isLane 10 = .ok (.lconst 1, 1) := by decide +kernel
theorem dX11_isLane_11 : decode cX11_isLane 11 = .ok (.lsub, 1) := by decide +kernel
theorem dX11_isLane_12 : decode cX11_isLane 12 = .ok (.invokestatic 179, 3) := by decide +kernel
theorem dX11_isLane_15 : decode cX11_isLane 15 = .ok (.ireturn, 1) := by decide +kernel
theorem dX11_isChild_0 : decode cX11_isChild 0 = .ok (.iload_n 1, 1) := by decide +kernel
theorem dX11_isChild_1 : decode cX11_isChild 1 = .ok (.i2l, 1) := by decide +kernel
theorem dX11_isChild_2 : decode cX11_isChild 2 = .ok (.lconst 0, 1) := by decide +kernel
theorem dX11_isChild_3 : decode cX11_isChild 3 = .ok (.aload_n 0, 1) := by decide +kernel
theorem dX11_isChild_4 : decode cX11_isChild 4 = .ok (.getfield 13, 3) := by decide +kernel
theorem dX11_isChild_7 : decode cX11_isChild 7 = .ok (.iconst 1, 1) := by decide +kernel
theorem dX11_isChild_8 : decode cX11_isChild 8 = .ok (.iaload, 1) := by decide +kernel
theorem dX11_isChild_9 : decode cX11_isChild 9 = .ok (.i2l, 1) := by decide +kernel
theorem dX11_isChild_10 : decode cX11_isChild 10 = .ok (.lconst 1, 1) := by decide +kernel
theorem dX11_isChild_11 : decode cX11_isChild 11 = .ok (.lsub, 1) := by decide +kernel
theorem dX11_isChild_12 : decode cX11_isChild 12 = .ok (.invokestatic 179, 3) := by decide +kernel
theorem dX11_isChild_15 : decode cX11_isChild 15 = .ok (.ireturn, 1) := by decide +kernel
theorem dX11_isCorner_0 : decode cX11_isCorner 0 = .ok (.iload_n 0, 1) := by decide +kernel
theorem dX11_isCorner_1 : decode cX11_isCorner 1 = .ok (.i2l, 1) := by decide +kernel
theorem dX11_isCorner_2 : decode cX11_isCorner 2 = .ok (.lconst 0, 1) := by decide +kernel
theorem dX11_isCorner_3 : decode cX11_isCorner 3 = .ok (.ldc2_w 186, 3) := by decide +kernel
theorem dX11_isCorner_6 : decode cX11_isCorner 6 = .ok (.invokestatic 179, 3) := by decide +kernel
theorem dX11_isCorner_9 : decode cX11_isCorner 9 = .ok (.ireturn, 1) := by decide +kernel
theorem dX11_ends_0 : decode cX11_ends 0 = .ok (.aload_n 0, 1) := by decide +kernel
theorem dX11_ends_1 : decode cX11_ends 1 = .ok (.getfield 13, 3) := by decide +kernel
theorem dX11_ends_4 : decode cX11_ends 4 = .ok (.bipush 26, 2) := by decide +kernel
theorem dX11_ends_6 : decode cX11_ends 6 = .ok (.iload_n 1, 1) := by decide +kernel
theorem dX11_ends_7 : decode cX11_ends 7 = .ok (.iadd, 1) := by decide +kernel
theorem dX11_ends_8 : decode cX11_ends 8 = .ok (.iaload, 1) := by decide +kernel
theorem dX11_ends_9 : decode cX11_ends 9 = .ok (.iload_n 2, 1) := by decide +kernel
theorem dX11_ends_10 : decode cX11_ends 10 = .ok (.if_icmp .eq 16, 3) := by decide +kernel
theorem dX11_ends_13 : decode cX11_ends 13 = .ok (.aload_n 0, 1) := by decide +kernel
theorem dX11_ends_14 : decode cX11_ends 14 = .ok (.getfield 13, 3) := by decide +kernel
theorem dX11_ends_17 : decode cX11_ends 17 = .ok (.bipush 36, 2) := by decide +kernel
theorem dX11_ends_19 : decode cX11_ends 19 = .ok (.iload_n 1, 1) := by decide +kernel
theorem dX11_ends_20 : decode cX11_ends 20 = .ok (.iadd, 1) := by decide +kernel
theorem dX11_ends_21 : decode cX11_ends 21 = .ok (.iaload, 1) := by decide +kernel
theorem dX11_ends_22 : decode cX11_ends 22 = .ok (.iload_n 2, 1) := by decide +kernel
theorem dX11_ends_23 : decode cX11_ends 23 = .ok (.if_icmp .ne 7, 3) := by decide +kernel
theorem dX11_ends_26 : decode cX11_ends 26 = .ok (.iconst 1, 1) := by decide +kernel
theorem dX11_ends_27 : decode cX11_ends 27 = .ok (.goto 4, 3) := by decide +kernel
theorem dX11_ends_30 : decode cX11_ends 30 = .ok (.iconst 0, 1) := by decide +kernel
theorem dX11_ends_31 : decode cX11_ends 31 = .ok (.ireturn, 1) := by decide +kernel
theorem dX11_across_0 : decode cX11_across 0 = .ok (.aload_n 0, 1) := by decide +kernel
theorem dX11_across_1 : decode cX11_across 1 = .ok (.getfield 13, 3) := by decide +kernel
theorem dX11_across_4 : decode cX11_across 4 = .ok (.bipush 26, 2) := by decide +kernel
theorem dX11_across_6 : decode cX11_across 6 = .ok (.iload_n 1, 1) := by decide +kernel
theorem dX11_across_7 : decode cX11_across 7 = .ok (.iadd, 1) := by decide +kernel
theorem dX11_across_8 : decode cX11_across 8 = .ok (.iaload, 1) := by decide +kernel
theorem dX11_across_9 : decode cX11_across 9 = .ok (.iload_n 2, 1) := by decide +kernel
theorem dX11_across_10 : decode cX11_across 10 = .ok (.if_icmp .ne 15, 3) := by decide +kernel
theorem dX11_across_13 : decode cX11_across 13 = .ok (.aload_n 0, 1) := by decide +kernel
theorem dX11_across_14 : decode cX11_across 14 = .ok (.getfield 13, 3) := by decide +kernel
theorem dX11_across_17 : decode cX11_across 17 = .ok (.bipush 36, 2) := by decide +kernel
theorem dX11_across_19 : decode cX11_across 19 = .ok (.iload_n 1, 1) := by decide +kernel
theorem dX11_across_20 : decode cX11_across 20 = .ok (.iadd, 1) := by decide +kernel
theorem dX11_across_21 : decode cX11_across 21 = .ok (.iaload, 1) := by decide +kernel
theorem dX11_across_22 : decode cX11_across 22 = .ok (.goto 12, 3) := by decide +kernel
theorem dX11_across_25 : decode cX11_across 25 = .ok (.aload_n 0, 1) := by decide +kernel
theorem dX11_across_26 : decode cX11_across 26 = .ok (.getfield 13, 3) := by decide +kernel
theorem dX11_across_29 : decode cX11_across 29 = .ok (.bipush 26, 2) := by decide +kernel
theorem dX11_across_31 : decode cX11_across 31 = .ok (.iload_n 1, 1) := by decide +kernel
theorem dX11_across_32 : decode cX11_across 32 = .ok (.iadd, 1) := by decide +kernel
theorem dX11_across_33 : decode cX11_across 33 = .ok (.iaload, 1) := by decide +kernel
theorem dX11_across_34 : decode cX11_across 34 = .ok (.ireturn, 1) := by decide +kernel
theorem dX11_namedOnes_0 : decode cX11_namedOnes 0 = .ok (.iconst 0, 1) := by decide +kernel
theorem dX11_namedOnes_1 : decode cX11_namedOnes 1 = .ok (.istore_n 1, 1) := by decide +kernel
theorem dX11_namedOnes_2 : decode cX11_namedOnes 2 = .ok (.iconst 0, 1) := by decide +kernel
theorem dX11_namedOnes_3 : decode cX11_namedOnes 3 = .ok (.istore_n 2, 1) := by decide +kernel
theorem dX11_namedOnes_4 : decode cX11_namedOnes 4 = .ok (.iload_n 2, 1) := by decide +kernel
theorem dX11_namedOnes_5 : decode cX11_namedOnes 5 = .ok (.aload_n 0, 1) := by decide +kernel
theorem dX11_namedOnes_6 : decode cX11_namedOnes 6 = .ok (.getfield 13, 3) := by decide +kernel
theorem dX11_namedOnes_9 : decode cX11_namedOnes 9 = .ok (.iconst 0, 1) := by decide +kernel
theorem dX11_namedOnes_10 : decode cX11_namedOnes 10 = .ok (.iaload, 1) := by decide +kernel
theorem dX11_namedOnes_11 : decode cX11_namedOnes 11 = .ok (.if_icmp .ge 30, 3) := by decide +kernel
theorem dX11_namedOnes_14 : decode cX11_namedOnes 14 = .ok (.iload_n 1, 1) := by decide +kernel
theorem dX11_namedOnes_15 : decode cX11_namedOnes 15 = .ok (.aload_n 0, 1) := by decide +kernel
theorem dX11_namedOnes_16 : decode cX11_namedOnes 16 = .ok (.getfield 13, 3) := by decide +kernel
theorem dX11_namedOnes_19 : decode cX11_namedOnes 19 = .ok (.bipush 8, 2) := by decide +kernel
theorem dX11_namedOnes_21 : decode cX11_namedOnes 21 = .ok (.iload_n 2, 1) := by decide +kernel
theorem dX11_namedOnes_22 : decode cX11_namedOnes 22 = .ok (.iadd, 1) := by decide +kernel
theorem dX11_namedOnes_23 : decode cX11_namedOnes 23 = .ok (.iaload, 1) := by decide +kernel
theorem dX11_namedOnes_24 : decode cX11_namedOnes 24 = .ok (.iconst (-1), 1) := by decide +kernel
theorem dX11_namedOnes_25 : decode cX11_namedOnes 25 = .ok (.if_icmp .ne 7, 3) := by decide +kernel
theorem dX11_namedOnes_28 : decode cX11_namedOnes 28 = .ok (.iconst 0, 1) := by decide +kernel
theorem dX11_namedOnes_29 : decode cX11_namedOnes 29 = .ok (.goto 4, 3) := by decide +kernel
theorem dX11_namedOnes_32 : decode cX11_namedOnes 32 = .ok (.iconst 1, 1) := by decide +kernel
theorem dX11_namedOnes_33 : decode cX11_namedOnes 33 = .ok (.iadd, 1) := by decide +kernel
theorem dX11_namedOnes_34 : decode cX11_namedOnes 34 = .ok (.istore_n 1, 1) := by decide +kernel
theorem dX11_namedOnes_35 : decode cX11_namedOnes 35 = .ok (.iinc 2 1, 3) := by decide +kernel
theorem dX11_namedOnes_38 : decode cX11_namedOnes 38 = .ok (.goto (-34), 3) := by decide +kernel
theorem dX11_namedOnes_41 : decode cX11_namedOnes 41 = .ok (.iload_n 1, 1) := by decide +kernel
theorem dX11_namedOnes_42 : decode cX11_namedOnes 42 = .ok (.ireturn, 1) := by decide +kernel
theorem dX11_come_0 : decode cX11_come 0 = .ok (.iload_n 1, 1) := by decide +kernel
theorem dX11_come_1 : decode cX11_come 1 = .ok (.invokestatic 188, 3) := by decide +kernel
theorem dX11_come_4 : decode cX11_come 4 = .ok (.ifCond .eq 40, 3) := by decide +kernel
theorem dX11_come_7 : decode cX11_come 7 = .ok (.iload_n 2, 1) := by decide +kernel
theorem dX11_come_8 : decode cX11_come 8 = .ok (.invokestatic 188, 3) := by decide +kernel
theorem dX11_come_11 : decode cX11_come 11 = .ok (.ifCond .eq 33, 3) := by decide +kernel
theorem dX11_come_14 : decode cX11_come 14 = .ok (.iload_n 1, 1) := by decide +kernel
theorem dX11_come_15 : decode cX11_come 15 = .ok (.iload_n 2, 1) := by decide +kernel
theorem dX11_come_16 : decode cX11_come 16 = .ok (.if_icmp .eq 28, 3) := by decide +kernel
theorem dX11_come_19 : decode cX11_come 19 = .ok (.iload_n 3, 1) := by decide +kernel
theorem dX11_come_20 : decode cX11_come 20 = .ok (.i2l, 1) := by decide +kernel
theorem dX11_come_21 : decode cX11_come 21 = .ok (.lconst 1, 1) := by decide +kernel
theorem dX11_come_22 : decode cX11_come 22 = .ok (.ldc2_w 192, 3) := by decide +kernel
theorem dX11_come_25 : decode cX11_come 25 = .ok (.invokestatic 179, 3) := by decide +kernel
theorem dX11_come_28 : decode cX11_come 28 = .ok (.ifCond .eq 16, 3) := by decide +kernel
theorem dX11_come_31 : decode cX11_come 31 = .ok (.iload 4, 2) := by decide +kernel
theorem dX11_come_33 : decode cX11_come 33 = .ok (.i2l, 1) := by decide +kernel
theorem dX11_come_34 : decode cX11_come 34 = .ok (.lconst 0, 1) := by decide +kernel
theorem dX11_come_35 : decode cX11_come 35 = .ok (.ldc2_w 194, 3) := by decide +kernel
theorem dX11_come_38 : decode cX11_come 38 = .ok (.invokestatic 179, 3) := by decide +kernel
theorem dX11_come_41 : decode cX11_come 41 = .ok (.ifCond .ne 5, 3) := by decide +kernel
theorem dX11_come_44 : decode cX11_come 44 = .ok (.iconst (-1), 1) := by decide +kernel
theorem dX11_come_45 : decode cX11_come 45 = .ok (.ireturn, 1) := by decide +kernel
theorem dX11_come_46 : decode cX11_come 46 = .ok (.aload_n 0, 1) := by decide +kernel
theorem dX11_come_47 : decode cX11_come 47 = .ok (.getfield 13, 3) := by decide +kernel
theorem dX11_come_50 : decode cX11_come 50 = .ok (.iconst 0, 1) := by decide +kernel
theorem dX11_come_51 : decode cX11_come 51 = .ok (.iaload, 1) := by decide +kernel
theorem dX11_come_52 : decode cX11_come 52 = .ok (.istore 5, 2) := by decide +kernel
theorem dX11_come_54 : decode cX11_come 54 = .ok (.iload 5, 2) := by decide +kernel
theorem dX11_come_56 : decode cX11_come 56 = .ok (.bipush 10, 2) := by decide +kernel
theorem dX11_come_58 : decode cX11_come 58 = .ok (.if_icmp .ne 6, 3) := by decide +kernel
theorem dX11_come_61 : decode cX11_come 61 = .ok (.bipush (-5), 2) := by decide +kernel
theorem dX11_come_63 : decode cX11_come 63 = .ok (.ireturn, 1) := by decide +kernel
theorem dX11_come_64 : decode cX11_come 64 = .ok (.aload_n 0, 1) := by decide +kernel
theorem dX11_come_65 : decode cX11_come 65 = .ok (.getfield 13, 3) := by decide +kernel
theorem dX11_come_68 : decode cX11_come 68 = .ok (.bipush 26, 2) := by decide +kernel
theorem dX11_come_70 : decode cX11_come 70 = .ok (.iload 5, 2) := by decide +kernel
theorem dX11_come_72 : decode cX11_come 72 = .ok (.iadd, 1) := by decide +kernel
theorem dX11_come_73 : decode cX11_come 73 = .ok (.iload_n 1, 1) := by decide +kernel
theorem dX11_come_74 : decode cX11_come 74 = .ok (.iastore, 1) := by decide +kernel
theorem dX11_come_75 : decode cX11_come 75 = .ok (.aload_n 0, 1) := by decide +kernel
theorem dX11_come_76 : decode cX11_come 76 = .ok (.getfield 13, 3) := by decide +kernel
theorem dX11_come_79 : decode cX11_come 79 = .ok (.bipush 36, 2) := by decide +kernel
theorem dX11_come_81 : decode cX11_come 81 = .ok (.iload 5, 2) := by decide +kernel
theorem dX11_come_83 : decode cX11_come 83 = .ok (.iadd, 1) := by decide +kernel
theorem dX11_come_84 : decode cX11_come 84 = .ok (.iload_n 2, 1) := by decide +kernel
theorem dX11_come_85 : decode cX11_come 85 = .ok (.iastore, 1) := by decide +kernel
theorem dX11_come_86 : decode cX11_come 86 = .ok (.aload_n 0, 1) := by decide +kernel
theorem dX11_come_87 : decode cX11_come 87 = .ok (.getfield 13, 3) := by decide +kernel
theorem dX11_come_90 : decode cX11_come 90 = .ok (.bipush 46, 2) := by decide +kernel
theorem dX11_come_92 : decode cX11_come 92 = .ok (.iload 5, 2) := by decide +kernel
theorem dX11_come_94 : decode cX11_come 94 = .ok (.iadd, 1) := by decide +kernel
theorem dX11_come_95 : decode cX11_come 95 = .ok (.iload_n 3, 1) := by decide +kernel
theorem dX11_come_96 : decode cX11_come 96 = .ok (.iastore, 1) := by decide +kernel
theorem dX11_come_97 : decode cX11_come 97 = .ok (.aload_n 0, 1) := by decide +kernel
theorem dX11_come_98 : decode cX11_come 98 = .ok (.getfield 13, 3) := by decide +kernel
theorem dX11_come_101 : decode cX11_come 101 = .ok (.bipush 56, 2) := by decide +kernel
theorem dX11_come_103 : decode cX11_come 103 = .ok (.iload 5, 2) := by decide +kernel
theorem dX11_come_105 : decode cX11_come 105 = .ok (.iadd, 1) := by decide +kernel
theorem dX11_come_106 : decode cX11_come 106 = .ok (.iload 4, 2) := by decide +kernel
theorem dX11_come_108 : decode cX11_come 108 = .ok (.iastore, 1) := by decide +kernel
theorem dX11_come_109 : decode cX11_come 109 = .ok (.aload_n 0, 1) := by decide +kernel
theorem dX11_come_110 : decode cX11_come 110 = .ok (.getfield 13, 3) := by decide +kernel
theorem dX11_come_113 : decode cX11_come 113 = .ok (.bipush 8, 2) := by decide +kernel
theorem dX11_come_115 : decode cX11_come 115 = .ok (.iload 5, 2) := by decide +kernel
theorem dX11_come_117 : decode cX11_come 117 = .ok (.iadd, 1) := by decide +kernel
theorem dX11_come_118 : decode cX11_come 118 = .ok (.iconst (-1), 1) := by decide +kernel
theorem dX11_come_119 : decode cX11_come 119 = .ok (.iastore, 1) := by decide +kernel
theorem dX11_come_120 : decode cX11_come 120 = .ok (.aload_n 0, 1) := by decide +kernel
theorem dX11_come_121 : decode cX11_come 121 = .ok (.getfield 13, 3) := by decide +kernel
theorem dX11_come_124 : decode cX11_come 124 = .ok (.iconst 0, 1) := by decide +kernel
theorem dX11_come_125 : decode cX11_come 125 = .ok (.dup2, 1) := by decide +kernel
theorem dX11_come_126 : decode cX11_come 126 = .ok (.iaload, 1) := by decide +kernel
theorem dX11_come_127 : decode cX11_come 127 = .ok (.iconst 1, 1) := by decide +kernel
theorem dX11_come_128 : decode cX11_come 128 = .ok (.iadd, 1) := by decide +kernel
theorem dX11_come_129 : decode cX11_come 129 = .ok (.iastore, 1) := by decide +kernel
theorem dX11_come_130 : decode cX11_come 130 = .ok (.iload 5, 2) := by decide +kernel
theorem dX11_come_132 : decode cX11_come 132 = .ok (.ireturn, 1) := by decide +kernel
theorem dX11_lane_0 : decode cX11_lane 0 = .ok (.aload_n 0, 1) := by decide +kernel
theorem dX11_lane_1 : decode cX11_lane 1 = .ok (.iconst 0, 1) := by decide +kernel
theorem dX11_lane_2 : decode cX11_lane 2 = .ok (.putfield 159, 3) := by decide +kernel
theorem dX11_lane_5 : decode cX11_lane 5 = .ok (.aload_n 0, 1) := by decide +kernel
theorem dX11_lane_6 : decode cX11_lane 6 = .ok (.aload_n 0, 1) := by decide +kernel
theorem dX11_lane_7 : decode cX11_lane 7 = .ok (.iload_n 1, 1) := by decide +kernel
theorem dX11_lane_8 : decode cX11_lane 8 = .ok (.iload_n 2, 1) := by decide +kernel
theorem dX11_lane_9 : decode cX11_lane 9 = .ok (.iload_n 3, 1) := by decide +kernel
theorem dX11_lane_10 : decode cX11_lane 10 = .ok (.iload 4, 2) := by decide +kernel
theorem dX11_lane_12 : decode cX11_lane 12 = .ok (.invokevirtual 196, 3) := by decide +kernel
theorem dX11_lane_15 : decode cX11_lane 15 = .ok (.invokevirtual 183, 3) := by decide +kernel
theorem dX11_lane_18 : decode cX11_lane 18 = .ok (.ireturn, 1) := by decide +kernel
theorem dX11_at_0 : decode cX11_at 0 = .ok (.aload_n 0, 1) := by decide +kernel
theorem dX11_at_1 : decode cX11_at 1 = .ok (.iconst 0, 1) := by decide +kernel
theorem dX11_at_2 : decode cX11_at 2 = .ok (.putfield 159, 3) := by decide +kernel
theorem dX11_at_5 : decode cX11_at 5 = .ok (.aload_n 0, 1) := by decide +kernel
theorem dX11_at_6 : decode cX11_at 6 = .ok (.iload_n 1, 1) := by decide +kernel
theorem dX11_at_7 : decode cX11_at 7 = .ok (.invokevirtual 200, 3) := by decide +kernel
theorem dX11_at_10 : decode cX11_at 10 = .ok (.ifCond .ne 5, 3) := by decide +kernel
theorem dX11_at_13 : decode cX11_at 13 = .ok (.iconst (-1), 1) := by decide +kernel
theorem dX11_at_14 : decode cX11_at 14 = .ok (.ireturn, 1) := by decide +kernel
theorem dX11_at_15 : decode cX11_at 15 = .ok (.iload_n 2, 1) := by decide +kernel
theorem dX11_at_16 : decode cX11_at 16 = .ok (.tableswitch 86 0 4 #[36, 46, 56, 66, 76], 36) := by decide +kernel
theorem dX11_at_52 : decode cX11_at 52 = .ok (.aload_n 0, 1) := by decide +kernel
theorem dX11_at_53 : decode cX11_at 53 = .ok (.getfield 13, 3) := by decide +kernel
theorem dX11_at_56 : decode cX11_at 56 = .ok (.bipush 26, 2) := by decide +kernel
theorem dX11_at_58 : decode cX11_at 58 = .ok (.iload_n 1, 1) := by decide +kernel
theorem dX11_at_59 : decode cX11_at 59 = .ok (.iadd, 1) := by decide +kernel
theorem dX11_at_60 : decode cX11_at 60 = .ok (.iaload, 1) := by decide +kernel
theorem dX11_at_61 : decode cX11_at 61 = .ok (.ireturn, 1) := by decide +kernel
theorem dX11_at_62 : decode cX11_at 62 = .ok (.aload_n 0, 1) := by decide +kernel
theorem dX11_at_63 : decode cX11_at 63 = .ok (.getfield 13, 3) := by decide +kernel
theorem dX11_at_66 : decode cX11_at 66 = .ok (.bipush 36, 2) := by decide +kernel
theorem dX11_at_68 : decode cX11_at 68 = .ok (.iload_n 1, 1) := by decide +kernel
theorem dX11_at_69 : decode cX11_at 69 = .ok (.iadd, 1) := by decide +kernel
theorem dX11_at_70 : decode cX11_at 70 = .ok (.iaload, 1) := by decide +kernel
theorem dX11_at_71 : decode cX11_at 71 = .ok (.ireturn, 1) := by decide +kernel
theorem dX11_at_72 : decode cX11_at 72 = .ok (.aload_n 0, 1) := by decide +kernel
theorem dX11_at_73 : decode cX11_at 73 = .ok (.getfield 13, 3) := by decide +kernel
theorem dX11_at_76 : decode cX11_at 76 = .ok (.bipush 46, 2) := by decide +kernel
theorem dX11_at_78 : decode cX11_at 78 = .ok (.iload_n 1, 1) := by decide +kernel
theorem dX11_at_79 : decode cX11_at 79 = .ok (.iadd, 1) := by decide +kernel
theorem dX11_at_80 : decode cX11_at 80 = .ok (.iaload, 1) := by decide +kernel
theorem dX11_at_81 : decode cX11_at 81 = .ok (.ireturn, 1) := by decide +kernel
theorem dX11_at_82 : decode cX11_at 82 = .ok (.aload_n 0, 1) := by decide +kernel
theorem dX11_at_83 : decode cX11_at 83 = .ok (.getfield 13, 3) := by decide +kernel
theorem dX11_at_86 : decode cX11_at 86 = .ok (.bipush 56, 2) := by decide +kernel
theorem dX11_at_88 : decode cX11_at 88 = .ok (.iload_n 1, 1) := by decide +kernel
theorem dX11_at_89 : decode cX11_at 89 = .ok (.iadd, 1) := by decide +kernel
theorem dX11_at_90 : decode cX11_at 90 = .ok (.iaload, 1) := by decide +kernel
theorem dX11_at_91 : decode cX11_at 91 = .ok (.ireturn, 1) := by decide +kernel
theorem dX11_at_92 : decode cX11_at 92 = .ok (.aload_n 0, 1) := by decide +kernel
theorem dX11_at_93 : decode cX11_at 93 = .ok (.getfield 13, 3) := by decide +kernel
theorem dX11_at_96 : decode cX11_at 96 = .ok (.bipush 8, 2) := by decide +kernel
theorem dX11_at_98 : decode cX11_at 98 = .ok (.iload_n 1, 1) := by decide +kernel
theorem dX11_at_99 : decode cX11_at 99 = .ok (.iadd, 1) := by decide +kernel
theorem dX11_at_100 : decode cX11_at 100 = .ok (.iaload, 1) := by decide +kernel
theorem dX11_at_101 : decode cX11_at 101 = .ok (.ireturn, 1) := by decide +kernel
theorem dX11_at_102 : decode cX11_at 102 = .ok (.iconst (-1), 1) := by decide +kernel
theorem dX11_at_103 : decode cX11_at 103 = .ok (.ireturn, 1) := by decide +kernel
theorem dX11_child_0 : decode cX11_child 0 = .ok (.aload_n 0, 1) := by decide +kernel
theorem dX11_child_1 : decode cX11_child 1 = .ok (.iconst 0, 1) := by decide +kernel
theorem dX11_child_2 : decode cX11_child 2 = .ok (.putfield 159, 3) := by decide +kernel
theorem dX11_child_5 : decode cX11_child 5 = .ok (.iload_n 1, 1) := by decide +kernel
theorem dX11_child_6 : decode cX11_child 6 = .ok (.i2l, 1) := by decide +kernel
theorem dX11_child_7 : decode cX11_child 7 = .ok (.lconst 1, 1) := by decide +kernel
theorem dX11_child_8 : decode cX11_child 8 = .ok (.ldc2_w 192, 3) := by decide +kernel
theorem dX11_child_11 : decode cX11_child 11 = .ok (.invokestatic 179, 3) := by decide +kernel
theorem dX11_child_14 : decode cX11_child 14 = .ok (.ifCond .eq 10, 3) := by decide +kernel
theorem dX11_child_17 : decode cX11_child 17 = .ok (.iload_n 2, 1) := by decide +kernel
theorem dX11_child_18 : decode cX11_child 18 = .ok (.invokestatic 188, 3) := by decide +kernel
theorem dX11_child_21 : decode cX11_child 21 = .ok (.ifCond .ne 9, 3) := by decide +kernel
theorem dX11_child_24 : decode cX11_child 24 = .ok (.aload_n 0, 1) := by decide +kernel
theorem dX11_child_25 : decode cX11_child 25 = .ok (.iconst (-1), 1) := by decide +kernel
theorem dX11_child_26 : decode cX11_child 26 = .ok (.invokevirtual 168, 3) := by decide +kernel
theorem dX11_child_29 : decode cX11_child 29 = .ok (.ireturn, 1) := by decide +kernel
theorem dX11_child_30 : decode cX11_child 30 = .ok (.aload_n 0, 1) := by decide +kernel
theorem dX11_child_31 : decode cX11_child 31 = .ok (.getfield 13, 3) := by decide +kernel
theorem dX11_child_34 : decode cX11_child 34 = .ok (.iconst 1, 1) := by decide +kernel
theorem dX11_child_35 : decode cX11_child 35 = .ok (.iaload, 1) := by decide +kernel
theorem dX11_child_36 : decode cX11_child 36 = .ok (.istore_n 3, 1) := by decide +kernel
theorem dX11_child_37 : decode cX11_child 37 = .ok (.iload_n 3, 1) := by decide +kernel
theorem dX11_child_38 : decode cX11_child 38 = .ok (.iconst 4, 1) := by decide +kernel
theorem dX11_child_39 : decode cX11_child 39 = .ok (.if_icmp .ne 10, 3) := by decide +kernel
theorem dX11_child_42 : decode cX11_child 42 = .ok (.aload_n 0, 1) := by decide +kernel
theorem dX11_child_43 : decode cX11_child 43 = .ok (.bipush (-5), 2) := by decide +kernel
theorem dX11_child_45 : decode cX11_child 45 = .ok (.invokevirtual 168, 3) := by decide +kernel
theorem dX11_child_48 : decode cX11_child 48 = .ok (.ireturn, 1) := by decide +kernel
theorem dX11_child_49 : decode cX11_child 49 = .ok (.aload_n 0, 1) := by decide +kernel
theorem dX11_child_50 : decode cX11_child 50 = .ok (.getfield 13, 3) := by decide +kernel
theorem dX11_child_53 : decode cX11_child 53 = .ok (.bipush 66, 2) := by decide +kernel
theorem dX11_child_55 : decode cX11_child 55 = .ok (.iload_n 3, 1) := by decide +kernel
theorem dX11_child_56 : decode cX11_child 56 = .ok (.iadd, 1) := by decide +kernel
theorem dX11_child_57 : decode cX11_child 57 = .ok (.iload_n 1, 1) := by decide +kernel
theorem dX11_child_58 : decode cX11_child 58 = .ok (.iastore, 1) := by decide +kernel
theorem dX11_child_59 : decode cX11_child 59 = .ok (.aload_n 0, 1) := by decide +kernel
theorem dX11_child_60 : decode cX11_child 60 = .ok (.getfield 13, 3) := by decide +kernel
theorem dX11_child_63 : decode cX11_child 63 = .ok (.bipush 18, 2) := by decide +kernel
theorem dX11_child_65 : decode cX11_child 65 = .ok (.iload_n 3, 1) := by decide +kernel
theorem dX11_child_66 : decode cX11_child 66 = .ok (.iadd, 1) := by decide +kernel
theorem dX11_child_67 : decode cX11_child 67 = .ok (.iload_n 2, 1) := by decide +kernel
theorem dX11_child_68 : decode cX11_child 68 = .ok (.iastore, 1) := by decide +kernel
theorem dX11_child_69 : decode cX11_child 69 = .ok (.aload_n 0, 1) := by decide +kernel
theorem dX11_child_70 : decode cX11_child 70 = .ok (.getfield 13, 3) := by decide +kernel
theorem dX11_child_73 : decode cX11_child 73 = .ok (.bipush 22, 2) := by decide +kernel
theorem dX11_child_75 : decode cX11_child 75 = .ok (.iload_n 3, 1) := by decide +kernel
theorem dX11_child_76 : decode cX11_child 76 = .ok (.iadd, 1) := by decide +kernel
theorem dX11_child_77 : decode cX11_child 77 = .ok (.iconst (-1), 1) := by decide +kernel
theorem dX11_child_78 : decode cX11_child 78 = .ok (.iastore, 1) := by decide +kernel
theorem dX11_child_79 : decode cX11_child 79 = .ok (.aload_n 0, 1) := by decide +kernel
theorem dX11_child_80 : decode cX11_child 80 = .ok (.getfield 13, 3) := by decide +kernel
theorem dX11_child_83 : decode cX11_child 83 = .ok (.iconst 1, 1) := by decide +kernel
theorem dX11_child_84 : decode cX11_child 84 = .ok (.dup2, 1) := by decide +kernel
theorem dX11_child_85 : decode cX11_child 85 = .ok (.iaload, 1) := by decide +kernel
theorem dX11_child_86 : decode cX11_child 86 = .ok (.iconst 1, 1) := by decide +kernel
theorem dX11_child_87 : decode cX11_child 87 = .ok (.iadd, 1) := by decide +kernel
theorem dX11_child_88 : decode cX11_child 88 = .ok (.iastore, 1) := by decide +kernel
theorem dX11_child_89 : decode cX11_child 89 = .ok (.aload_n 0, 1) := by decide +kernel
theorem dX11_child_90 : decode cX11_child 90 = .ok (.iload_n 3, 1) := by decide +kernel
theorem dX11_child_91 : decode cX11_child 91 = .ok (.invokevirtual 183, 3) := by decide +kernel
theorem dX11_child_94 : decode cX11_child 94 = .ok (.ireturn, 1) := by decide +kernel
theorem dX11_reckon_0 : decode cX11_reckon 0 = .ok (.iload_n 1, 1) := by decide +kernel
theorem dX11_reckon_1 : decode cX11_reckon 1 = .ok (.tableswitch 148 20 26 #[43, 48, 53, 58, 90, 122, 135], 43) := by decide +kernel
theorem dX11_reckon_44 : decode cX11_reckon 44 = .ok (.lload_n 2, 1) := by decide +kernel
theorem dX11_reckon_45 : decode cX11_reckon 45 = .ok (.lload 4, 2) := by decide +kernel
theorem dX11_reckon_47 : decode cX11_reckon 47 = .ok (.ladd, 1) := by decide +kernel
theorem dX11_reckon_48 : decode cX11_reckon 48 = .ok (.lreturn, 1) := by decide +kernel
theorem dX11_reckon_49 : decode cX11_reckon 49 = .ok (.lload_n 2, 1) := by decide +kernel
theorem dX11_reckon_50 : decode cX11_reckon 50 = .ok (.lload 4, 2) := by decide +kernel
theorem dX11_reckon_52 : decode cX11_reckon 52 = .ok (.lsub, 1) := by decide +kernel
theorem dX11_reckon_53 : decode cX11_reckon 53 = .ok (.lreturn, 1) := by decide +kernel
theorem dX11_reckon_54 : decode cX11_reckon 54 = .ok (.lload_n 2, 1) := by decide +kernel
theorem dX11_reckon_55 : decode cX11_reckon 55 = .ok (.lload 4, 2) := by decide +kernel
theorem dX11_reckon_57 : decode cX11_reckon 57 = .ok (.lmul, 1) := by decide +kernel
theorem dX11_reckon_58 : decode cX11_reckon 58 = .ok (.lreturn, 1) := by decide +kernel
theorem dX11_reckon_59 : decode cX11_reckon 59 = .ok (.aload_n 0, 1) := by decide +kernel
theorem dX11_reckon_60 : decode cX11_reckon 60 = .ok (.lload 4, 2) := by decide +kernel
theorem dX11_reckon_62 : decode cX11_reckon 62 = .ok (.lconst 0, 1) := by decide +kernel
theorem dX11_reckon_63 : decode cX11_reckon 63 = .ok (.lcmp, 1) := by decide +kernel
theorem dX11_reckon_64 : decode cX11_reckon 64 = .ok (.ifCond .ne 7, 3) := by decide +kernel
theorem dX11_reckon_67 : decode cX11_reckon 67 = .ok (.iconst 1, 1) := by decide +kernel
theorem dX11_reckon_68 : decode cX11_reckon 68 = .ok (.goto 4, 3) := by decide +kernel
theorem dX11_reckon_71 : decode cX11_reckon 71 = .ok (.iconst 0, 1) := by decide +kernel
theorem dX11_reckon_72 : decode cX11_reckon 72 = .ok (.putfield 390, 3) := by decide +kernel
theorem dX11_reckon_75 : decode cX11_reckon 75 = .ok (.aload_n 0, 1) := by decide +kernel
theorem dX11_reckon_76 : decode cX11_reckon 76 = .ok (.getfield 390, 3) := by decide +kernel
theorem dX11_reckon_79 : decode cX11_reckon 79 = .ok (.ifCond .eq 7, 3) := by decide +kernel
theorem dX11_reckon_82 : decode cX11_reckon 82 = .ok (.lconst 0, 1) := by decide +kernel
theorem dX11_reckon_83 : decode cX11_reckon 83 = .ok (.goto 7, 3) := by decide +kernel
theorem dX11_reckon_86 : decode cX11_reckon 86 = .ok (.lload_n 2, 1) := by decide +kernel
theorem dX11_reckon_87 : decode cX11_reckon 87 = .ok (.lload 4, 2) := by decide +kernel
theorem dX11_reckon_89 : decode cX11_reckon 89 = .ok (.ldiv, 1) := by decide +kernel
theorem dX11_reckon_90 : decode cX11_reckon 90 = .ok (.lreturn, 1) := by decide +kernel
theorem dX11_reckon_91 : decode cX11_reckon 91 = .ok (.aload_n 0, 1) := by decide +kernel
theorem dX11_reckon_92 : decode cX11_reckon 92 = .ok (.lload 4, 2) := by decide +kernel
theorem dX11_reckon_94 : decode cX11_reckon 94 = .ok (.lconst 0, 1) := by decide +kernel
theorem dX11_reckon_95 : decode cX11_reckon 95 = .ok (.lcmp, 1) := by decide +kernel
theorem dX11_reckon_96 : decode cX11_reckon 96 = .ok (.ifCond .ne 7, 3) := by decide +kernel
theorem dX11_reckon_99 : decode cX11_reckon 99 = .ok (.iconst 1, 1) := by decide +kernel
theorem dX11_reckon_100 : decode cX11_reckon 100 = .ok (.goto 4, 3) := by decide +kernel
theorem dX11_reckon_103 : decode cX11_reckon 103 = .ok (.iconst 0, 1) := by decide +kernel
theorem dX11_reckon_104 : decode cX11_reckon 104 = .ok (.putfield 390, 3) := by decide +kernel
theorem dX11_reckon_107 : decode cX11_reckon 107 = .ok (.aload_n 0, 1) := by decide +kernel
theorem dX11_reckon_108 : decode cX11_reckon 108 = .ok (.getfield 390, 3) := by decide +kernel
theorem dX11_reckon_111 : decode cX11_reckon 111 = .ok (.ifCond .eq 7, 3) := by decide +kernel
theorem dX11_reckon_114 : decode cX11_reckon 114 = .ok (.lconst 0, 1) := by decide +kernel
theorem dX11_reckon_115 : decode cX11_reckon 115 = .ok (.goto 7, 3) := by decide +kernel
theorem dX11_reckon_118 : decode cX11_reckon 118 = .ok (.lload_n 2, 1) := by decide +kernel
theorem dX11_reckon_119 : decode cX11_reckon 119 = .ok (.lload 4, 2) := by decide +kernel
theorem dX11_reckon_121 : decode cX11_reckon 121 = .ok (.lrem, 1) := by decide +kernel
theorem dX11_reckon_122 : decode cX11_reckon 122 = .ok (.lreturn, 1) := by decide +kernel
theorem dX11_reckon_123 : decode cX11_reckon 123 = .ok (.lload_n 2, 1) := by decide +kernel
theorem dX11_reckon_124 : decode cX11_reckon 124 = .ok (.lload 4, 2) := by decide +kernel
theorem dX11_reckon_126 : decode cX11_reckon 126 = .ok (.lcmp, 1) := by decide +kernel
theorem dX11_reckon_127 : decode cX11_reckon 127 = .ok (.ifCond .ge 7, 3) := by decide +kernel
theorem dX11_reckon_130 : decode cX11_reckon 130 = .ok (.lconst 1, 1) := by decide +kernel
theorem dX11_reckon_131 : decode cX11_reckon 131 = .ok (.goto 4, 3) := by decide +kernel
theorem dX11_reckon_134 : decode cX11_reckon 134 = .ok (.lconst 0, 1) := by decide +kernel
theorem dX11_reckon_135 : decode cX11_reckon 135 = .ok (.lreturn, 1) := by decide +kernel
theorem dX11_reckon_136 : decode cX11_reckon 136 = .ok (.lload_n 2, 1) := by decide +kernel
theorem dX11_reckon_137 : decode cX11_reckon 137 = .ok (.lload 4, 2) := by decide +kernel
theorem dX11_reckon_139 : decode cX11_reckon 139 = .ok (.lcmp, 1) := by decide +kernel
theorem dX11_reckon_140 : decode cX11_reckon 140 = .ok (.ifCond .le 7, 3) := by decide +kernel
theorem dX11_reckon_143 : decode cX11_reckon 143 = .ok (.lconst 1, 1) := by decide +kernel
theorem dX11_reckon_144 : decode cX11_reckon 144 = .ok (.goto 4, 3) := by decide +kernel
theorem dX11_reckon_147 : decode cX11_reckon 147 = .ok (.lconst 0, 1) := by decide +kernel
theorem dX11_reckon_148 : decode cX11_reckon 148 = .ok (.lreturn, 1) := by decide +kernel
theorem dX11_reckon_149 : decode cX11_reckon 149 = .ok (.lload_n 2, 1) := by decide +kernel
theorem dX11_reckon_150 : decode cX11_reckon 150 = .ok (.lload 4, 2) := by decide +kernel
theorem dX11_reckon_152 : decode cX11_reckon 152 = .ok (.lcmp, 1) := by decide +kernel
theorem dX11_reckon_153 : decode cX11_reckon 153 = .ok (.ifCond .ne 7, 3) := by decide +kernel
theorem dX11_reckon_156 : decode cX11_reckon 156 = .ok (.lconst 1, 1) := by decide +kernel
theorem dX11_reckon_157 : decode cX11_reckon 157 = .ok (.goto 4, 3) := by decide +kernel
theorem dX11_reckon_160 : decode cX11_reckon 160 = .ok (.lconst 0, 1) := by decide +kernel
theorem dX11_reckon_161 : decode cX11_reckon 161 = .ok (.lreturn, 1) := by decide +kernel
theorem dX11_reckonAll_0 : decode cX11_reckonAll 0 = .ok (.aload_n 0, 1) := by decide +kernel
theorem dX11_reckonAll_1 : decode cX11_reckonAll 1 = .ok (.iconst 0, 1) := by decide +kernel
theorem dX11_reckonAll_2 : decode cX11_reckonAll 2 = .ok (.putfield 390, 3) := by decide +kernel
theorem dX11_reckonAll_5 : decode cX11_reckonAll 5 = .ok (.iconst 0, 1) := by decide +kernel
theorem dX11_reckonAll_6 : decode cX11_reckonAll 6 = .ok (.istore_n 3, 1) := by decide +kernel
theorem dX11_reckonAll_7 : decode cX11_reckonAll 7 = .ok (.iload_n 1, 1) := by decide +kernel
theorem dX11_reckonAll_8 : decode cX11_reckonAll 8 = .ok (.istore 4, 2) := by decide +kernel
theorem dX11_reckonAll_10 : decode cX11_reckonAll 10 = .ok (.iload 4, 2) := by decide +kernel
theorem dX11_reckonAll_12 : decode cX11_reckonAll 12 = .ok (.iload_n 2, 1) := by decide +kernel
theorem dX11_reckonAll_13 : decode cX11_reckonAll 13 = .ok (.if_icmp .ge 353, 3) := by decide +kernel
theorem dX11_reckonAll_16 : decode cX11_reckonAll 16 = .ok (.aload_n 0, 1) := by decide +kernel
theorem dX11_reckonAll_17 : decode cX11_reckonAll 17 = .ok (.getfield 390, 3) := by decide +kernel
theorem dX11_reckonAll_20 : decode cX11_reckonAll 20 = .ok (.ifCond .ne 346, 3) := by decide +kernel
theorem dX11_reckonAll_23 : decode cX11_reckonAll 23 = .ok (.aload_n 0, 1) := by decide +kernel
theorem dX11_reckonAll_24 : decode cX11_reckonAll 24 = .ok (.getfield 316, 3) := by decide +kernel
theorem dX11_reckonAll_27 : decode cX11_reckonAll 27 = .ok (.ifCond .eq 13, 3) := by decide +kernel
theorem dX11_reckonAll_30 : decode cX11_reckonAll 30 = .ok (.aload_n 0, 1) := by decide +kernel
theorem dX11_reckonAll_31 : decode cX11_reckonAll 31 = .ok (.getfield 45, 3) := by decide +kernel
theorem dX11_reckonAll_34 : decode cX11_reckonAll 34 = .ok (.iload 4, 2) := by decide +kernel
theorem dX11_reckonAll_36 : decode cX11_reckonAll 36 = .ok (.iaload, 1) := by decide +kernel
theorem dX11_reckonAll_37 : decode cX11_reckonAll 37 = .ok (.goto 20, 3) := by decide +kernel
theorem dX11_reckonAll_40 : decode cX11_reckonAll 40 = .ok (.aload_n 0, 1) := by decide +kernel
theorem dX11_reckonAll_41 : decode cX11_reckonAll 41 = .ok (.getfield 13, 3) := by decide +kernel
theorem dX11_reckonAll_44 : decode cX11_reckonAll 44 = .ok (.aload_n 0, 1) := by decide +kernel
theorem dX11_reckonAll_45 : decode cX11_reckonAll 45 = .ok (.getfield 393, 3) := by decide +kernel
theorem dX11_reckonAll_48 : decode cX11_reckonAll 48 = .ok (.bipush 98, 2) := by decide +kernel
theorem dX11_reckonAll_50 : decode cX11_reckonAll 50 = .ok (.iadd, 1) := by decide +kernel
theorem dX11_reckonAll_51 : decode cX11_reckonAll 51 = .ok (.iconst 2, 1) := by decide +kernel
theorem dX11_reckonAll_52 : decode cX11_reckonAll 52 = .ok (.iload 4, 2) := by decide +kernel
theorem dX11_reckonAll_54 : decode cX11_reckonAll 54 = .ok (.imul, 1) := by decide +kernel
theorem dX11_reckonAll_55 : decode cX11_reckonAll 55 = .ok (.iadd, 1) := by decide +kernel
theorem dX11_reckonAll_56 : decode cX11_reckonAll 56 = .ok (.iaload, 1) := by decide +kernel
theorem dX11_reckonAll_57 : decode cX11_reckonAll 57 = .ok (.istore 5, 2) := by decide +kernel
theorem dX11_reckonAll_59 : decode cX11_reckonAll 59 = .ok (.aload_n 0, 1) := by decide +kernel
theorem dX11_reckonAll_60 : decode cX11_reckonAll 60 = .ok (.getfield 316, 3) := by decide +kernel
theorem dX11_reckonAll_63 : decode cX11_reckonAll 63 = .ok (.ifCond .eq 13, 3) := by decide +kernel
theorem dX11_reckonAll_66 : decode cX11_reckonAll 66 = .ok (.aload_n 0, 1) := by decide +kernel
theorem dX11_reckonAll_67 : decode cX11_reckonAll 67 = .ok (.getfield 48, 3) := by decide +kernel
theorem dX11_reckonAll_70 : decode cX11_reckonAll 70 = .ok (.iload 4, 2) := by decide +kernel
theorem dX11_reckonAll_72 : decode cX11_reckonAll 72 = .ok (.iaload, 1) := by decide +kernel
theorem dX11_reckonAll_73 : decode cX11_reckonAll 73 = .ok (.goto 22, 3) := by decide +kernel
theorem dX11_reckonAll_76 : decode cX11_reckonAll 76 = .ok (.aload_n 0, 1) := by decide +kernel
theorem dX11_reckonAll_77 : decode cX11_reckonAll 77 = .ok (.getfield 13, 3) := by decide +kernel
theorem dX11_reckonAll_80 : decode cX11_reckonAll 80 = .ok (.aload_n 0, 1) := by decide +kernel
theorem dX11_reckonAll_81 : decode cX11_reckonAll 81 = .ok (.getfield 393, 3) := by decide +kernel
theorem dX11_reckonAll_84 : decode cX11_reckonAll 84 = .ok (.bipush 98, 2) := by decide +kernel
theorem dX11_reckonAll_86 : decode cX11_reckonAll 86 = .ok (.iadd, 1) := by decide +kernel
theorem dX11_reckonAll_87 : decode cX11_reckonAll 87 = .ok (.iconst 2, 1) := by decide +kernel
theorem dX11_reckonAll_88 : decode cX11_reckonAll 88 = .ok (.iload 4, 2) := by decide +kernel
theorem dX11_reckonAll_90 : decode cX11_reckonAll 90 = .ok (.imul, 1) := by decide +kernel
theorem dX11_reckonAll_91 : decode cX11_reckonAll 91 = .ok (.iadd, 1) := by decide +kernel
theorem dX11_reckonAll_92 : decode cX11_reckonAll 92 = .ok (.iconst 1, 1) := by decide +kernel
theorem dX11_reckonAll_93 : decode cX11_reckonAll 93 = .ok (.iadd, 1) := by decide +kernel
theorem dX11_reckonAll_94 : decode cX11_reckonAll 94 = .ok (.iaload, 1) := by decide +kernel
theorem dX11_reckonAll_95 : decode cX11_reckonAll 95 = .ok (.istore 6, 2) := by decide +kernel
theorem dX11_reckonAll_97 : decode cX11_reckonAll 97 = .ok (.iinc 4 1, 3) := by decide +kernel
theorem dX11_reckonAll_100 : decode cX11_reckonAll 100 = .ok (.iload 5, 2) := by decide +kernel
theorem dX11_reckonAll_102 : decode cX11_reckonAll 102 = .ok (.bipush 20, 2) := by decide +kernel
theorem dX11_reckonAll_104 : decode cX11_reckonAll 104 = .ok (.if_icmp .ge 120, 3) := by decide +kernel
theorem dX11_reckonAll_107 : decode cX11_reckonAll 107 = .ok (.aload_n 0, 1) := by decide +kernel
theorem dX11_reckonAll_108 : decode cX11_reckonAll 108 = .ok (.getfield 109, 3) := by decide +kernel
theorem dX11_reckonAll_111 : decode cX11_reckonAll 111 = .ok (.iload_n 3, 1) := by decide +kernel
theorem dX11_reckonAll_112 : decode cX11_reckonAll 112 = .ok (.iload 5, 2) := by decide +kernel
theorem dX11_reckonAll_114 : decode cX11_reckonAll 114 = .ok (.ifCond .ne 9, 3) := by decide +kernel
theorem dX11_reckonAll_117 : decode cX11_reckonAll 117 = .ok (.iload 6, 2) := by decide +kernel
theorem dX11_reckonAll_119 : decode cX11_reckonAll 119 = .ok (.i2l, 1) := by decide +kernel
theorem dX11_reckonAll_120 : decode cX11_reckonAll 120 = .ok (.goto 97, 3) := by decide +kernel
theorem dX11_reckonAll_123 : decode cX11_reckonAll 123 = .ok (.aload_n 0, 1) := by decide +kernel
theorem dX11_reckonAll_124 : decode cX11_reckonAll 124 = .ok (.getfield 316, 3) := by decide +kernel
theorem dX11_reckonAll_127 : decode cX11_reckonAll 127 = .ok (.ifCond .ne 13, 3) := by decide +kernel
theorem dX11_reckonAll_130 : decode cX11_reckonAll 130 = .ok (.aload_n 0, 1) := by decide +kernel
theorem dX11_reckonAll_131 : decode cX11_reckonAll 131 = .ok (.getfield 103, 3) := by decide +kernel
theorem dX11_reckonAll_134 : decode cX11_reckonAll 134 = .ok (.iload 5, 2) := by decide +kernel
theorem dX11_reckonAll_136 : decode cX11_reckonAll 136 = .ok (.laload, 1) := by decide +kernel
theorem dX11_reckonAll_137 : decode cX11_reckonAll 137 = .ok (.goto 80, 3) := by decide +kernel
theorem dX11_reckonAll_140 : decode cX11_reckonAll 140 = .ok (.iload 5, 2) := by decide +kernel
theorem dX11_reckonAll_142 : decode cX11_reckonAll 142 = .ok (.bipush 6, 2) := by decide +kernel
theorem dX11_reckonAll_144 : decode cX11_reckonAll 144 = .ok (.if_icmp .ge 13, 3) := by decide +kernel
theorem dX11_reckonAll_147 : decode cX11_reckonAll 147 = .ok (.aload_n 0, 1) := by decide +kernel
theorem dX11_reckonAll_148 : decode cX11_reckonAll 148 = .ok (.getfield 106, 3) := by decide +kernel
theorem dX11_reckonAll_151 : decode cX11_reckonAll 151 = .ok (.iload 5, 2) := by decide +kernel
theorem dX11_reckonAll_153 : decode cX11_reckonAll 153 = .ok (.laload, 1) := by decide +kernel
theorem dX11_reckonAll_154 : decode cX11_reckonAll 154 = .ok (.goto 63, 3) := by decide +kernel
theorem dX11_reckonAll_157 : decode cX11_reckonAll 157 = .ok (.iload 5, 2) := by decide +kernel
theorem dX11_reckonAll_159 : decode cX11_reckonAll 159 = .ok (.bipush 6, 2) := by decide +kernel
theorem dX11_reckonAll_161 : decode cX11_reckonAll 161 = .ok (.if_icmp .ne 30, 3) := by decide +kernel
theorem dX11_reckonAll_164 : decode cX11_reckonAll 164 = .ok (.aload_n 0, 1) := by decide +kernel
theorem dX11_reckonAll_165 : decode cX11_reckonAll 165 = .ok (.iload 6, 2) := by decide +kernel
theorem dX11_reckonAll_167 : decode cX11_reckonAll 167 = .ok (.invokevirtual 203, 3) := by decide +kernel
theorem dX11_reckonAll_170 : decode cX11_reckonAll 170 = .ok (.ifCond .eq 16, 3) := by decide +kernel
theorem dX11_reckonAll_173 : decode cX11_reckonAll 173 = .ok (.aload_n 0, 1) := by decide +kernel
theorem dX11_reckonAll_174 : decode cX11_reckonAll 174 = .ok (.getfield 13, 3) := by decide +kernel
theorem dX11_reckonAll_177 : decode cX11_reckonAll 177 = .ok (.bipush 18, 2) := by decide +kernel
theorem dX11_reckonAll_179 : decode cX11_reckonAll 179 = .ok (.iload 6, 2) := by decide +kernel
theorem dX11_reckonAll_181 : decode cX11_reckonAll 181 = .ok (.iadd, 1) := by decide +kernel
theorem dX11_reckonAll_182 : decode cX11_reckonAll 182 = .ok (.iaload, 1) := by decide +kernel
theorem dX11_reckonAll_183 : decode cX11_reckonAll 183 = .ok (.goto 4, 3) := by decide +kernel
theorem dX11_reckonAll_186 : decode cX11_reckonAll 186 = .ok (.iconst (-1), 1) := by decide +kernel
theorem dX11_reckonAll_187 : decode cX11_reckonAll 187 = .ok (.i2l, 1) := by decide +kernel
theorem dX11_reckonAll_188 : decode cX11_reckonAll 188 = .ok (.goto 29, 3) := by decide +kernel
theorem dX11_reckonAll_191 : decode cX11_reckonAll 191 = .ok (.aload_n 0, 1) := by decide +kernel
theorem dX11_reckonAll_192 : decode cX11_reckonAll 192 = .ok (.iload 6, 2) := by decide +kernel
theorem dX11_reckonAll_194 : decode cX11_reckonAll 194 = .ok (.invokevirtual 200, 3) := by decide +kernel
theorem dX11_reckonAll_197 : decode cX11_reckonAll 197 = .ok (.ifCond .eq 17, 3) := by decide +kernel
theorem dX11_reckonAll_200 : decode cX11_reckonAll 200 = .ok (.aload_n 0, 1) := by decide +kernel
theorem dX11_reckonAll_201 : decode cX11_reckonAll 201 = .ok (.getfield 13, 3) := by decide +kernel
theorem dX11_reckonAll_204 : decode cX11_reckonAll 204 = .ok (.bipush 8, 2) := by decide +kernel
theorem dX11_reckonAll_206 : decode cX11_reckonAll 206 = .ok (.iload 6, 2) := by decide +kernel
theorem dX11_reckonAll_208 : decode cX11_reckonAll 208 = .ok (.iadd, 1) := by decide +kernel
theorem dX11_reckonAll_209 : decode cX11_reckonAll 209 = .ok (.iaload, 1) := by decide +kernel
theorem dX11_reckonAll_210 : decode cX11_reckonAll 210 = .ok (.i2l, 1) := by decide +kernel
theorem dX11_reckonAll_211 : decode cX11_reckonAll 211 = .ok (.goto 6, 3) := by decide +kernel
theorem dX11_reckonAll_214 : decode cX11_reckonAll 214 = .ok (.ldc2_w 266, 3) := by decide +kernel
theorem dX11_reckonAll_217 : decode cX11_reckonAll 217 = .ok (.lastore, 1) := by decide +kernel
theorem dX11_reckonAll_218 : decode cX11_reckonAll 218 = .ok (.iinc 3 1, 3) := by decide +kernel
theorem dX11_reckonAll_221 : decode cX11_reckonAll 221 = .ok (.goto 142, 3) := by decide +kernel
theorem dX11_reckonAll_224 : decode cX11_reckonAll 224 = .ok (.iload 5, 2) := by decide +kernel
theorem dX11_reckonAll_226 : decode cX11_reckonAll 226 = .ok (.bipush 28, 2) := by decide +kernel
theorem dX11_reckonAll_228 : decode cX11_reckonAll 228 = .ok (.if_icmp .ge 73, 3) := by decide +kernel
theorem dX11_reckonAll_231 : decode cX11_reckonAll 231 = .ok (.iinc 3 (-1), 3) := by decide +kernel
theorem dX11_reckonAll_234 : decode cX11_reckonAll 234 = .ok (.aload_n 0, 1) := by decide +kernel
theorem dX11_reckonAll_235 : decode cX11_reckonAll 235 = .ok (.getfield 109, 3) := by decide +kernel
theorem dX11_reckonAll_238 : decode cX11_reckonAll 238 = .ok (.iload_n 3, 1) := by decide +kernel
theorem dX11_reckonAll_239 : decode cX11_reckonAll 239 = .ok (.iconst 1, 1) := by decide +kernel
theorem dX11_reckonAll_240 : decode cX11_reckonAll 240 = .ok (.isub, 1) := by decide +kernel
theorem dX11_reckonAll_241 : decode cX11_reckonAll 241 = .ok (.aload_n 0, 1) := by decide +kernel
theorem dX11_reckonAll_242 : decode cX11_reckonAll 242 = .ok (.iload 5, 2) := by decide +kernel
theorem dX11_reckonAll_244 : decode cX11_reckonAll 244 = .ok (.aload_n 0, 1) := by decide +kernel
theorem dX11_reckonAll_245 : decode cX11_reckonAll 245 = .ok (.getfield 109, 3) := by decide +kernel
theorem dX11_reckonAll_248 : decode cX11_reckonAll 248 = .ok (.iload_n 3, 1) := by decide +kernel
theorem dX11_reckonAll_249 : decode cX11_reckonAll 249 = .ok (.iconst 1, 1) := by decide +kernel
theorem dX11_reckonAll_250 : decode cX11_reckonAll 250 = .ok (.isub, 1) := by decide +kernel
theorem dX11_reckonAll_251 : decode cX11_reckonAll 251 = .ok (.laload, 1) := by decide +kernel
theorem dX11_reckonAll_252 : decode cX11_reckonAll 252 = .ok (.aload_n 0, 1) := by decide +kernel
theorem dX11_reckonAll_253 : decode cX11_reckonAll 253 = .ok (.getfield 109, 3) := by decide +kernel
theorem dX11_reckonAll_256 : decode cX11_reckonAll 256 = .ok (.iload_n 3, 1) := by decide +kernel
theorem dX11_reckonAll_257 : decode cX11_reckonAll 257 = .ok (.laload, 1) := by decide +kernel
theorem dX11_reckonAll_258 : decode cX11_reckonAll 258 = .ok (.invokevirtual 396, 3) := by decide +kernel
theorem dX11_reckonAll_261 : decode cX11_reckonAll 261 = .ok (.lastore, 1) := by decide +kernel
theorem dX11_reckonAll_262 : decode cX11_reckonAll 262 = .ok (.aload_n 0, 1) := by decide +kernel
theorem dX11_reckonAll_263 : decode cX11_reckonAll 263 = .ok (.aload_n 0, 1) := by decide +kernel
theorem dX11_reckonAll_264 : decode cX11_reckonAll 264 = .ok (.getfield 390, 3) := by decide +kernel
theorem dX11_reckonAll_267 : decode cX11_reckonAll 267 = .ok (.ifCond .ne 23, 3) := by decide +kernel
theorem dX11_reckonAll_270 : decode cX11_reckonAll 270 = .ok (.aload_n 0, 1) := by decide +kernel
theorem dX11_reckonAll_271 : decode cX11_reckonAll 271 = .ok (.getfield 109, 3) := by decide +kernel
theorem dX11_reckonAll_274 : decode cX11_reckonAll 274 = .ok (.iload_n 3, 1) := by decide +kernel
theorem dX11_reckonAll_275 : decode cX11_reckonAll 275 = .ok (.iconst 1, 1) := by decide +kernel
theorem dX11_reckonAll_276 : decode cX11_reckonAll 276 = .ok (.isub, 1) := by decide +kernel
theorem dX11_reckonAll_277 : decode cX11_reckonAll 277 = .ok (.laload, 1) := by decide +kernel
theorem dX11_reckonAll_278 : decode cX11_reckonAll 278 = .ok (.ldc2_w 400, 3) := by decide +kernel
theorem dX11_reckonAll_281 : decode cX11_reckonAll 281 = .ok (.ldc2_w 402, 3) := by decide +kernel
theorem dX11_reckonAll_284 : decode cX11_reckonAll 284 = .ok (.invokestatic 179, 3) := by decide +kernel
theorem dX11_reckonAll_287 : decode cX11_reckonAll 287 = .ok (.ifCond .ne 7, 3) := by decide +kernel
theorem dX11_reckonAll_290 : decode cX11_reckonAll 290 = .ok (.iconst 1, 1) := by decide +kernel
theorem dX11_reckonAll_291 : decode cX11_reckonAll 291 = .ok (.goto 4, 3) := by decide +kernel
theorem dX11_reckonAll_294 : decode cX11_reckonAll 294 = .ok (.iconst 0, 1) := by decide +kernel
theorem dX11_reckonAll_295 : decode cX11_reckonAll 295 = .ok (.putfield 390, 3) := by decide +kernel
theorem dX11_reckonAll_298 : decode cX11_reckonAll 298 = .ok (.goto 65, 3) := by decide +kernel
theorem dX11_reckonAll_301 : decode cX11_reckonAll 301 = .ok (.iload 5, 2) := by decide +kernel
theorem dX11_reckonAll_303 : decode cX11_reckonAll 303 = .ok (.bipush 28, 2) := by decide +kernel
theorem dX11_reckonAll_305 : decode cX11_reckonAll 305 = .ok (.if_icmp .ne 24, 3) := by decide +kernel
theorem dX11_reckonAll_308 : decode cX11_reckonAll 308 = .ok (.aload_n 0, 1) := by decide +kernel
theorem dX11_reckonAll_309 : decode cX11_reckonAll 309 = .ok (.getfield 109, 3) := by decide +kernel
theorem dX11_reckonAll_312 : decode cX11_reckonAll 312 = .ok (.iload_n 3, 1) := by decide +kernel
theorem dX11_reckonAll_313 : decode cX11_reckonAll 313 = .ok (.iconst 1, 1) := by decide +kernel
theorem dX11_reckonAll_314 : decode cX11_reckonAll 314 = .ok (.isub, 1) := by decide +kernel
theorem dX11_reckonAll_315 : decode cX11_reckonAll 315 = .ok (.lconst 1, 1) := by decide +kernel
theorem dX11_reckonAll_316 : decode cX11_reckonAll 316 = .ok (.aload_n 0, 1) := by decide +kernel
theorem dX11_reckonAll_317 : decode cX11_reckonAll 317 = .ok (.getfield 109, 3) := by decide +kernel
theorem dX11_reckonAll_320 : decode cX11_reckonAll 320 = .ok (.iload_n 3, 1) := by decide +kernel
theorem dX11_reckonAll_321 : decode cX11_reckonAll 321 = .ok (.iconst 1, 1) := by decide +kernel
theorem dX11_reckonAll_322 : decode cX11_reckonAll 322 = .ok (.isub, 1) := by decide +kernel
theorem dX11_reckonAll_323 : decode cX11_reckonAll 323 = .ok (.laload, 1) := by decide +kernel
theorem dX11_reckonAll_324 : decode cX11_reckonAll 324 = .ok (.lsub, 1) := by decide +kernel
theorem dX11_reckonAll_325 : decode cX11_reckonAll 325 = .ok (.lastore, 1) := by decide +kernel
theorem dX11_reckonAll_326 : decode cX11_reckonAll 326 = .ok (.goto 37, 3) := by decide +kernel
theorem dX11_reckonAll_329 : decode cX11_reckonAll 329 = .ok (.aload_n 0, 1) := by decide +kernel
theorem dX11_reckonAll_330 : decode cX11_reckonAll 330 = .ok (.getfield 109, 3) := by decide +kernel
theorem dX11_reckonAll_333 : decode cX11_reckonAll 333 = .ok (.iload_n 3, 1) := by decide +kernel
theorem dX11_reckonAll_334 : decode cX11_reckonAll 334 = .ok (.iconst 1, 1) := by decide +kernel
theorem dX11_reckonAll_335 : decode cX11_reckonAll 335 = .ok (.isub, 1) := by decide +kernel
theorem dX11_reckonAll_336 : decode cX11_reckonAll 336 = .ok (.laload, 1) := by decide +kernel
theorem dX11_reckonAll_337 : decode cX11_reckonAll 337 = .ok (.iload 5, 2) := by decide +kernel
theorem dX11_reckonAll_339 : decode cX11_reckonAll 339 = .ok (.bipush 29, 2) := by decide +kernel
theorem dX11_reckonAll_341 : decode cX11_reckonAll 341 = .ok (.if_icmp .ne 7, 3) := by decide +kernel
theorem dX11_reckonAll_344 : decode cX11_reckonAll 344 = .ok (.lconst 0, 1) := by decide +kernel
theorem dX11_reckonAll_345 : decode cX11_reckonAll 345 = .ok (.goto 4, 3) := by decide +kernel
theorem dX11_reckonAll_348 : decode cX11_reckonAll 348 = .ok (.lconst 1, 1) := by decide +kernel
theorem dX11_reckonAll_349 : decode cX11_reckonAll 349 = .ok (.lcmp, 1) := by decide +kernel
theorem dX11_reckonAll_350 : decode cX11_reckonAll 350 = .ok (.ifCond .ne 10, 3) := by decide +kernel
theorem dX11_reckonAll_353 : decode cX11_reckonAll 353 = .ok (.iload 6, 2) := by decide +kernel
theorem dX11_reckonAll_355 : decode cX11_reckonAll 355 = .ok (.istore 4, 2) := by decide +kernel
theorem dX11_reckonAll_357 : decode cX11_reckonAll 357 = .ok (.goto 6, 3) := by decide +kernel
theorem dX11_reckonAll_360 : decode cX11_reckonAll 360 = .ok (.iinc 3 (-1), 3) := by decide +kernel
theorem dX11_reckonAll_363 : decode cX11_reckonAll 363 = .ok (.goto (-353), 3) := by decide +kernel
theorem dX11_reckonAll_366 : decode cX11_reckonAll 366 = .ok (.aload_n 0, 1) := by decide +kernel
theorem dX11_reckonAll_367 : decode cX11_reckonAll 367 = .ok (.iload_n 3, 1) := by decide +kernel
theorem dX11_reckonAll_368 : decode cX11_reckonAll 368 = .ok (.ifCond .le 12, 3) := by decide +kernel
theorem dX11_reckonAll_371 : decode cX11_reckonAll 371 = .ok (.aload_n 0, 1) := by decide +kernel
theorem dX11_reckonAll_372 : decode cX11_reckonAll 372 = .ok (.getfield 109, 3) := by decide +kernel
theorem dX11_reckonAll_375 : decode cX11_reckonAll 375 = .ok (.iconst 0, 1) := by decide +kernel
theorem dX11_reckonAll_376 : decode cX11_reckonAll 376 = .ok (.laload, 1) := by decide +kernel
theorem dX11_reckonAll_377 : decode cX11_reckonAll 377 = .ok (.goto 4, 3) := by decide +kernel
theorem dX11_reckonAll_380 : decode cX11_reckonAll 380 = .ok (.lconst 0, 1) := by decide +kernel
theorem dX11_reckonAll_381 : decode cX11_reckonAll 381 = .ok (.putfield 404, 3) := by decide +kernel
theorem dX11_reckonAll_384 : decode cX11_reckonAll 384 = .ok (.return_, 1) := by decide +kernel
theorem dX11_isSo_0 : decode cX11_isSo 0 = .ok (.aload_n 0, 1) := by decide +kernel
theorem dX11_isSo_1 : decode cX11_isSo 1 = .ok (.getfield 13, 3) := by decide +kernel
theorem dX11_isSo_4 : decode cX11_isSo 4 = .ok (.iload_n 1, 1) := by decide +kernel
theorem dX11_isSo_5 : decode cX11_isSo 5 = .ok (.iconst 5, 1) := by decide +kernel
theorem dX11_isSo_6 : decode cX11_isSo 6 = .ok (.iadd, 1) := by decide +kernel
theorem dX11_isSo_7 : decode cX11_isSo 7 = .ok (.iaload, 1) := by decide +kernel
theorem dX11_isSo_8 : decode cX11_isSo 8 = .ok (.aload_n 0, 1) := by decide +kernel
theorem dX11_isSo_9 : decode cX11_isSo 9 = .ok (.getfield 13, 3) := by decide +kernel
theorem dX11_isSo_12 : decode cX11_isSo 12 = .ok (.iload_n 1, 1) := by decide +kernel
theorem dX11_isSo_13 : decode cX11_isSo 13 = .ok (.bipush 6, 2) := by decide +kernel
theorem dX11_isSo_15 : decode cX11_isSo 15 = .ok (.iadd, 1) := by decide +kernel
theorem dX11_isSo_16 : decode cX11_isSo 16 = .ok (.iaload, 1) := by decide +kernel
theorem dX11_isSo_17 : decode cX11_isSo 17 = .ok (.if_icmp .ge 42, 3) := by decide +kernel
theorem dX11_isSo_20 : decode cX11_isSo 20 = .ok (.aload_n 0, 1) := by decide +kernel
theorem dX11_isSo_21 : decode cX11_isSo 21 = .ok (.aload_n 0, 1) := by decide +kernel
theorem dX11_isSo_22 : decode cX11_isSo 22 = .ok (.getfield 13, 3) := by decide +kernel
theorem dX11_isSo_25 : decode cX11_isSo 25 = .ok (.iload_n 1, 1) := by decide +kernel
theorem dX11_isSo_26 : decode cX11_isSo 26 = .ok (.iconst 5, 1) := by decide +kernel
theorem dX11_isSo_27 : decode cX11_isSo 27 = .ok (.iadd, 1) := by decide +kernel
theorem dX11_isSo_28 : decode cX11_isSo 28 = .ok (.iaload, 1) := by decide +kernel
theorem dX11_isSo_29 : decode cX11_isSo 29 = .ok (.aload_n 0, 1) := by decide +kernel
theorem dX11_isSo_30 : decode cX11_isSo 30 = .ok (.getfield 13, 3) := by decide +kernel
theorem dX11_isSo_33 : decode cX11_isSo 33 = .ok (.iload_n 1, 1) := by decide +kernel
theorem dX11_isSo_34 : decode cX11_isSo 34 = .ok (.bipush 6, 2) := by decide +kernel
theorem dX11_isSo_36 : decode cX11_isSo 36 = .ok (.iadd, 1) := by decide +kernel
theorem dX11_isSo_37 : decode cX11_isSo 37 = .ok (.iaload, 1) := by decide +kernel
theorem dX11_isSo_38 : decode cX11_isSo 38 = .ok (.invokevirtual 407, 3) := by decide +kernel
theorem dX11_isSo_41 : decode cX11_isSo 41 = .ok (.aload_n 0, 1) := by decide +kernel
theorem dX11_isSo_42 : decode cX11_isSo 42 = .ok (.getfield 390, 3) := by decide +kernel
theorem dX11_isSo_45 : decode cX11_isSo 45 = .ok (.ifCond .ne 12, 3) := by decide +kernel
theorem dX11_isSo_48 : decode cX11_isSo 48 = .ok (.aload_n 0, 1) := by decide +kernel
theorem dX11_isSo_49 : decode cX11_isSo 49 = .ok (.getfield 404, 3) := by decide +kernel
theorem dX11_isSo_52 : decode cX11_isSo 52 = .ok (.lconst 0, 1) := by decide +kernel
theorem dX11_isSo_53 : decode cX11_isSo 53 = .ok (.lcmp, 1) := by decide +kernel
theorem dX11_isSo_54 : decode cX11_isSo 54 = .ok (.ifCond .ne 5, 3) := by decide +kernel
theorem dX11_isSo_57 : decode cX11_isSo 57 = .ok (.iconst 0, 1) := by decide +kernel
theorem dX11_isSo_58 : decode cX11_isSo 58 = .ok (.ireturn, 1) := by decide +kernel
theorem dX11_isSo_59 : decode cX11_isSo 59 = .ok (.aload_n 0, 1) := by decide +kernel
theorem dX11_isSo_60 : decode cX11_isSo 60 = .ok (.getfield 13, 3) := by decide +kernel
theorem dX11_isSo_63 : decode cX11_isSo 63 = .ok (.iload_n 1, 1) := by decide +kernel
theorem dX11_isSo_64 : decode cX11_isSo 64 = .ok (.iaload, 1) := by decide +kernel
theorem dX11_isSo_65 : decode cX11_isSo 65 = .ok (.iconst 2, 1) := by decide +kernel
theorem dX11_isSo_66 : decode cX11_isSo 66 = .ok (.if_icmp .eq 44, 3) := by decide +kernel
theorem dX11_isSo_69 : decode cX11_isSo 69 = .ok (.aload_n 0, 1) := by decide +kernel
theorem dX11_isSo_70 : decode cX11_isSo 70 = .ok (.aload_n 0, 1) := by decide +kernel
theorem dX11_isSo_71 : decode cX11_isSo 71 = .ok (.getfield 13, 3) := by decide +kernel
theorem dX11_isSo_74 : decode cX11_isSo 74 = .ok (.iload_n 1, 1) := by decide +kernel
theorem dX11_isSo_75 : decode cX11_isSo 75 = .ok (.iconst 3, 1) := by decide +kernel
theorem dX11_isSo_76 : decode cX11_isSo 76 = .ok (.iadd, 1) := by decide +kernel
theorem dX11_isSo_77 : decode cX11_isSo 77 = .ok (.iaload, 1) := by decide +kernel
theorem dX11_isSo_78 : decode cX11_isSo 78 = .ok (.aload_n 0, 1) := by decide +kernel
theorem dX11_isSo_79 : decode cX11_isSo 79 = .ok (.getfield 13, 3) := by decide +kernel
theorem dX11_isSo_82 : decode cX11_isSo 82 = .ok (.iload_n 1, 1) := by decide +kernel
theorem dX11_isSo_83 : decode cX11_isSo 83 = .ok (.iconst 4, 1) := by decide +kernel
theorem dX11_isSo_84 : decode cX11_isSo 84 = .ok (.iadd, 1) := by decide +kernel
theorem dX11_isSo_85 : decode cX11_isSo 85 = .ok (.iaload, 1) := by decide +kernel
theorem dX11_isSo_86 : decode cX11_isSo 86 = .ok (.invokevirtual 407, 3) := by decide +kernel
theorem dX11_isSo_89 : decode cX11_isSo 89 = .ok (.aload_n 0, 1) := by decide +kernel
theorem dX11_isSo_90 : decode cX11_isSo 90 = .ok (.aload_n 0, 1) := by decide +kernel
theorem dX11_isSo_91 : decode cX11_isSo 91 = .ok (.getfield 404, 3) := by decide +kernel
theorem dX11_isSo_94 : decode cX11_isSo 94 = .ok (.putfield 410, 3) := by decide +kernel
theorem dX11_isSo_97 : decode cX11_isSo 97 = .ok (.aload_n 0, 1) := by decide +kernel
theorem dX11_isSo_98 : decode cX11_isSo 98 = .ok (.getfield 390, 3) := by decide +kernel
theorem dX11_isSo_101 : decode cX11_isSo 101 = .ok (.ifCond .ne 7, 3) := by decide +kernel
theorem dX11_isSo_104 : decode cX11_isSo 104 = .ok (.iconst 1, 1) := by decide +kernel
theorem dX11_isSo_105 : decode cX11_isSo 105 = .ok (.goto 4, 3) := by decide +kernel
theorem dX11_isSo_108 : decode cX11_isSo 108 = .ok (.iconst 0, 1) := by decide +kernel
theorem dX11_isSo_109 : decode cX11_isSo 109 = .ok (.ireturn, 1) := by decide +kernel
theorem dX11_isSo_110 : decode cX11_isSo 110 = .ok (.iconst 1, 1) := by decide +kernel
theorem dX11_isSo_111 : decode cX11_isSo 111 = .ok (.ireturn, 1) := by decide +kernel
theorem dX11_tells_0 : decode cX11_tells 0 = .ok (.aload_n 0, 1) := by decide +kernel
theorem dX11_tells_1 : decode cX11_tells 1 = .ok (.getfield 13, 3) := by decide +kernel
theorem dX11_tells_4 : decode cX11_tells 4 = .ok (.iconst 4, 1) := by decide +kernel
theorem dX11_tells_5 : decode cX11_tells 5 = .ok (.iaload, 1) := by decide +kernel
theorem dX11_tells_6 : decode cX11_tells 6 = .ok (.iconst (-1), 1) := by decide +kernel
theorem dX11_tells_7 : decode cX11_tells 7 = .ok (.if_icmp .ne 6, 3) := by decide +kernel
theorem dX11_tells_10 : decode cX11_tells 10 = .ok (.lload 4, 2) := by decide +kernel
theorem dX11_tells_12 : decode cX11_tells 12 = .ok (.lreturn, 1) := by decide +kernel
theorem dX11_tells_13 : decode cX11_tells 13 = .ok (.aload_n 0, 1) := by decide +kernel
theorem dX11_tells_14 : decode cX11_tells 14 = .ok (.bipush 76, 2) := by decide +kernel
theorem dX11_tells_16 : decode cX11_tells 16 = .ok (.sipush 900, 3) := by decide +kernel
theorem dX11_tells_19 : decode cX11_tells 19 = .ok (.aload_n 0, 1) := by decide +kernel
theorem dX11_tells_20 : decode cX11_tells 20 = .ok (.getfield 13, 3) := by decide +kernel
theorem dX11_tells_23 : decode cX11_tells 23 = .ok (.iconst 4, 1) := by decide +kernel
theorem dX11_tells_24 : decode cX11_tells 24 = .ok (.iaload, 1) := by decide +kernel
theorem dX11_tells_25 : decode cX11_tells 25 = .ok (.imul, 1) := by decide +kernel
theorem dX11_tells_26 : decode cX11_tells 26 = .ok (.iadd, 1) := by decide +kernel
theorem dX11_tells_27 : decode cX11_tells 27 = .ok (.putfield 393, 3) := by decide +kernel
theorem dX11_tells_30 : decode cX11_tells 30 = .ok (.aload_n 0, 1) := by decide +kernel
theorem dX11_tells_31 : decode cX11_tells 31 = .ok (.getfield 103, 3) := by decide +kernel
theorem dX11_tells_34 : decode cX11_tells 34 = .ok (.iconst 1, 1) := by decide +kernel
theorem dX11_tells_35 : decode cX11_tells 35 = .ok (.iload_n 2, 1) := by decide +kernel
theorem dX11_tells_36 : decode cX11_tells 36 = .ok (.i2l, 1) := by decide +kernel
theorem dX11_tells_37 : decode cX11_tells 37 = .ok (.lastore, 1) := by decide +kernel
theorem dX11_tells_38 : decode cX11_tells 38 = .ok (.aload_n 0, 1) := by decide +kernel
theorem dX11_tells_39 : decode cX11_tells 39 = .ok (.getfield 103, 3) := by decide +kernel
theorem dX11_tells_42 : decode cX11_tells 42 = .ok (.iconst 2, 1) := by decide +kernel
theorem dX11_tells_43 : decode cX11_tells 43 = .ok (.aload_n 0, 1) := by decide +kernel
theorem dX11_tells_44 : decode cX11_tells 44 = .ok (.getfield 13, 3) := by decide +kernel
theorem dX11_tells_47 : decode cX11_tells 47 = .ok (.bipush 66, 2) := by decide +kernel
theorem dX11_tells_49 : decode cX11_tells 49 = .ok (.iload_n 2, 1) := by decide +kernel
theorem dX11_tells_50 : decode cX11_tells 50 = .ok (.iadd, 1) := by decide +kernel
theorem dX11_tells_51 : decode cX11_tells 51 = .ok (.iaload, 1) := by decide +kernel
theorem dX11_tells_52 : decode cX11_tells 52 = .ok (.i2l, 1) := by decide +kernel
theorem dX11_tells_53 : decode cX11_tells 53 = .ok (.lastore, 1) := by decide +kernel
theorem dX11_tells_54 : decode cX11_tells 54 = .ok (.aload_n 0, 1) := by decide +kernel
theorem dX11_tells_55 : decode cX11_tells 55 = .ok (.getfield 103, 3) := by decide +kernel
theorem dX11_tells_58 : decode cX11_tells 58 = .ok (.iconst 3, 1) := by decide +kernel
theorem dX11_tells_59 : decode cX11_tells 59 = .ok (.iload_n 3, 1) := by decide +kernel
theorem dX11_tells_60 : decode cX11_tells 60 = .ok (.i2l, 1) := by decide +kernel
theorem dX11_tells_61 : decode cX11_tells 61 = .ok (.lastore, 1) := by decide +kernel
theorem dX11_tells_62 : decode cX11_tells 62 = .ok (.aload_n 0, 1) := by decide +kernel
theorem dX11_tells_63 : decode cX11_tells 63 = .ok (.getfield 103, 3) := by decide +kernel
theorem dX11_tells_66 : decode cX11_tells 66 = .ok (.iconst 4, 1) := by decide +kernel
theorem dX11_tells_67 : decode cX11_tells 67 = .ok (.iload_n 3, 1) := by decide +kernel
theorem dX11_tells_68 : decode cX11_tells 68 = .ok (.iconst (-1), 1) := by decide +kernel
theorem dX11_tells_69 : decode cX11_tells 69 = .ok (.if_icmp .ne 9, 3) := by decide +kernel
theorem dX11_tells_72 : decode cX11_tells 72 = .ok (.ldc2_w 266, 3) := by decide +kernel
theorem dX11_tells_75 : decode cX11_tells 75 = .ok (.goto 13, 3) := by decide +kernel
theorem dX11_tells_78 : decode cX11_tells 78 = .ok (.aload_n 0, 1) := by decide +kernel
theorem dX11_tells_79 : decode cX11_tells 79 = .ok (.getfield 13, 3) := by decide +kernel
theorem dX11_tells_82 : decode cX11_tells 82 = .ok (.bipush 46, 2) := by decide +kernel
theorem dX11_tells_84 : decode cX11_tells 84 = .ok (.iload_n 3, 1) := by decide +kernel
theorem dX11_tells_85 : decode cX11_tells 85 = .ok (.iadd, 1) := by decide +kernel
theorem dX11_tells_86 : decode cX11_tells 86 = .ok (.iaload, 1) := by decide +kernel
theorem dX11_tells_87 : decode cX11_tells 87 = .ok (.i2l, 1) := by decide +kernel
theorem dX11_tells_88 : decode cX11_tells 88 = .ok (.lastore, 1) := by decide +kernel
theorem dX11_tells_89 : decode cX11_tells 89 = .ok (.aload_n 0, 1) := by decide +kernel
theorem dX11_tells_90 : decode cX11_tells 90 = .ok (.getfield 103, 3) := by decide +kernel
theorem dX11_tells_93 : decode cX11_tells 93 = .ok (.iconst 5, 1) := by decide +kernel
theorem dX11_tells_94 : decode cX11_tells 94 = .ok (.iload_n 3, 1) := by decide +kernel
theorem dX11_tells_95 : decode cX11_tells 95 = .ok (.iconst (-1), 1) := by decide +kernel
theorem dX11_tells_96 : decode cX11_tells 96 = .ok (.if_icmp .ne 9, 3) := by decide +kernel
theorem dX11_tells_99 : decode cX11_tells 99 = .ok (.ldc2_w 266, 3) := by decide +kernel
theorem dX11_tells_102 : decode cX11_tells 102 = .ok (.goto 13, 3) := by decide +kernel
theorem dX11_tells_105 : decode cX11_tells 105 = .ok (.aload_n 0, 1) := by decide +kernel
theorem dX11_tells_106 : decode cX11_tells 106 = .ok (.getfield 13, 3) := by decide +kernel
theorem dX11_tells_109 : decode cX11_tells 109 = .ok (.bipush 56, 2) := by decide +kernel
theorem dX11_tells_111 : decode cX11_tells 111 = .ok (.iload_n 3, 1) := by decide +kernel
theorem dX11_tells_112 : decode cX11_tells 112 = .ok (.iadd, 1) := by decide +kernel
theorem dX11_tells_113 : decode cX11_tells 113 = .ok (.iaload, 1) := by decide +kernel
theorem dX11_tells_114 : decode cX11_tells 114 = .ok (.i2l, 1) := by decide +kernel
theorem dX11_tells_115 : decode cX11_tells 115 = .ok (.lastore, 1) := by decide +kernel
theorem dX11_tells_116 : decode cX11_tells 116 = .ok (.aload_n 0, 1) := by decide +kernel
theorem dX11_tells_117 : decode cX11_tells 117 = .ok (.getfield 103, 3) := by decide +kernel
theorem dX11_tells_120 : decode cX11_tells 120 = .ok (.bipush 6, 2) := by decide +kernel
theorem dX11_tells_122 : decode cX11_tells 122 = .ok (.aload_n 0, 1) := by decide +kernel
theorem dX11_tells_123 : decode cX11_tells 123 = .ok (.getfield 13, 3) := by decide +kernel
theorem dX11_tells_126 : decode cX11_tells 126 = .ok (.bipush 18, 2) := by decide +kernel
theorem dX11_tells_128 : decode cX11_tells 128 = .ok (.iload_n 2, 1) := by decide +kernel
theorem dX11_tells_129 : decode cX11_tells 129 = .ok (.iadd, 1) := by decide +kernel
theorem dX11_tells_130 : decode cX11_tells 130 = .ok (.iaload, 1) := by decide +kernel
theorem dX11_tells_131 : decode cX11_tells 131 = .ok (.i2l, 1) := by decide +kernel
theorem dX11_tells_132 : decode cX11_tells 132 = .ok (.lastore, 1) := by decide +kernel
theorem dX11_tells_133 : decode cX11_tells 133 = .ok (.aload_n 0, 1) := by decide +kernel
theorem dX11_tells_134 : decode cX11_tells 134 = .ok (.getfield 103, 3) := by decide +kernel
theorem dX11_tells_137 : decode cX11_tells 137 = .ok (.bipush 7, 2) := by decide +kernel
theorem dX11_tells_139 : decode cX11_tells 139 = .ok (.aload_n 0, 1) := by decide +kernel
theorem dX11_tells_140 : decode cX11_tells 140 = .ok (.getfield 13, 3) := by decide +kernel
theorem dX11_tells_143 : decode cX11_tells 143 = .ok (.bipush 22, 2) := by decide +kernel
theorem dX11_tells_145 : decode cX11_tells 145 = .ok (.iload_n 2, 1) := by decide +kernel
theorem dX11_tells_146 : decode cX11_tells 146 = .ok (.iadd, 1) := by decide +kernel
theorem dX11_tells_147 : decode cX11_tells 147 = .ok (.iaload, 1) := by decide +kernel
theorem dX11_tells_148 : decode cX11_tells 148 = .ok (.i2l, 1) := by decide +kernel
theorem dX11_tells_149 : decode cX11_tells 149 = .ok (.lastore, 1) := by decide +kernel
theorem dX11_tells_150 : decode cX11_tells 150 = .ok (.aload_n 0, 1) := by decide +kernel
theorem dX11_tells_151 : decode cX11_tells 151 = .ok (.getfield 103, 3) := by decide +kernel
theorem dX11_tells_154 : decode cX11_tells 154 = .ok (.bipush 8, 2) := by decide +kernel
theorem dX11_tells_156 : decode cX11_tells 156 = .ok (.aload_n 0, 1) := by decide +kernel
theorem dX11_tells_157 : decode cX11_tells 157 = .ok (.getfield 13, 3) := by decide +kernel
theorem dX11_tells_160 : decode cX11_tells 160 = .ok (.iconst 5, 1) := by decide +kernel
theorem dX11_tells_161 : decode cX11_tells 161 = .ok (.iaload, 1) := by decide +kernel
theorem dX11_tells_162 : decode cX11_tells 162 = .ok (.i2l, 1) := by decide +kernel
theorem dX11_tells_163 : decode cX11_tells 163 = .ok (.lastore, 1) := by decide +kernel
theorem dX11_tells_164 : decode cX11_tells 164 = .ok (.aload_n 0, 1) := by decide +kernel
theorem dX11_tells_165 : decode cX11_tells 165 = .ok (.getfield 103, 3) := by decide +kernel
theorem dX11_tells_168 : decode cX11_tells 168 = .ok (.bipush 9, 2) := by decide +kernel
theorem dX11_tells_170 : decode cX11_tells 170 = .ok (.aload_n 0, 1) := by decide +kernel
theorem dX11_tells_171 : decode cX11_tells 171 = .ok (.getfield 13, 3) := by decide +kernel
theorem dX11_tells_174 : decode cX11_tells 174 = .ok (.bipush 7, 2) := by decide +kernel
theorem dX11_tells_176 : decode cX11_tells 176 = .ok (.iaload, 1) := by decide +kernel
theorem dX11_tells_177 : decode cX11_tells 177 = .ok (.i2l, 1) := by decide +kernel
theorem dX11_tells_178 : decode cX11_tells 178 = .ok (.lastore, 1) := by decide +kernel
theorem dX11_tells_179 : decode cX11_tells 179 = .ok (.lload 4, 2) := by decide +kernel
theorem dX11_tells_181 : decode cX11_tells 181 = .ok (.lstore 6, 2) := by decide +kernel
theorem dX11_tells_183 : decode cX11_tells 183 = .ok (.iconst 0, 1) := by decide +kernel
theorem dX11_tells_184 : decode cX11_tells 184 = .ok (.istore 8, 2) := by decide +kernel
theorem dX11_tells_186 : decode cX11_tells 186 = .ok (.iload 8, 2) := by decide +kernel
theorem dX11_tells_188 : decode cX11_tells 188 = .ok (.aload_n 0, 1) := by decide +kernel
theorem dX11_tells_189 : decode cX11_tells 189 = .ok (.getfield 13, 3) := by decide +kernel
theorem dX11_tells_192 : decode cX11_tells 192 = .ok (.aload_n 0, 1) := by decide +kernel
theorem dX11_tells_193 : decode cX11_tells 193 = .ok (.getfield 393, 3) := by decide +kernel
theorem dX11_tells_196 : decode cX11_tells 196 = .ok (.iconst 1, 1) := by decide +kernel
theorem dX11_tells_197 : decode cX11_tells 197 = .ok (.iadd, 1) := by decide +kernel
theorem dX11_tells_198 : decode cX11_tells 198 = .ok (.iaload, 1) := by decide +kernel
theorem dX11_tells_199 : decode cX11_tells 199 = .ok (.if_icmp .ge 58, 3) := by decide +kernel
theorem dX11_tells_202 : decode cX11_tells 202 = .ok (.aload_n 0, 1) := by decide +kernel
theorem dX11_tells_203 : decode cX11_tells 203 = .ok (.getfield 393, 3) := by decide +kernel
theorem dX11_tells_206 : decode cX11_tells 206 = .ok (.iconst 2, 1) := by decide +kernel
theorem dX11_tells_207 : decode cX11_tells 207 = .ok (.iadd, 1) := by decide +kernel
theorem dX11_tells_208 : decode cX11_tells 208 = .ok (.bipush 8, 2) := by decide +kernel
theorem dX11_tells_210 : decode cX11_tells 210 = .ok (.iload 8, 2) := by decide +kernel
theorem dX11_tells_212 : decode cX11_tells 212 = .ok (.imul, 1) := by decide +kernel
theorem dX11_tells_213 : decode cX11_tells 213 = .ok (.iadd, 1) := by decide +kernel
theorem dX11_tells_214 : decode cX11_tells 214 = .ok (.istore 9, 2) := by decide +kernel
theorem dX11_tells_216 : decode cX11_tells 216 = .ok (.aload_n 0, 1) := by decide +kernel
theorem dX11_tells_217 : decode cX11_tells 217 = .ok (.getfield 13, 3) := by decide +kernel
theorem dX11_tells_220 : decode cX11_tells 220 = .ok (.iload 9, 2) := by decide +kernel
theorem dX11_tells_222 : decode cX11_tells 222 = .ok (.iaload, 1) := by decide +kernel
theorem dX11_tells_223 : decode cX11_tells 223 = .ok (.iload_n 1, 1) := by decide +kernel
theorem dX11_tells_224 : decode cX11_tells 224 = .ok (.if_icmp .ne 27, 3) := by decide +kernel
theorem dX11_tells_227 : decode cX11_tells 227 = .ok (.aload_n 0, 1) := by decide +kernel
theorem dX11_tells_228 : decode cX11_tells 228 = .ok (.iload 9, 2) := by decide +kernel
theorem dX11_tells_230 : decode cX11_tells 230 = .ok (.invokevirtual 413, 3) := by decide +kernel
theorem dX11_tells_233 : decode cX11_tells 233 = .ok (.ifCond .eq 18, 3) := by decide +kernel
theorem dX11_tells_236 : decode cX11_tells 236 = .ok (.iload_n 1, 1) := by decide +kernel
theorem dX11_tells_237 : decode cX11_tells 237 = .ok (.iconst 2, 1) := by decide +kernel
theorem dX11_tells_238 : decode cX11_tells 238 = .ok (.if_icmp .ne 7, 3) := by decide +kernel
theorem dX11_tells_241 : decode cX11_tells 241 = .ok (.lconst 1, 1) := by decide +kernel
theorem dX11_tells_242 : decode cX11_tells 242 = .ok (.goto 7, 3) := by decide +kernel
theorem dX11_tells_245 : decode cX11_tells 245 = .ok (.aload_n 0, 1) := by decide +kernel
theorem dX11_tells_246 : decode cX11_tells 246 = .ok (.getfield 410, 3) := by decide +kernel
theorem dX11_tells_249 : decode cX11_tells 249 = .ok (.lstore 6, 2) := by decide +kernel
theorem dX11_tells_251 : decode cX11_tells 251 = .ok (.iinc 8 1, 3) := by decide +kernel
theorem dX11_tells_254 : decode cX11_tells 254 = .ok (.goto (-68), 3) := by decide +kernel
theorem dX11_tells_257 : decode cX11_tells 257 = .ok (.lload 6, 2) := by decide +kernel
theorem dX11_tells_259 : decode cX11_tells 259 = .ok (.lreturn, 1) := by decide +kernel
theorem dX11_isBarred_0 : decode cX11_isBarred 0 = .ok (.aload_n 0, 1) := by decide +kernel
theorem dX11_isBarred_1 : decode cX11_isBarred 1 = .ok (.iconst 2, 1) := by decide +kernel
theorem dX11_isBarred_2 : decode cX11_isBarred 2 = .ok (.iload_n 1, 1) := by decide +kernel
theorem dX11_isBarred_3 : decode cX11_isBarred 3 = .ok (.iload_n 2, 1) := by decide +kernel
theorem dX11_isBarred_4 : decode cX11_isBarred 4 = .ok (.lconst 0, 1) := by decide +kernel
theorem dX11_isBarred_5 : decode cX11_isBarred 5 = .ok (.invokevirtual 416, 3) := by decide +kernel
theorem dX11_isBarred_8 : decode cX11_isBarred 8 = .ok (.lconst 1, 1) := by decide +kernel
theorem dX11_isBarred_9 : decode cX11_isBarred 9 = .ok (.lcmp, 1) := by decide +kernel
theorem dX11_isBarred_10 : decode cX11_isBarred 10 = .ok (.ifCond .ne 7, 3) := by decide +kernel
theorem dX11_isBarred_13 : decode cX11_isBarred 13 = .ok (.iconst 1, 1) := by decide +kernel
theorem dX11_isBarred_14 : decode cX11_isBarred 14 = .ok (.goto 4, 3) := by decide +kernel
theorem dX11_isBarred_17 : decode cX11_isBarred 17 = .ok (.iconst 0, 1) := by decide +kernel
theorem dX11_isBarred_18 : decode cX11_isBarred 18 = .ok (.ireturn, 1) := by decide +kernel
theorem dX11_canGo_0 : decode cX11_canGo 0 = .ok (.aload_n 0, 1) := by decide +kernel
theorem dX11_canGo_1 : decode cX11_canGo 1 = .ok (.iload_n 2, 1) := by decide +kernel
theorem dX11_canGo_2 : decode cX11_canGo 2 = .ok (.aload_n 0, 1) := by decide +kernel
theorem dX11_canGo_3 : decode cX11_canGo 3 = .ok (.getfield 13, 3) := by decide +kernel
theorem dX11_canGo_6 : decode cX11_canGo 6 = .ok (.bipush 18, 2) := by decide +kernel
theorem dX11_canGo_8 : decode cX11_canGo 8 = .ok (.iload_n 1, 1) := by decide +kernel
theorem dX11_canGo_9 : decode cX11_canGo 9 = .ok (.iadd, 1) := by decide +kernel
theorem dX11_canGo_10 : decode cX11_canGo 10 = .ok (.iaload, 1) := by decide +kernel
theorem dX11_canGo_11 : decode cX11_canGo 11 = .ok (.invokevirtual 424, 3) := by decide +kernel
theorem dX11_canGo_14 : decode cX11_canGo 14 = .ok (.ifCond .eq 16, 3) := by decide +kernel
theorem dX11_canGo_17 : decode cX11_canGo 17 = .ok (.aload_n 0, 1) := by decide +kernel
theorem dX11_canGo_18 : decode cX11_canGo 18 = .ok (.iload_n 1, 1) := by decide +kernel
theorem dX11_canGo_19 : decode cX11_canGo 19 = .ok (.iload_n 2, 1) := by decide +kernel
theorem dX11_canGo_20 : decode cX11_canGo 20 = .ok (.invokevirtual 216, 3) := by decide +kernel
theorem dX11_canGo_23 : decode cX11_canGo 23 = .ok (.ifCond .ne 7, 3) := by decide +kernel
theorem dX11_canGo_26 : decode cX11_canGo 26 = .ok (.iconst 1, 1) := by decide +kernel
theorem dX11_canGo_27 : decode cX11_canGo 27 = .ok (.goto 4, 3) := by decide +kernel
theorem dX11_canGo_30 : decode cX11_canGo 30 = .ok (.iconst 0, 1) := by decide +kernel
theorem dX11_canGo_31 : decode cX11_canGo 31 = .ok (.ireturn, 1) := by decide +kernel
theorem dX11_turnsTo_0 : decode cX11_turnsTo 0 = .ok (.aload_n 0, 1) := by decide +kernel
theorem dX11_turnsTo_1 : decode cX11_turnsTo 1 = .ok (.iconst 0, 1) := by decide +kernel
theorem dX11_turnsTo_2 : decode cX11_turnsTo 2 = .ok (.iload_n 1, 1) := by decide +kernel
theorem dX11_turnsTo_3 : decode cX11_turnsTo 3 = .ok (.iconst (-1), 1) := by decide +kernel
theorem dX11_turnsTo_4 : decode cX11_turnsTo 4 = .ok (.lconst 0, 1) := by decide +kernel
theorem dX11_turnsTo_5 : decode cX11_turnsTo 5 = .ok (.invokevirtual 416, 3) := by decide +kernel
theorem dX11_turnsTo_8 : decode cX11_turnsTo 8 = .ok (.iconst 0, 1) := by decide +kernel
theorem dX11_turnsTo_9 : decode cX11_turnsTo 9 = .ok (.bipush 99, 2) := by decide +kernel
theorem dX11_turnsTo_11 : decode cX11_turnsTo 11 = .ok (.invokestatic 420, 3) := by decide +kernel
theorem dX11_turnsTo_14 : decode cX11_turnsTo 14 = .ok (.ireturn, 1) := by decide +kernel
theorem dX11_laneOf_0 : decode cX11_laneOf 0 = .ok (.iconst 0, 1) := by decide +kernel
theorem dX11_laneOf_1 : decode cX11_laneOf 1 = .ok (.istore_n 2, 1) := by decide +kernel
theorem dX11_laneOf_2 : decode cX11_laneOf 2 = .ok (.iconst 0, 1) := by decide +kernel
theorem dX11_laneOf_3 : decode cX11_laneOf 3 = .ok (.istore_n 3, 1) := by decide +kernel
theorem dX11_laneOf_4 : decode cX11_laneOf 4 = .ok (.iload_n 3, 1) := by decide +kernel
theorem dX11_laneOf_5 : decode cX11_laneOf 5 = .ok (.aload_n 0, 1) := by decide +kernel
theorem dX11_laneOf_6 : decode cX11_laneOf 6 = .ok (.getfield 13, 3) := by decide +kernel
theorem dX11_laneOf_9 : decode cX11_laneOf 9 = .ok (.iconst 0, 1) := by decide +kernel
theorem dX11_laneOf_10 : decode cX11_laneOf 10 = .ok (.iaload, 1) := by decide +kernel
theorem dX11_laneOf_11 : decode cX11_laneOf 11 = .ok (.if_icmp .ge 26, 3) := by decide +kernel
theorem dX11_laneOf_14 : decode cX11_laneOf 14 = .ok (.iload_n 2, 1) := by decide +kernel
theorem dX11_laneOf_15 : decode cX11_laneOf 15 = .ok (.aload_n 0, 1) := by decide +kernel
theorem dX11_laneOf_16 : decode cX11_laneOf 16 = .ok (.iload_n 1, 1) := by decide +kernel
theorem dX11_laneOf_17 : decode cX11_laneOf 17 = .ok (.iload_n 3, 1) := by decide +kernel
theorem dX11_laneOf_18 : decode cX11_laneOf 18 = .ok (.invokevirtual 427, 3) := by decide +kernel
theorem dX11_laneOf_21 : decode cX11_laneOf 21 = .ok (.ifCond .eq 7, 3) := by decide +kernel
theorem dX11_laneOf_24 : decode cX11_laneOf 24 = .ok (.iconst 1, 1) := by decide +kernel
theorem dX11_laneOf_25 : decode cX11_laneOf 25 = .ok (.goto 4, 3) := by decide +kernel
theorem dX11_laneOf_28 : decode cX11_laneOf 28 = .ok (.iconst 0, 1) := by decide +kernel
theorem dX11_laneOf_29 : decode cX11_laneOf 29 = .ok (.iadd, 1) := by decide +kernel
theorem dX11_laneOf_30 : decode cX11_laneOf 30 = .ok (.istore_n 2, 1) := by decide +kernel
theorem dX11_laneOf_31 : decode cX11_laneOf 31 = .ok (.iinc 3 1, 3) := by decide +kernel
theorem dX11_laneOf_34 : decode cX11_laneOf 34 = .ok (.goto (-30), 3) := by decide +kernel
theorem dX11_laneOf_37 : decode cX11_laneOf 37 = .ok (.iload_n 2, 1) := by decide +kernel
theorem dX11_laneOf_38 : decode cX11_laneOf 38 = .ok (.ifCond .ne 5, 3) := by decide +kernel
theorem dX11_laneOf_41 : decode cX11_laneOf 41 = .ok (.iconst (-1), 1) := by decide +kernel
theorem dX11_laneOf_42 : decode cX11_laneOf 42 = .ok (.ireturn, 1) := by decide +kernel
theorem dX11_laneOf_43 : decode cX11_laneOf 43 = .ok (.aload_n 0, 1) := by decide +kernel
theorem dX11_laneOf_44 : decode cX11_laneOf 44 = .ok (.iload_n 1, 1) := by decide +kernel
theorem dX11_laneOf_45 : decode cX11_laneOf 45 = .ok (.invokevirtual 206, 3) := by decide +kernel
theorem dX11_laneOf_48 : decode cX11_laneOf 48 = .ok (.iload_n 2, 1) := by decide +kernel
theorem dX11_laneOf_49 : decode cX11_laneOf 49 = .ok (.irem, 1) := by decide +kernel
theorem dX11_laneOf_50 : decode cX11_laneOf 50 = .ok (.istore_n 3, 1) := by decide +kernel
theorem dX11_laneOf_51 : decode cX11_laneOf 51 = .ok (.iconst (-1), 1) := by decide +kernel
theorem dX11_laneOf_52 : decode cX11_laneOf 52 = .ok (.istore 4, 2) := by decide +kernel
theorem dX11_laneOf_54 : decode cX11_laneOf 54 = .ok (.iconst 0, 1) := by decide +kernel
theorem dX11_laneOf_55 : decode cX11_laneOf 55 = .ok (.istore 5, 2) := by decide +kernel
theorem dX11_laneOf_57 : decode cX11_laneOf 57 = .ok (.iload 5, 2) := by decide +kernel
theorem dX11_laneOf_59 : decode cX11_laneOf 59 = .ok (.aload_n 0, 1) := by decide +kernel
theorem dX11_laneOf_60 : decode cX11_laneOf 60 = .ok (.getfield 13, 3) := by decide +kernel
theorem dX11_laneOf_63 : decode cX11_laneOf 63 = .ok (.iconst 0, 1) := by decide +kernel
theorem dX11_laneOf_64 : decode cX11_laneOf 64 = .ok (.iaload, 1) := by decide +kernel
theorem dX11_laneOf_65 : decode cX11_laneOf 65 = .ok (.if_icmp .ge 35, 3) := by decide +kernel
theorem dX11_laneOf_68 : decode cX11_laneOf 68 = .ok (.aload_n 0, 1) := by decide +kernel
theorem dX11_laneOf_69 : decode cX11_laneOf 69 = .ok (.iload_n 1, 1) := by decide +kernel
theorem dX11_laneOf_70 : decode cX11_laneOf 70 = .ok (.iload 5, 2) := by decide +kernel
theorem dX11_laneOf_72 : decode cX11_laneOf 72 = .ok (.invokevirtual 427, 3) := by decide +kernel
theorem dX11_laneOf_75 : decode cX11_laneOf 75 = .ok (.ifCond .eq 19, 3) := by decide +kernel
theorem dX11_laneOf_78 : decode cX11_laneOf 78 = .ok (.iload_n 3, 1) := by decide +kernel
theorem dX11_laneOf_79 : decode cX11_laneOf 79 = .ok (.ifCond .ne 8, 3) := by decide +kernel
theorem dX11_laneOf_82 : decode cX11_laneOf 82 = .ok (.iload 5, 2) := by decide +kernel
theorem dX11_laneOf_84 : decode cX11_laneOf 84 = .ok (.goto 5, 3) := by decide +kernel
theorem dX11_laneOf_87 : decode cX11_laneOf 87 = .ok (.iload 4, 2) := by decide +kernel
theorem dX11_laneOf_89 : decode cX11_laneOf 89 = .ok (.istore 4, 2) := by decide +kernel
theorem dX11_laneOf_91 : decode cX11_laneOf 91 = .ok (.iinc 3 (-1), 3) := by decide +kernel
theorem dX11_laneOf_94 : decode cX11_laneOf 94 = .ok (.iinc 5 1, 3) := by decide +kernel
theorem dX11_laneOf_97 : decode cX11_laneOf 97 = .ok (.goto (-40), 3) := by decide +kernel
theorem dX11_laneOf_100 : decode cX11_laneOf 100 = .ok (.iload 4, 2) := by decide +kernel
theorem dX11_laneOf_102 : decode cX11_laneOf 102 = .ok (.ireturn, 1) := by decide +kernel
theorem dX11_of_0 : decode cX11_of 0 = .ok (.aload_n 0, 1) := by decide +kernel
theorem dX11_of_1 : decode cX11_of 1 = .ok (.iconst 0, 1) := by decide +kernel
theorem dX11_of_2 : decode cX11_of 2 = .ok (.putfield 159, 3) := by decide +kernel
theorem dX11_of_5 : decode cX11_of 5 = .ok (.aload_n 0, 1) := by decide +kernel
theorem dX11_of_6 : decode cX11_of 6 = .ok (.iload_n 1, 1) := by decide +kernel
theorem dX11_of_7 : decode cX11_of 7 = .ok (.invokevirtual 203, 3) := by decide +kernel
theorem dX11_of_10 : decode cX11_of 10 = .ok (.ifCond .ne 5, 3) := by decide +kernel
theorem dX11_of_13 : decode cX11_of 13 = .ok (.iconst (-1), 1) := by decide +kernel
theorem dX11_of_14 : decode cX11_of 14 = .ok (.ireturn, 1) := by decide +kernel
theorem dX11_of_15 : decode cX11_of 15 = .ok (.iload_n 2, 1) := by decide +kernel
theorem dX11_of_16 : decode cX11_of 16 = .ok (.tableswitch 78 0 4 #[36, 46, 56, 66, 72], 36) := by decide +kernel
theorem dX11_of_52 : decode cX11_of 52 = .ok (.aload_n 0, 1) := by decide +kernel
theorem dX11_of_53 : decode cX11_of 53 = .ok (.getfield 13, 3) := by decide +kernel
theorem dX11_of_56 : decode cX11_of 56 = .ok (.bipush 66, 2) := by decide +kernel
theorem dX11_of_58 : decode cX11_of 58 = .ok (.iload_n 1, 1) := by decide +kernel
theorem dX11_of_59 : decode cX11_of 59 = .ok (.iadd, 1) := by decide +kernel
theorem dX11_of_60 : decode cX11_of 60 = .ok (.iaload, 1) := by decide +kernel
theorem dX11_of_61 : decode cX11_of 61 = .ok (.ireturn, 1) := by decide +kernel
theorem dX11_of_62 : decode cX11_of 62 = .ok (.aload_n 0, 1) := by decide +kernel
theorem dX11_of_63 : decode cX11_of 63 = .ok (.getfield 13, 3) := by decide +kernel
theorem dX11_of_66 : decode cX11_of 66 = .ok (.bipush 18, 2) := by decide +kernel
theorem dX11_of_68 : decode cX11_of 68 = .ok (.iload_n 1, 1) := by decide +kernel
theorem dX11_of_69 : decode cX11_of 69 = .ok (.iadd, 1) := by decide +kernel
theorem dX11_of_70 : decode cX11_of 70 = .ok (.iaload, 1) := by decide +kernel
theorem dX11_of_71 : decode cX11_of 71 = .ok (.ireturn, 1) := by decide +kernel
theorem dX11_of_72 : decode cX11_of 72 = .ok (.aload_n 0, 1) := by decide +kernel
theorem dX11_of_73 : decode cX11_of 73 = .ok (.getfield 13, 3) := by decide +kernel
theorem dX11_of_76 : decode cX11_of 76 = .ok (.bipush 22, 2) := by decide +kernel
theorem dX11_of_78 : decode cX11_of 78 = .ok (.iload_n 1, 1) := by decide +kernel
theorem dX11_of_79 : decode cX11_of 79 = .ok (.iadd, 1) := by decide +kernel
theorem dX11_of_80 : decode cX11_of 80 = .ok (.iaload, 1) := by decide +kernel
theorem dX11_of_81 : decode cX11_of 81 = .ok (.ireturn, 1) := by decide +kernel
theorem dX11_of_82 : decode cX11_of 82 = .ok (.aload_n 0, 1) := by decide +kernel
theorem dX11_of_83 : decode cX11_of 83 = .ok (.iload_n 1, 1) := by decide +kernel
theorem dX11_of_84 : decode cX11_of 84 = .ok (.invokevirtual 206, 3) := by decide +kernel
theorem dX11_of_87 : decode cX11_of 87 = .ok (.ireturn, 1) := by decide +kernel
theorem dX11_of_88 : decode cX11_of 88 = .ok (.aload_n 0, 1) := by decide +kernel
theorem dX11_of_89 : decode cX11_of 89 = .ok (.iload_n 1, 1) := by decide +kernel
theorem dX11_of_90 : decode cX11_of 90 = .ok (.invokevirtual 209, 3) := by decide +kernel
theorem dX11_of_93 : decode cX11_of 93 = .ok (.ireturn, 1) := by decide +kernel
theorem dX11_of_94 : decode cX11_of 94 = .ok (.iconst (-1), 1) := by decide +kernel
theorem dX11_of_95 : decode cX11_of 95 = .ok (.ireturn, 1) := by decide +kernel
theorem dX11_saysOf_0 : decode cX11_saysOf 0 = .ok (.aload_n 0, 1) := by decide +kernel
theorem dX11_saysOf_1 : decode cX11_saysOf 1 = .ok (.iconst 1, 1) := by decide +kernel
theorem dX11_saysOf_2 : decode cX11_saysOf 2 = .ok (.iload_n 1, 1) := by decide +kernel
theorem dX11_saysOf_3 : decode cX11_saysOf 3 = .ok (.iload_n 2, 1) := by decide +kernel
theorem dX11_saysOf_4 : decode cX11_saysOf 4 = .ok (.aload_n 0, 1) := by decide +kernel
theorem dX11_saysOf_5 : decode cX11_saysOf 5 = .ok (.getfield 13, 3) := by decide +kernel
theorem dX11_saysOf_8 : decode cX11_saysOf 8 = .ok (.bipush 56, 2) := by decide +kernel
theorem dX11_saysOf_10 : decode cX11_saysOf 10 = .ok (.iload_n 2, 1) := by decide +kernel
theorem dX11_saysOf_11 : decode cX11_saysOf 11 = .ok (.iadd, 1) := by decide +kernel
theorem dX11_saysOf_12 : decode cX11_saysOf 12 = .ok (.iaload, 1) := by decide +kernel
theorem dX11_saysOf_13 : decode cX11_saysOf 13 = .ok (.i2l, 1) := by decide +kernel
theorem dX11_saysOf_14 : decode cX11_saysOf 14 = .ok (.invokevirtual 416, 3) := by decide +kernel
theorem dX11_saysOf_17 : decode cX11_saysOf 17 = .ok (.iconst 0, 1) := by decide +kernel
theorem dX11_saysOf_18 : decode cX11_saysOf 18 = .ok (.bipush 19, 2) := by decide +kernel
theorem dX11_saysOf_20 : decode cX11_saysOf 20 = .ok (.invokestatic 420, 3) := by decide +kernel
theorem dX11_saysOf_23 : decode cX11_saysOf 23 = .ok (.ireturn, 1) := by decide +kernel
theorem dX11_asks_0 : decode cX11_asks 0 = .ok (.aload_n 0, 1) := by decide +kernel
theorem dX11_asks_1 : decode cX11_asks 1 = .ok (.iconst 0, 1) := by decide +kernel
theorem dX11_asks_2 : decode cX11_asks 2 = .ok (.putfield 159, 3) := by decide +kernel
theorem dX11_asks_5 : decode cX11_asks 5 = .ok (.aload_n 0, 1) := by decide +kernel
theorem dX11_asks_6 : decode cX11_asks 6 = .ok (.iload_n 1, 1) := by decide +kernel
theorem dX11_asks_7 : decode cX11_asks 7 = .ok (.invokevirtual 203, 3) := by decide +kernel
theorem dX11_asks_10 : decode cX11_asks 10 = .ok (.ifCond .eq 21, 3) := by decide +kernel
theorem dX11_asks_13 : decode cX11_asks 13 = .ok (.aload_n 0, 1) := by decide +kernel
theorem dX11_asks_14 : decode cX11_asks 14 = .ok (.iload_n 2, 1) := by decide +kernel
theorem dX11_asks_15 : decode cX11_asks 15 = .ok (.invokevirtual 200, 3) := by decide +kernel
theorem dX11_asks_18 : decode cX11_asks 18 = .ok (.ifCond .eq 13, 3) := by decide +kernel
theorem dX11_asks_21 : decode cX11_asks 21 = .ok (.iload_n 3, 1) := by decide +kernel
theorem dX11_asks_22 : decode cX11_asks 22 = .ok (.i2l, 1) := by decide +kernel
theorem dX11_asks_23 : decode cX11_asks 23 = .ok (.lconst 0, 1) := by decide +kernel
theorem dX11_asks_24 : decode cX11_asks 24 = .ok (.lconst 1, 1) := by decide +kernel
theorem dX11_asks_25 : decode cX11_asks 25 = .ok (.invokestatic 179, 3) := by decide +kernel
theorem dX11_asks_28 : decode cX11_asks 28 = .ok (.ifCond .ne 5, 3) := by decide +kernel
theorem dX11_asks_31 : decode cX11_asks 31 = .ok (.iconst (-1), 1) := by decide +kernel
theorem dX11_asks_32 : decode cX11_asks 32 = .ok (.ireturn, 1) := by decide +kernel
theorem dX11_asks_33 : decode cX11_asks 33 = .ok (.iload_n 3, 1) := by decide +kernel
theorem dX11_asks_34 : decode cX11_asks 34 = .ok (.ifCond .ne 12, 3) := by decide +kernel
theorem dX11_asks_37 : decode cX11_asks 37 = .ok (.aload_n 0, 1) := by decide +kernel
theorem dX11_asks_38 : decode cX11_asks 38 = .ok (.iload_n 1, 1) := by decide +kernel
theorem dX11_asks_39 : decode cX11_asks 39 = .ok (.iload_n 2, 1) := by decide +kernel
theorem dX11_asks_40 : decode cX11_asks 40 = .ok (.invokevirtual 212, 3) := by decide +kernel
theorem dX11_asks_43 : decode cX11_asks 43 = .ok (.goto 17, 3) := by decide +kernel
theorem dX11_asks_46 : decode cX11_asks 46 = .ok (.aload_n 0, 1) := by decide +kernel
theorem dX11_asks_47 : decode cX11_asks 47 = .ok (.iload_n 1, 1) := by decide +kernel
theorem dX11_asks_48 : decode cX11_asks 48 = .ok (.iload_n 2, 1) := by decide +kernel
theorem dX11_asks_49 : decode cX11_asks 49 = .ok (.invokevirtual 216, 3) := by decide +kernel
theorem dX11_asks_52 : decode cX11_asks 52 = .ok (.ifCond .eq 7, 3) := by decide +kernel
theorem dX11_asks_55 : decode cX11_asks 55 = .ok (.iconst 1, 1) := by decide +kernel
theorem dX11_asks_56 : decode cX11_asks 56 = .ok (.goto 4, 3) := by decide +kernel
theorem dX11_asks_59 : decode cX11_asks 59 = .ok (.iconst 0, 1) := by decide +kernel
theorem dX11_asks_60 : decode cX11_asks 60 = .ok (.ireturn, 1) := by decide +kernel
theorem dX11_terms_0 : decode cX11_terms 0 = .ok (.aload_n 0, 1) := by decide +kernel
theorem dX11_terms_1 : decode cX11_terms 1 = .ok (.iconst 0, 1) := by decide +kernel
theorem dX11_terms_2 : decode cX11_terms 2 = .ok (.putfield 159, 3) := by decide +kernel
theorem dX11_terms_5 : decode cX11_terms 5 = .ok (.iload_n 1, 1) := by decide +kernel
theorem dX11_terms_6 : decode cX11_terms 6 = .ok (.ifCond .ne 15, 3) := by decide +kernel
theorem dX11_terms_9 : decode cX11_terms 9 = .ok (.iload_n 2, 1) := by decide +kernel
theorem dX11_terms_10 : decode cX11_terms 10 = .ok (.i2l, 1) := by decide +kernel
theorem dX11_terms_11 : decode cX11_terms 11 = .ok (.lconst 0, 1) := by decide +kernel
theorem dX11_terms_12 : decode cX11_terms 12 = .ok (.ldc2_w 220, 3) := by decide +kernel
theorem dX11_terms_15 : decode cX11_terms 15 = .ok (.invokestatic 179, 3) := by decide +kernel
theorem dX11_terms_18 : decode cX11_terms 18 = .ok (.goto 42, 3) := by decide +kernel
theorem dX11_terms_21 : decode cX11_terms 21 = .ok (.iload_n 1, 1) := by decide +kernel
theorem dX11_terms_22 : decode cX11_terms 22 = .ok (.iconst 1, 1) := by decide +kernel
theorem dX11_terms_23 : decode cX11_terms 23 = .ok (.if_icmp .ne 15, 3) := by decide +kernel
theorem dX11_terms_26 : decode cX11_terms 26 = .ok (.iload_n 2, 1) := by decide +kernel
theorem dX11_terms_27 : decode cX11_terms 27 = .ok (.i2l, 1) := by decide +kernel
theorem dX11_terms_28 : decode cX11_terms 28 = .ok (.lconst 0, 1) := by decide +kernel
theorem dX11_terms_29 : decode cX11_terms 29 = .ok (.ldc2_w 222, 3) := by decide +kernel
theorem dX11_terms_32 : decode cX11_terms 32 = .ok (.invokestatic 179, 3) := by decide +kernel
theorem dX11_terms_35 : decode cX11_terms 35 = .ok (.goto 25, 3) := by decide +kernel
theorem dX11_terms_38 : decode cX11_terms 38 = .ok (.iload_n 1, 1) := by decide +kernel
theorem dX11_terms_39 : decode cX11_terms 39 = .ok (.iconst 2, 1) := by decide +kernel
theorem dX11_terms_40 : decode cX11_terms 40 = .ok (.if_icmp .ne 19, 3) := by decide +kernel
theorem dX11_terms_43 : decode cX11_terms 43 = .ok (.iload_n 2, 1) := by decide +kernel
theorem dX11_terms_44 : decode cX11_terms 44 = .ok (.i2l, 1) := by decide +kernel
theorem dX11_terms_45 : decode cX11_terms 45 = .ok (.lconst 0, 1) := by decide +kernel
theorem dX11_terms_46 : decode cX11_terms 46 = .ok (.ldc2_w 192, 3) := by decide +kernel
theorem dX11_terms_49 : decode cX11_terms 49 = .ok (.invokestatic 179, 3) := by decide +kernel
theorem dX11_terms_52 : decode cX11_terms 52 = .ok (.ifCond .eq 7, 3) := by decide +kernel
theorem dX11_terms_55 : decode cX11_terms 55 = .ok (.iconst 1, 1) := by decide +kernel
theorem dX11_terms_56 : decode cX11_terms 56 = .ok (.goto 4, 3) := by decide +kernel
theorem dX11_terms_59 : decode cX11_terms 59 = .ok (.iconst 0, 1) := by decide +kernel
theorem dX11_terms_60 : decode cX11_terms 60 = .ok (.istore_n 3, 1) := by decide +kernel
theorem dX11_terms_61 : decode cX11_terms 61 = .ok (.iload_n 3, 1) := by decide +kernel
theorem dX11_terms_62 : decode cX11_terms 62 = .ok (.ifCond .ne 9, 3) := by decide +kernel
theorem dX11_terms_65 : decode cX11_terms 65 = .ok (.aload_n 0, 1) := by decide +kernel
theorem dX11_terms_66 : decode cX11_terms 66 = .ok (.iconst (-1), 1) := by decide +kernel
theorem dX11_terms_67 : decode cX11_terms 67 = .ok (.invokevirtual 168, 3) := by decide +kernel
theorem dX11_terms_70 : decode cX11_terms 70 = .ok (.ireturn, 1) := by decide +kernel
theorem dX11_terms_71 : decode cX11_terms 71 = .ok (.aload_n 0, 1) := by decide +kernel
theorem dX11_terms_72 : decode cX11_terms 72 = .ok (.iconst 0, 1) := by decide +kernel
theorem dX11_terms_73 : decode cX11_terms 73 = .ok (.putfield 165, 3) := by decide +kernel
theorem dX11_terms_76 : decode cX11_terms 76 = .ok (.aload_n 0, 1) := by decide +kernel
theorem dX11_terms_77 : decode cX11_terms 77 = .ok (.iconst 5, 1) := by decide +kernel
theorem dX11_terms_78 : decode cX11_terms 78 = .ok (.iload_n 1, 1) := by decide +kernel
theorem dX11_terms_79 : decode cX11_terms 79 = .ok (.iadd, 1) := by decide +kernel
theorem dX11_terms_80 : decode cX11_terms 80 = .ok (.iload_n 2, 1) := by decide +kernel
theorem dX11_terms_81 : decode cX11_terms 81 = .ok (.invokevirtual 224, 3) := by decide +kernel
theorem dX11_terms_84 : decode cX11_terms 84 = .ok (.ireturn, 1) := by decide +kernel
theorem dX11_row_0 : decode cX11_row 0 = .ok (.aload_n 0, 1) := by decide +kernel
theorem dX11_row_1 : decode cX11_row 1 = .ok (.iconst 0, 1) := by decide +kernel
theorem dX11_row_2 : decode cX11_row 2 = .ok (.putfield 159, 3) := by decide +kernel
theorem dX11_row_5 : decode cX11_row 5 = .ok (.aload_n 0, 1) := by decide +kernel
theorem dX11_row_6 : decode cX11_row 6 = .ok (.getfield 227, 3) := by decide +kernel
theorem dX11_row_9 : decode cX11_row 9 = .ok (.istore_n 1, 1) := by decide +kernel
theorem dX11_row_10 : decode cX11_row 10 = .ok (.aload_n 0, 1) := by decide +kernel
theorem dX11_row_11 : decode cX11_row 11 = .ok (.iconst 0, 1) := by decide +kernel
theorem dX11_row_12 : decode cX11_row 12 = .ok (.putfield 227, 3) := by decide +kernel
theorem dX11_row_15 : decode cX11_row 15 = .ok (.iload_n 1, 1) := by decide +kernel
theorem dX11_row_16 : decode cX11_row 16 = .ok (.ifCond .ne 10, 3) := by decide +kernel
theorem dX11_row_19 : decode cX11_row 19 = .ok (.aload_n 0, 1) := by decide +kernel
theorem dX11_row_20 : decode cX11_row 20 = .ok (.bipush (-6), 2) := by decide +kernel
theorem dX11_row_22 : decode cX11_row 22 = .ok (.invokevirtual 168, 3) := by decide +kernel
theorem dX11_row_25 : decode cX11_row 25 = .ok (.ireturn, 1) := by decide +kernel
theorem dX11_row_26 : decode cX11_row 26 = .ok (.aload_n 0, 1) := by decide +kernel
theorem dX11_row_27 : decode cX11_row 27 = .ok (.iconst 0, 1) := by decide +kernel
theorem dX11_row_28 : decode cX11_row 28 = .ok (.putfield 230, 3) := by decide +kernel
theorem dX11_row_31 : decode cX11_row 31 = .ok (.iconst 0, 1) := by decide +kernel
theorem dX11_row_32 : decode cX11_row 32 = .ok (.istore_n 2, 1) := by decide +kernel
theorem dX11_row_33 : decode cX11_row 33 = .ok (.iconst 0, 1) := by decide +kernel
theorem dX11_row_34 : decode cX11_row 34 = .ok (.istore_n 3, 1) := by decide +kernel
theorem dX11_row_35 : decode cX11_row 35 = .ok (.iload_n 3, 1) := by decide +kernel
theorem dX11_row_36 : decode cX11_row 36 = .ok (.iload_n 1, 1) := by decide +kernel
theorem dX11_row_37 : decode cX11_row 37 = .ok (.if_icmp .ge 69, 3) := by decide +kernel
theorem dX11_row_40 : decode cX11_row 40 = .ok (.iload_n 3, 1) := by decide +kernel
theorem dX11_row_41 : decode cX11_row 41 = .ok (.iconst 3, 1) := by decide +kernel
theorem dX11_row_42 : decode cX11_row 42 = .ok (.iadd, 1) := by decide +kernel
theorem dX11_row_43 : decode cX11_row 43 = .ok (.iload_n 1, 1) := by decide +kernel
theorem dX11_row_44 : decode cX11_row 44 = .ok (.if_icmp .ge 46, 3) := by decide +kernel
theorem dX11_row_47 : decode cX11_row 47 = .ok (.aload_n 0, 1) := by decide +kernel
theorem dX11_row_48 : decode cX11_row 48 = .ok (.aload_n 0, 1) := by decide +kernel
theorem dX11_row_49 : decode cX11_row 49 = .ok (.getfield 35, 3) := by decide +kernel
theorem dX11_row_52 : decode cX11_row 52 = .ok (.iload_n 3, 1) := by decide +kernel
theorem dX11_row_53 : decode cX11_row 53 = .ok (.iaload, 1) := by decide +kernel
theorem dX11_row_54 : decode cX11_row 54 = .ok (.aload_n 0, 1) := by decide +kernel
theorem dX11_row_55 : decode cX11_row 55 = .ok (.getfield 35, 3) := by decide +kernel
theorem dX11_row_58 : decode cX11_row 58 = .ok (.iload_n 3, 1) := by decide +kernel
theorem dX11_row_59 : decode cX11_row 59 = .ok (.iconst 1, 1) := by decide +kernel
theorem dX11_row_60 : decode cX11_row 60 = .ok (.iadd, 1) := by decide +kernel
theorem dX11_row_61 : decode cX11_row 61 = .ok (.iaload, 1) := by decide +kernel
theorem dX11_row_62 : decode cX11_row 62 = .ok (.aload_n 0, 1) := by decide +kernel
theorem dX11_row_63 : decode cX11_row 63 = .ok (.getfield 35, 3) := by decide +kernel
theorem dX11_row_66 : decode cX11_row 66 = .ok (.iload_n 3, 1) := by decide +kernel
theorem dX11_row_67 : decode cX11_row 67 = .ok (.iconst 2, 1) := by decide +kernel
theorem dX11_row_68 : decode cX11_row 68 = .ok (.iadd, 1) := by decide +kernel
theorem dX11_row_69 : decode cX11_row 69 = .ok (.iaload, 1) := by decide +kernel
theorem dX11_row_70 : decode cX11_row 70 = .ok (.aload_n 0, 1) := by decide +kernel
theorem dX11_row_71 : decode cX11_row 71 = .ok (.getfield 35, 3) := by decide +kernel
theorem dX11_row_74 : decode cX11_row 74 = .ok (.iload_n 3, 1) := by decide +kernel
theorem dX11_row_75 : decode cX11_row 75 = .ok (.iconst 3, 1) := by decide +kernel
theorem dX11_row_76 : decode cX11_row 76 = .ok (.iadd, 1) := by decide +kernel
theorem dX11_row_77 : decode cX11_row 77 = .ok (.iaload, 1) := by decide +kernel
theorem dX11_row_78 : decode cX11_row 78 = .ok (.invokevirtual 196, 3) := by decide +kernel
theorem dX11_row_81 : decode cX11_row 81 = .ok (.ifCond .lt 9, 3) := by decide +kernel
theorem dX11_row_84 : decode cX11_row 84 = .ok (.iinc 2 1, 3) := by decide +kernel
theorem dX11_row_87 : decode cX11_row 87 = .ok (.goto 13, 3) := by decide +kernel
theorem dX11_row_90 : decode cX11_row 90 = .ok (.aload_n 0, 1) := by decide +kernel
theorem dX11_row_91 : decode cX11_row 91 = .ok (.dup, 1) := by decide +kernel
theorem dX11_row_92 : decode cX11_row 92 = .ok (.getfield 230, 3) := by decide +kernel
theorem dX11_row_95 : decode cX11_row 95 = .ok (.iconst 1, 1) := by decide +kernel
theorem dX11_row_96 : decode cX11_row 96 = .ok (.iadd, 1) := by decide +kernel
theorem dX11_row_97 : decode cX11_row 97 = .ok (.putfield 230, 3) := by decide +kernel
theorem dX11_row_100 : decode cX11_row 100 = .ok (.iinc 3 4, 3) := by decide +kernel
theorem dX11_row_103 : decode cX11_row 103 = .ok (.goto (-68), 3) := by decide +kernel
theorem dX11_row_106 : decode cX11_row 106 = .ok (.aload_n 0, 1) := by decide +kernel
theorem dX11_row_107 : decode cX11_row 107 = .ok (.iload_n 2, 1) := by decide +kernel
theorem dX11_row_108 : decode cX11_row 108 = .ok (.invokevirtual 183, 3) := by decide +kernel
theorem dX11_row_111 : decode cX11_row 111 = .ok (.ireturn, 1) := by decide +kernel
theorem dX11_gravel_0 : decode cX11_gravel 0 = .ok (.aload_n 0, 1) := by decide +kernel
theorem dX11_gravel_1 : decode cX11_gravel 1 = .ok (.iconst 0, 1) := by decide +kernel
theorem dX11_gravel_2 : decode cX11_gravel 2 = .ok (.putfield 159, 3) := by decide +kernel
theorem dX11_gravel_5 : decode cX11_gravel 5 = .ok (.aload_n 0, 1) := by decide +kernel
theorem dX11_gravel_6 : decode cX11_gravel 6 = .ok (.getfield 230, 3) := by decide +kernel
theorem dX11_gravel_9 : decode cX11_gravel 9 = .ok (.ireturn, 1) := by decide +kernel
theorem dX11_four_0 : decode cX11_four 0 = .ok (.bipush 24, 2) := by decide +kernel
theorem dX11_four_2 : decode cX11_four 2 = .ok (.istore_n 2, 1) := by decide +kernel
theorem dX11_four_3 : decode cX11_four 3 = .ok (.iload_n 2, 1) := by decide +kernel
theorem dX11_four_4 : decode cX11_four 4 = .ok (.ifCond .lt 35, 3) := by decide +kernel
theorem dX11_four_7 : decode cX11_four 7 = .ok (.aload_n 0, 1) := by decide +kernel
theorem dX11_four_8 : decode cX11_four 8 = .ok (.getfield 35, 3) := by decide +kernel
theorem dX11_four_11 : decode cX11_four 11 = .ok (.aload_n 0, 1) := by decide +kernel
theorem dX11_four_12 : decode cX11_four 12 = .ok (.getfield 227, 3) := by decide +kernel
theorem dX11_four_15 : decode cX11_four 15 = .ok (.iload_n 1, 1) := by decide +kernel
theorem dX11_four_16 : decode cX11_four 16 = .ok (.iload_n 2, 1) := by decide +kernel
theorem dX11_four_17 : decode cX11_four 17 = .ok (.ishr, 1) := by decide +kernel
theorem dX11_four_18 : decode cX11_four 18 = .ok (.sipush 255, 3) := by decide +kernel
theorem dX11_four_21 : decode cX11_four 21 = .ok (.iand, 1) := by decide +kernel
theorem dX11_four_22 : decode cX11_four 22 = .ok (.iastore, 1) := by decide +kernel
theorem dX11_four_23 : decode cX11_four 23 = .ok (.aload_n 0, 1) := by decide +kernel
theorem dX11_four_24 : decode cX11_four 24 = .ok (.dup, 1) := by decide +kernel
theorem dX11_four_25 : decode cX11_four 25 = .ok (.getfield 227, 3) := by decide +kernel
theorem dX11_four_28 : decode cX11_four 28 = .ok (.iconst 1, 1) := by decide +kernel
theorem dX11_four_29 : decode cX11_four 29 = .ok (.iadd, 1) := by decide +kernel
theorem dX11_four_30 : decode cX11_four 30 = .ok (.putfield 227, 3) := by decide +kernel
theorem dX11_four_33 : decode cX11_four 33 = .ok (.iinc 2 (-8), 3) := by decide +kernel
theorem dX11_four_36 : decode cX11_four 36 = .ok (.goto (-33), 3) := by decide +kernel
theorem dX11_four_39 : decode cX11_four 39 = .ok (.return_, 1) := by decide +kernel
theorem dX11_feed_0 : decode cX11_feed 0 = .ok (.aload_n 0, 1) := by decide +kernel
theorem dX11_feed_1 : decode cX11_feed 1 = .ok (.iconst 0, 1) := by decide +kernel
theorem dX11_feed_2 : decode cX11_feed 2 = .ok (.putfield 159, 3) := by decide +kernel
theorem dX11_feed_5 : decode cX11_feed 5 = .ok (.aload_n 0, 1) := by decide +kernel
theorem dX11_feed_6 : decode cX11_feed 6 = .ok (.getfield 227, 3) := by decide +kernel
theorem dX11_feed_9 : decode cX11_feed 9 = .ok (.bipush 20, 2) := by decide +kernel
theorem dX11_feed_11 : decode cX11_feed 11 = .ok (.iadd, 1) := by decide +kernel
theorem dX11_feed_12 : decode cX11_feed 12 = .ok (.sipush 400, 3) := by decide +kernel
theorem dX11_feed_15 : decode cX11_feed 15 = .ok (.if_icmp .le 5, 3) := by decide +kernel
theorem dX11_feed_18 : decode cX11_feed 18 = .ok (.iconst (-1), 1) := by decide +kernel
theorem dX11_feed_19 : decode cX11_feed 19 = .ok (.ireturn, 1) := by decide +kernel
theorem dX11_feed_20 : decode cX11_feed 20 = .ok (.aload_n 0, 1) := by decide +kernel
theorem dX11_feed_21 : decode cX11_feed 21 = .ok (.iload_n 1, 1) := by decide +kernel
theorem dX11_feed_22 : decode cX11_feed 22 = .ok (.invokevirtual 233, 3) := by decide +kernel
theorem dX11_feed_25 : decode cX11_feed 25 = .ok (.aload_n 0, 1) := by decide +kernel
theorem dX11_feed_26 : decode cX11_feed 26 = .ok (.iload_n 2, 1) := by decide +kernel
theorem dX11_feed_27 : decode cX11_feed 27 = .ok (.invokevirtual 233, 3) := by decide +kernel
theorem dX11_feed_30 : decode cX11_feed 30 = .ok (.aload_n 0, 1) := by decide +kernel
theorem dX11_feed_31 : decode cX11_feed 31 = .ok (.iload_n 3, 1) := by decide +kernel
theorem dX11_feed_32 : decode cX11_feed 32 = .ok (.invokevirtual 233, 3) := by decide +kernel
theorem dX11_feed_35 : decode cX11_feed 35 = .ok (.aload_n 0, 1) := by decide +kernel
theorem dX11_feed_36 : decode cX11_feed 36 = .ok (.iload 4, 2) := by decide +kernel
theorem dX11_feed_38 : decode cX11_feed 38 = .ok (.invokevirtual 233, 3) := by decide +kernel
theorem dX11_feed_41 : decode cX11_feed 41 = .ok (.aload_n 0, 1) := by decide +kernel
theorem dX11_feed_42 : decode cX11_feed 42 = .ok (.iload 5, 2) := by decide +kernel
theorem dX11_feed_44 : decode cX11_feed 44 = .ok (.invokevirtual 233, 3) := by decide +kernel
theorem dX11_feed_47 : decode cX11_feed 47 = .ok (.aload_n 0, 1) := by decide +kernel
theorem dX11_feed_48 : decode cX11_feed 48 = .ok (.getfield 227, 3) := by decide +kernel
theorem dX11_feed_51 : decode cX11_feed 51 = .ok (.ireturn, 1) := by decide +kernel
theorem dX11_end_0 : decode cX11_end 0 = .ok (.aload_n 0, 1) := by decide +kernel
theorem dX11_end_1 : decode cX11_end 1 = .ok (.iconst 0, 1) := by decide +kernel
theorem dX11_end_2 : decode cX11_end 2 = .ok (.putfield 159, 3) := by decide +kernel
theorem dX11_end_5 : decode cX11_end 5 = .ok (.iload_n 1, 1) := by decide +kernel
theorem dX11_end_6 : decode cX11_end 6 = .ok (.ifCond .lt 11, 3) := by decide +kernel
theorem dX11_end_9 : decode cX11_end 9 = .ok (.iload_n 1, 1) := by decide +kernel
theorem dX11_end_10 : decode cX11_end 10 = .ok (.aload_n 0, 1) := by decide +kernel
theorem dX11_end_11 : decode cX11_end 11 = .ok (.getfield 227, 3) := by decide +kernel
theorem dX11_end_14 : decode cX11_end 14 = .ok (.if_icmp .le 5, 3) := by decide +kernel
theorem dX11_end_17 : decode cX11_end 17 = .ok (.iconst (-1), 1) := by decide +kernel
theorem dX11_end_18 : decode cX11_end 18 = .ok (.ireturn, 1) := by decide +kernel
theorem dX11_end_19 : decode cX11_end 19 = .ok (.aload_n 0, 1) := by decide +kernel
theorem dX11_end_20 : decode cX11_end 20 = .ok (.iload_n 1, 1) := by decide +kernel
theorem dX11_end_21 : decode cX11_end 21 = .ok (.putfield 227, 3) := by decide +kernel
theorem dX11_end_24 : decode cX11_end 24 = .ok (.iload_n 1, 1) := by decide +kernel
theorem dX11_end_25 : decode cX11_end 25 = .ok (.ireturn, 1) := by decide +kernel
theorem dX11_isSmall_0 : decode cX11_isSmall 0 = .ok (.iload_n 0, 1) := by decide +kernel
theorem dX11_isSmall_1 : decode cX11_isSmall 1 = .ok (.bipush 97, 2) := by decide +kernel
theorem dX11_isSmall_3 : decode cX11_isSmall 3 = .ok (.if_icmp .lt 13, 3) := by decide +kernel
theorem dX11_isSmall_6 : decode cX11_isSmall 6 = .ok (.iload_n 0, 1) := by decide +kernel
theorem dX11_isSmall_7 : decode cX11_isSmall 7 = .ok (.bipush 122, 2) := by decide +kernel
theorem dX11_isSmall_9 : decode cX11_isSmall 9 = .ok (.if_icmp .gt 7, 3) := by decide +kernel
theorem dX11_isSmall_12 : decode cX11_isSmall 12 = .ok (.iconst 1, 1) := by decide +kernel
theorem dX11_isSmall_13 : decode cX11_isSmall 13 = .ok (.goto 4, 3) := by decide +kernel
theorem dX11_isSmall_16 : decode cX11_isSmall 16 = .ok (.iconst 0, 1) := by decide +kernel
theorem dX11_isSmall_17 : decode cX11_isSmall 17 = .ok (.ireturn, 1) := by decide +kernel
theorem dX11_isDigit_0 : decode cX11_isDigit 0 = .ok (.iload_n 0, 1) := by decide +kernel
theorem dX11_isDigit_1 : decode cX11_isDigit 1 = .ok (.bipush 48, 2) := by decide +kernel
theorem dX11_isDigit_3 : decode cX11_isDigit 3 = .ok (.if_icmp .lt 13, 3) := by decide +kernel
theorem dX11_isDigit_6 : decode cX11_isDigit 6 = .ok (.iload_n 0, 1) := by decide +kernel
theorem dX11_isDigit_7 : decode cX11_isDigit 7 = .ok (.bipush 57, 2) := by decide +kernel
theorem dX11_isDigit_9 : decode cX11_isDigit 9 = .ok (.if_icmp .gt 7, 3) := by decide +kernel
theorem dX11_isDigit_12 : decode cX11_isDigit 12 = .ok (.iconst 1, 1) := by decide +kernel
theorem dX11_isDigit_13 : decode cX11_isDigit 13 = .ok (.goto 4, 3) := by decide +kernel
theorem dX11_isDigit_16 : decode cX11_isDigit 16 = .ok (.iconst 0, 1) := by decide +kernel
theorem dX11_isDigit_17 : decode cX11_isDigit 17 = .ok (.ireturn, 1) := by decide +kernel
theorem dX11_next_0 : decode cX11_next 0 = .ok (.aload_n 0, 1) := by decide +kernel
theorem dX11_next_1 : decode cX11_next 1 = .ok (.aload_n 0, 1) := by decide +kernel
theorem dX11_next_2 : decode cX11_next 2 = .ok (.getfield 236, 3) := by decide +kernel
theorem dX11_next_5 : decode cX11_next 5 = .ok (.putfield 246, 3) := by decide +kernel
theorem dX11_next_8 : decode cX11_next 8 = .ok (.aload_n 0, 1) := by decide +kernel
theorem dX11_next_9 : decode cX11_next 9 = .ok (.getfield 246, 3) := by decide +kernel
theorem dX11_next_12 : decode cX11_next 12 = .ok (.aload_n 0, 1) := by decide +kernel
theorem dX11_next_13 : decode cX11_next 13 = .ok (.getfield 227, 3) := by decide +kernel
theorem dX11_next_16 : decode cX11_next 16 = .ok (.if_icmp .ge 30, 3) := by decide +kernel
theorem dX11_next_19 : decode cX11_next 19 = .ok (.aload_n 0, 1) := by decide +kernel
theorem dX11_next_20 : decode cX11_next 20 = .ok (.getfield 35, 3) := by decide +kernel
theorem dX11_next_23 : decode cX11_next 23 = .ok (.aload_n 0, 1) := by decide +kernel
theorem dX11_next_24 : decode cX11_next 24 = .ok (.getfield 246, 3) := by decide +kernel
theorem dX11_next_27 : decode cX11_next 27 = .ok (.iaload, 1) := by decide +kernel
theorem dX11_next_28 : decode cX11_next 28 = .ok (.bipush 32, 2) := by decide +kernel
theorem dX11_next_30 : decode cX11_next 30 = .ok (.if_icmp .ne 16, 3) := by decide +kernel
theorem dX11_next_33 : decode cX11_next 33 = .ok (.aload_n 0, 1) := by decide +kernel
theorem dX11_next_34 : decode cX11_next 34 = .ok (.dup, 1) := by decide +kernel
theorem dX11_next_35 : decode cX11_next 35 = .ok (.getfield 246, 3) := by decide +kernel
theorem dX11_next_38 : decode cX11_next 38 = .ok (.iconst 1, 1) := by decide +kernel
theorem dX11_next_39 : decode cX11_next 39 = .ok (.iadd, 1) := by decide +kernel
theorem dX11_next_40 : decode cX11_next 40 = .ok (.putfield 246, 3) := by decide +kernel
theorem dX11_next_43 : decode cX11_next 43 = .ok (.goto (-35), 3) := by decide +kernel
theorem dX11_next_46 : decode cX11_next 46 = .ok (.aload_n 0, 1) := by decide +kernel
theorem dX11_next_47 : decode cX11_next 47 = .ok (.aload_n 0, 1) := by decide +kernel
theorem dX11_next_48 : decode cX11_next 48 = .ok (.getfield 246, 3) := by decide +kernel
theorem dX11_next_51 : decode cX11_next 51 = .ok (.putfield 236, 3) := by decide +kernel
theorem dX11_next_54 : decode cX11_next 54 = .ok (.aload_n 0, 1) := by decide +kernel
theorem dX11_next_55 : decode cX11_next 55 = .ok (.lconst 0, 1) := by decide +kernel
theorem dX11_next_56 : decode cX11_next 56 = .ok (.putfield 249, 3) := by decide +kernel
theorem dX11_next_59 : decode cX11_next 59 = .ok (.aload_n 0, 1) := by decide +kernel
theorem dX11_next_60 : decode cX11_next 60 = .ok (.aload_n 0, 1) := by decide +kernel
theorem dX11_next_61 : decode cX11_next 61 = .ok (.getfield 246, 3) := by decide +kernel
theorem dX11_next_64 : decode cX11_next 64 = .ok (.aload_n 0, 1) := by decide +kernel
theorem dX11_next_65 : decode cX11_next 65 = .ok (.getfield 227, 3) := by decide +kernel
theorem dX11_next_68 : decode cX11_next 68 = .ok (.if_icmp .ne 7, 3) := by decide +kernel
theorem dX11_next_71 : decode cX11_next 71 = .ok (.iconst 0, 1) := by decide +kernel
theorem dX11_next_72 : decode cX11_next 72 = .ok (.goto 42, 3) := by decide +kernel
theorem dX11_next_75 : decode cX11_next 75 = .ok (.aload_n 0, 1) := by decide +kernel
theorem dX11_next_76 : decode cX11_next 76 = .ok (.getfield 35, 3) := by decide +kernel
theorem dX11_next_79 : decode cX11_next 79 = .ok (.aload_n 0, 1) := by decide +kernel
theorem dX11_next_80 : decode cX11_next 80 = .ok (.getfield 246, 3) := by decide +kernel
theorem dX11_next_83 : decode cX11_next 83 = .ok (.iaload, 1) := by decide +kernel
theorem dX11_next_84 : decode cX11_next 84 = .ok (.invokestatic 253, 3) := by decide +kernel
theorem dX11_next_87 : decode cX11_next 87 = .ok (.ifCond .eq 7, 3) := by decide +kernel
theorem dX11_next_90 : decode cX11_next 90 = .ok (.iconst 1, 1) := by decide +kernel
theorem dX11_next_91 : decode cX11_next 91 = .ok (.goto 23, 3) := by decide +kernel
theorem dX11_next_94 : decode cX11_next 94 = .ok (.aload_n 0, 1) := by decide +kernel
theorem dX11_next_95 : decode cX11_next 95 = .ok (.getfield 35, 3) := by decide +kernel
theorem dX11_next_98 : decode cX11_next 98 = .ok (.aload_n 0, 1) := by decide +kernel
theorem dX11_next_99 : decode cX11_next 99 = .ok (.getfield 246, 3) := by decide +kernel
theorem dX11_next_102 : decode cX11_next 102 = .ok (.iaload, 1) := by decide +kernel
theorem dX11_next_103 : decode cX11_next 103 = .ok (.invokestatic 256, 3) := by decide +kernel
theorem dX11_next_106 : decode cX11_next 106 = .ok (.ifCond .eq 7, 3) := by decide +kernel
theorem dX11_next_109 : decode cX11_next 109 = .ok (.iconst 2, 1) := by decide +kernel
theorem dX11_next_110 : decode cX11_next 110 = .ok (.goto 4, 3) := by decide +kernel
theorem dX11_next_113 : decode cX11_next 113 = .ok (.iconst 3, 1) := by decide +kernel
theorem dX11_next_114 : decode cX11_next 114 = .ok (.putfield 259, 3) := by decide +kernel
theorem dX11_next_117 : decode cX11_next 117 = .ok (.aload_n 0, 1) := by decide +kernel
theorem dX11_next_118 : decode cX11_next 118 = .ok (.getfield 259, 3) := by decide +kernel
theorem dX11_next_121 : decode cX11_next 121 = .ok (.iconst 3, 1) := by decide +kernel
theorem dX11_next_122 : decode cX11_next 122 = .ok (.if_icmp .ne 27, 3) := by decide +kernel
theorem dX11_next_125 : decode cX11_next 125 = .ok (.aload_n 0, 1) := by decide +kernel
theorem dX11_next_126 : decode cX11_next 126 = .ok (.aload_n 0, 1) := by decide +kernel
theorem dX11_next_127 : decode cX11_next 127 = .ok (.getfield 35, 3) := by decide +kernel
theorem dX11_next_130 : decode cX11_next 130 = .ok (.aload_n 0, 1) := by decide +kernel
theorem dX11_next_131 : decode cX11_next 131 = .ok (.getfield 246, 3) := by decide +kernel
theorem dX11_next_134 : decode cX11_next 134 = .ok (.iaload, 1) := by decide +kernel
theorem dX11_next_135 : decode cX11_next 135 = .ok (.i2l, 1) := by decide +kernel
theorem dX11_next_136 : decode cX11_next 136 = .ok (.putfield 249, 3) := by decide +kernel
theorem dX11_next_139 : decode cX11_next 139 = .ok (.aload_n 0, 1) := by decide +kernel
theorem dX11_next_140 : decode cX11_next 140 = .ok (.dup, 1) := by decide +kernel
theorem dX11_next_141 : decode cX11_next 141 = .ok (.getfield 236, 3) := by decide +kernel
theorem dX11_next_144 : decode cX11_next 144 = .ok (.iconst 1, 1) := by decide +kernel
theorem dX11_next_145 : decode cX11_next 145 = .ok (.iadd, 1) := by decide +kernel
theorem dX11_next_146 : decode cX11_next 146 = .ok (.putfield 236, 3) := by decide +kernel
theorem dX11_next_149 : decode cX11_next 149 = .ok (.aload_n 0, 1) := by decide +kernel
theorem dX11_next_150 : decode cX11_next 150 = .ok (.getfield 259, 3) := by decide +kernel
theorem dX11_next_153 : decode cX11_next 153 = .ok (.iconst 1, 1) := by decide +kernel
theorem dX11_next_154 : decode cX11_next 154 = .ok (.if_icmp .ne 89, 3) := by decide +kernel
theorem dX11_next_157 : decode cX11_next 157 = .ok (.aload_n 0, 1) := by decide +kernel
theorem dX11_next_158 : decode cX11_next 158 = .ok (.getfield 236, 3) := by decide +kernel
theorem dX11_next_161 : decode cX11_next 161 = .ok (.aload_n 0, 1) := by decide +kernel
theorem dX11_next_162 : decode cX11_next 162 = .ok (.getfield 227, 3) := by decide +kernel
theorem dX11_next_165 : decode cX11_next 165 = .ok (.if_icmp .ge 78, 3) := by decide +kernel
theorem dX11_next_168 : decode cX11_next 168 = .ok (.aload_n 0, 1) := by decide +kernel
theorem dX11_next_169 : decode cX11_next 169 = .ok (.getfield 35, 3) := by decide +kernel
theorem dX11_next_172 : decode cX11_next 172 = .ok (.aload_n 0, 1) := by decide +kernel
theorem dX11_next_173 : decode cX11_next 173 = .ok (.getfield 236, 3) := by decide +kernel
theorem dX11_next_176 : decode cX11_next 176 = .ok (.iaload, 1) := by decide +kernel
theorem dX11_next_177 : decode cX11_next 177 = .ok (.invokestatic 253, 3) := by decide +kernel
theorem dX11_next_180 : decode cX11_next 180 = .ok (.ifCond .eq 63, 3) := by decide +kernel
theorem dX11_next_183 : decode cX11_next 183 = .ok (.aload_n 0, 1) := by decide +kernel
theorem dX11_next_184 : decode cX11_next 184 = .ok (.aload_n 0, 1) := by decide +kernel
theorem dX11_next_185 : decode cX11_next 185 = .ok (.getfield 236, 3) := by decide +kernel
theorem dX11_next_188 : decode cX11_next 188 = .ok (.aload_n 0, 1) := by decide +kernel
theorem dX11_next_189 : decode cX11_next 189 = .ok (.getfield 246, 3) := by decide +kernel
theorem dX11_next_192 : decode cX11_next 192 = .ok (.isub, 1) := by decide +kernel
theorem dX11_next_193 : decode cX11_next 193 = .ok (.bipush 10, 2) := by decide +kernel
theorem dX11_next_195 : decode cX11_next 195 = .ok (.if_icmp .ge 29, 3) := by decide +kernel
theorem dX11_next_198 : decode cX11_next 198 = .ok (.aload_n 0, 1) := by decide +kernel
theorem dX11_next_199 : decode cX11_next 199 = .ok (.getfield 249, 3) := by decide +kernel
theorem dX11_next_202 : decode cX11_next 202 = .ok (.ldc2_w 262, 3) := by decide +kernel
theorem dX11_next_205 : decode cX11_next 205 = .ok (.lmul, 1) := by decide +kernel
theorem dX11_next_206 : decode cX11_next 206 = .ok (.aload_n 0, 1) := by decide +kernel
theorem dX11_next_207 : decode cX11_next 207 = .ok (.getfield 35, 3) := by decide +kernel
theorem dX11_next_210 : decode cX11_next 210 = .ok (.aload_n 0, 1) := by decide +kernel
theorem dX11_next_211 : decode cX11_next 211 = .ok (.getfield 236, 3) := by decide +kernel
theorem dX11_next_214 : decode cX11_next 214 = .ok (.iaload, 1) := by decide +kernel
theorem dX11_next_215 : decode cX11_next 215 = .ok (.i2l, 1) := by decide +kernel
theorem dX11_next_216 : decode cX11_next 216 = .ok (.ladd, 1) := by decide +kernel
theorem dX11_next_217 : decode cX11_next 217 = .ok (.ldc2_w 264, 3) := by decide +kernel
theorem dX11_next_220 : decode cX11_next 220 = .ok (.lsub, 1) := by decide +kernel
theorem dX11_next_221 : decode cX11_next 221 = .ok (.goto 6, 3) := by decide +kernel
theorem dX11_next_224 : decode cX11_next 224 = .ok (.ldc2_w 266, 3) := by decide +kernel
theorem dX11_next_227 : decode cX11_next 227 = .ok (.putfield 249, 3) := by decide +kernel
theorem dX11_next_230 : decode cX11_next 230 = .ok (.aload_n 0, 1) := by decide +kernel
theorem dX11_next_231 : decode cX11_next 231 = .ok (.dup, 1) := by decide +kernel
theorem dX11_next_232 : decode cX11_next 232 = .ok (.getfield 236, 3) := by decide +kernel
theorem dX11_next_235 : decode cX11_next 235 = .ok (.iconst 1, 1) := by decide +kernel
theorem dX11_next_236 : decode cX11_next 236 = .ok (.iadd, 1) := by decide +kernel
theorem dX11_next_237 : decode cX11_next 237 = .ok (.putfield 236, 3) := by decide +kernel
theorem dX11_next_240 : decode cX11_next 240 = .ok (.goto (-91), 3) := by decide +kernel
theorem dX11_next_243 : decode cX11_next 243 = .ok (.aload_n 0, 1) := by decide +kernel
theorem dX11_next_244 : decode cX11_next 244 = .ok (.getfield 259, 3) := by decide +kernel
theorem dX11_next_247 : decode cX11_next 247 = .ok (.iconst 2, 1) := by decide +kernel
theorem dX11_next_248 : decode cX11_next 248 = .ok (.if_icmp .ne 87, 3) := by decide +kernel
theorem dX11_next_251 : decode cX11_next 251 = .ok (.aload_n 0, 1) := by decide +kernel
theorem dX11_next_252 : decode cX11_next 252 = .ok (.getfield 236, 3) := by decide +kernel
theorem dX11_next_255 : decode cX11_next 255 = .ok (.aload_n 0, 1) := by decide +kernel
theorem dX11_next_256 : decode cX11_next 256 = .ok (.getfield 227, 3) := by decide +kernel
theorem dX11_next_259 : decode cX11_next 259 = .ok (.if_icmp .ge 76, 3) := by decide +kernel
theorem dX11_next_262 : decode cX11_next 262 = .ok (.aload_n 0, 1) := by decide +kernel
theorem dX11_next_263 : decode cX11_next 263 = .ok (.getfield 35, 3) := by decide +kernel
theorem dX11_next_266 : decode cX11_next 266 = .ok (.aload_n 0, 1) := by decide +kernel
theorem dX11_next_267 : decode cX11_next 267 = .ok (.getfield 236, 3) := by decide +kernel
theorem dX11_next_270 : decode cX11_next 270 = .ok (.iaload, 1) := by decide +kernel
theorem dX11_next_271 : decode cX11_next 271 = .ok (.invokestatic 256, 3) := by decide +kernel
theorem dX11_next_274 : decode cX11_next 274 = .ok (.ifCond .eq 61, 3) := by decide +kernel
theorem dX11_next_277 : decode cX11_next 277 = .ok (.aload_n 0, 1) := by decide +kernel
theorem dX11_next_278 : decode cX11_next 278 = .ok (.aload_n 0, 1) := by decide +kernel
theorem dX11_next_279 : decode cX11_next 279 = .ok (.getfield 249, 3) := by decide +kernel
theorem dX11_next_282 : decode cX11_next 282 = .ok (.ldc2_w 268, 3) := by decide +kernel
theorem dX11_next_285 : decode cX11_next 285 = .ok (.lcmp, 1) := by decide +kernel
theorem dX11_next_286 : decode cX11_next 286 = .ok (.ifCond .le 10, 3) := by decide +kernel
theorem dX11_next_289 : decode cX11_next 289 = .ok (.aload_n 0, 1) := by decide +kernel
theorem dX11_next_290 : decode cX11_next 290 = .ok (.getfield 249, 3) := by decide +kernel
theorem dX11_next_293 : decode cX11_next 293 = .ok (.goto 26, 3) := by decide +kernel
theorem dX11_next_296 : decode cX11_next 296 = .ok (.aload_n 0, 1) := by decide +kernel
theorem dX11_next_297 : decode cX11_next 297 = .ok (.getfield 249, 3) := by decide +kernel
theorem dX11_next_300 : decode cX11_next 300 = .ok (.ldc2_w 222, 3) := by decide +kernel
theorem dX11_next_303 : decode cX11_next 303 = .ok (.lmul, 1) := by decide +kernel
theorem dX11_next_304 : decode cX11_next 304 = .ok (.aload_n 0, 1) := by decide +kernel
theorem dX11_next_305 : decode cX11_next 305 = .ok (.getfield 35, 3) := by decide +kernel
theorem dX11_next_308 : decode cX11_next 308 = .ok (.aload_n 0, 1) := by decide +kernel
theorem dX11_next_309 : decode cX11_next 309 = .ok (.getfield 236, 3) := by decide +kernel
theorem dX11_next_312 : decode cX11_next 312 = .ok (.iaload, 1) := by decide +kernel
theorem dX11_next_313 : decode cX11_next 313 = .ok (.i2l, 1) := by decide +kernel
theorem dX11_next_314 : decode cX11_next 314 = .ok (.ladd, 1) := by decide +kernel
theorem dX11_next_315 : decode cX11_next 315 = .ok (.ldc2_w 270, 3) := by decide +kernel
theorem dX11_next_318 : decode cX11_next 318 = .ok (.lsub, 1) := by decide +kernel
theorem dX11_next_319 : decode cX11_next 319 = .ok (.putfield 249, 3) := by decide +kernel
theorem dX11_next_322 : decode cX11_next 322 = .ok (.aload_n 0, 1) := by decide +kernel
theorem dX11_next_323 : decode cX11_next 323 = .ok (.dup, 1) := by decide +kernel
theorem dX11_next_324 : decode cX11_next 324 = .ok (.getfield 236, 3) := by decide +kernel
theorem dX11_next_327 : decode cX11_next 327 = .ok (.iconst 1, 1) := by decide +kernel
theorem dX11_next_328 : decode cX11_next 328 = .ok (.iadd, 1) := by decide +kernel
theorem dX11_next_329 : decode cX11_next 329 = .ok (.putfield 236, 3) := by decide +kernel
theorem dX11_next_332 : decode cX11_next 332 = .ok (.goto (-89), 3) := by decide +kernel
theorem dX11_next_335 : decode cX11_next 335 = .ok (.return_, 1) := by decide +kernel
theorem dX11_begin_0 : decode cX11_begin 0 = .ok (.aload_n 0, 1) := by decide +kernel
theorem dX11_begin_1 : decode cX11_begin 1 = .ok (.iconst 0, 1) := by decide +kernel
theorem dX11_begin_2 : decode cX11_begin 2 = .ok (.putfield 236, 3) := by decide +kernel
theorem dX11_begin_5 : decode cX11_begin 5 = .ok (.aload_n 0, 1) := by decide +kernel
theorem dX11_begin_6 : decode cX11_begin 6 = .ok (.iconst 0, 1) := by decide +kernel
theorem dX11_begin_7 : decode cX11_begin 7 = .ok (.putfield 239, 3) := by decide +kernel
theorem dX11_begin_10 : decode cX11_begin 10 = .ok (.aload_n 0, 1) := by decide +kernel
theorem dX11_begin_11 : decode cX11_begin 11 = .ok (.iconst (-1), 1) := by decide +kernel
theorem dX11_begin_12 : decode cX11_begin 12 = .ok (.putfield 38, 3) := by decide +kernel
theorem dX11_begin_15 : decode cX11_begin 15 = .ok (.aload_n 0, 1) := by decide +kernel
theorem dX11_begin_16 : decode cX11_begin 16 = .ok (.invokevirtual 243, 3) := by decide +kernel
theorem dX11_begin_19 : decode cX11_begin 19 = .ok (.return_, 1) := by decide +kernel
theorem dX11_isWord_0 : decode cX11_isWord 0 = .ok (.aload_n 0, 1) := by decide +kernel
theorem dX11_isWord_1 : decode cX11_isWord 1 = .ok (.getfield 259, 3) := by decide +kernel
theorem dX11_isWord_4 : decode cX11_isWord 4 = .ok (.iconst 1, 1) := by decide +kernel
theorem dX11_isWord_5 : decode cX11_isWord 5 = .ok (.if_icmp .ne 16, 3) := by decide +kernel
theorem dX11_isWord_8 : decode cX11_isWord 8 = .ok (.aload_n 0, 1) := by decide +kernel
theorem dX11_isWord_9 : decode cX11_isWord 9 = .ok (.getfield 249, 3) := by decide +kernel
theorem dX11_isWord_12 : decode cX11_isWord 12 = .ok (.lload_n 1, 1) := by decide +kernel
theorem dX11_isWord_13 : decode cX11_isWord 13 = .ok (.lcmp, 1) := by decide +kernel
theorem dX11_isWord_14 : decode cX11_isWord 14 = .ok (.ifCond .ne 7, 3) := by decide +kernel
theorem dX11_isWord_17 : decode cX11_isWord 17 = .ok (.iconst 1, 1) := by decide +kernel
theorem dX11_isWord_18 : decode cX11_isWord 18 = .ok (.goto 4, 3) := by decide +kernel
theorem dX11_isWord_21 : decode cX11_isWord 21 = .ok (.iconst 0, 1) := by decide +kernel
theorem dX11_isWord_22 : decode cX11_isWord 22 = .ok (.ireturn, 1) := by decide +kernel
theorem dX11_isSign_0 : decode cX11_isSign 0 = .ok (.aload_n 0, 1) := by decide +kernel
theorem dX11_isSign_1 : decode cX11_isSign 1 = .ok (.getfield 259, 3) := by decide +kernel
theorem dX11_isSign_4 : decode cX11_isSign 4 = .ok (.iconst 3, 1) := by decide +kernel
theorem dX11_isSign_5 : decode cX11_isSign 5 = .ok (.if_icmp .ne 17, 3) := by decide +kernel
theorem dX11_isSign_8 : decode cX11_isSign 8 = .ok (.aload_n 0, 1) := by decide +kernel
theorem dX11_isSign_9 : decode cX11_isSign 9 = .ok (.getfield 249, 3) := by decide +kernel
theorem dX11_isSign_12 : decode cX11_isSign 12 = .ok (.iload_n 1, 1) := by decide +kernel
theorem dX11_isSign_13 : decode cX11_isSign 13 = .ok (.i2l, 1) := by decide +kernel
theorem dX11_isSign_14 : decode cX11_isSign 14 = .ok (.lcmp, 1) := by decide +kernel
theorem dX11_isSign_15 : decode cX11_isSign 15 = .ok (.ifCond .ne 7, 3) := by decide +kernel
theorem dX11_isSign_18 : decode cX11_isSign 18 = .ok (.iconst 1, 1) := by decide +kernel
theorem dX11_isSign_19 : decode cX11_isSign 19 = .ok (.goto 4, 3) := by decide +kernel
theorem dX11_isSign_22 : decode cX11_isSign 22 = .ok (.iconst 0, 1) := by decide +kernel
theorem dX11_isSign_23 : decode cX11_isSign 23 = .ok (.ireturn, 1) := by decide +kernel
theorem dX11_must_0 : decode cX11_must 0 = .ok (.aload_n 0, 1) := by decide +kernel
theorem dX11_must_1 : decode cX11_must 1 = .ok (.getfield 239, 3) := by decide +kernel
theorem dX11_must_4 : decode cX11_must 4 = .ok (.ifCond .ne 20, 3) := by decide +kernel
theorem dX11_must_7 : decode cX11_must 7 = .ok (.iload_n 1, 1) := by decide +kernel
theorem dX11_must_8 : decode cX11_must 8 = .ok (.ifCond .ne 16, 3) := by decide +kernel
theorem dX11_must_11 : decode cX11_must 11 = .ok (.aload_n 0, 1) := by decide +kernel
theorem dX11_must_12 : decode cX11_must 12 = .ok (.iconst 1, 1) := by decide +kernel
theorem dX11_must_13 : decode cX11_must 13 = .ok (.putfield 239, 3) := by decide +kernel
theorem dX11_must_16 : decode cX11_must 16 = .ok (.aload_n 0, 1) := by decide +kernel
theorem dX11_must_17 : decode cX11_must 17 = .ok (.aload_n 0, 1) := by decide +kernel
theorem dX11_must_18 : decode cX11_must 18 = .ok (.getfield 246, 3) := by decide +kernel
theorem dX11_must_21 : decode cX11_must 21 = .ok (.putfield 38, 3) := by decide +kernel
theorem dX11_must_24 : decode cX11_must 24 = .ok (.aload_n 0, 1) := by decide +kernel
theorem dX11_must_25 : decode cX11_must 25 = .ok (.getfield 239, 3) := by decide +kernel
theorem dX11_must_28 : decode cX11_must 28 = .ok (.ifCond .ne 7, 3) := by decide +kernel
theorem dX11_must_31 : decode cX11_must 31 = .ok (.aload_n 0, 1) := by decide +kernel
theorem dX11_must_32 : decode cX11_must 32 = .ok (.invokevirtual 243, 3) := by decide +kernel
theorem dX11_must_35 : decode cX11_must 35 = .ok (.return_, 1) := by decide +kernel
theorem dX11_number_0 : decode cX11_number 0 = .ok (.aload_n 0, 1) := by decide +kernel
theorem dX11_number_1 : decode cX11_number 1 = .ok (.getfield 249, 3) := by decide +kernel
theorem dX11_number_4 : decode cX11_number 4 = .ok (.l2i, 1) := by decide +kernel
theorem dX11_number_5 : decode cX11_number 5 = .ok (.istore 5, 2) := by decide +kernel
theorem dX11_number_7 : decode cX11_number 7 = .ok (.aload_n 0, 1) := by decide +kernel
theorem dX11_number_8 : decode cX11_number 8 = .ok (.aload_n 0, 1) := by decide +kernel
theorem dX11_number_9 : decode cX11_number 9 = .ok (.getfield 259, 3) := by decide +kernel
theorem dX11_number_12 : decode cX11_number 12 = .ok (.iconst 2, 1) := by decide +kernel
theorem dX11_number_13 : decode cX11_number 13 = .ok (.if_icmp .ne 19, 3) := by decide +kernel
theorem dX11_number_16 : decode cX11_number 16 = .ok (.aload_n 0, 1) := by decide +kernel
theorem dX11_number_17 : decode cX11_number 17 = .ok (.getfield 249, 3) := by decide +kernel
theorem dX11_number_20 : decode cX11_number 20 = .ok (.lload_n 1, 1) := by decide +kernel
theorem dX11_number_21 : decode cX11_number 21 = .ok (.lload_n 3, 1) := by decide +kernel
theorem dX11_number_22 : decode cX11_number 22 = .ok (.invokestatic 179, 3) := by decide +kernel
theorem dX11_number_25 : decode cX11_number 25 = .ok (.ifCond .eq 7, 3) := by decide +kernel
theorem dX11_number_28 : decode cX11_number 28 = .ok (.iconst 1, 1) := by decide +kernel
theorem dX11_number_29 : decode cX11_number 29 = .ok (.goto 4, 3) := by decide +kernel
theorem dX11_number_32 : decode cX11_number 32 = .ok (.iconst 0, 1) := by decide +kernel
theorem dX11_number_33 : decode cX11_number 33 = .ok (.invokevirtual 272, 3) := by decide +kernel
theorem dX11_number_36 : decode cX11_number 36 = .ok (.iload 5, 2) := by decide +kernel
theorem dX11_number_38 : decode cX11_number 38 = .ok (.ireturn, 1) := by decide +kernel
theorem dX11_fault_0 : decode cX11_fault 0 = .ok (.aload_n 0, 1) := by decide +kernel
theorem dX11_fault_1 : decode cX11_fault 1 = .ok (.iconst 0, 1) := by decide +kernel
theorem dX11_fault_2 : decode cX11_fault 2 = .ok (.putfield 159, 3) := by decide +kernel
theorem dX11_fault_5 : decode cX11_fault 5 = .ok (.aload_n 0, 1) := by decide +kernel
theorem dX11_fault_6 : decode cX11_fault 6 = .ok (.getfield 38, 3) := by decide +kernel
theorem dX11_fault_9 : decode cX11_fault 9 = .ok (.ireturn, 1) := by decide +kernel
theorem dX11_emit_0 : decode cX11_emit 0 = .ok (.aload_n 0, 1) := by decide +kernel
theorem dX11_emit_1 : decode cX11_emit 1 = .ok (.getfield 45, 3) := by decide +kernel
theorem dX11_emit_4 : decode cX11_emit 4 = .ok (.aload_n 0, 1) := by decide +kernel
theorem dX11_emit_5 : decode cX11_emit 5 = .ok (.getfield 276, 3) := by decide +kernel
theorem dX11_emit_8 : decode cX11_emit 8 = .ok (.iload_n 1, 1) := by decide +kernel
theorem dX11_emit_9 : decode cX11_emit 9 = .ok (.iastore, 1) := by decide +kernel
theorem dX11_emit_10 : decode cX11_emit 10 = .ok (.aload_n 0, 1) := by decide +kernel
theorem dX11_emit_11 : decode cX11_emit 11 = .ok (.getfield 48, 3) := by decide +kernel
theorem dX11_emit_14 : decode cX11_emit 14 = .ok (.aload_n 0, 1) := by decide +kernel
theorem dX11_emit_15 : decode cX11_emit 15 = .ok (.getfield 276, 3) := by decide +kernel
theorem dX11_emit_18 : decode cX11_emit 18 = .ok (.iload_n 2, 1) := by decide +kernel
theorem dX11_emit_19 : decode cX11_emit 19 = .ok (.iastore, 1) := by decide +kernel
theorem dX11_emit_20 : decode cX11_emit 20 = .ok (.aload_n 0, 1) := by decide +kernel
theorem dX11_emit_21 : decode cX11_emit 21 = .ok (.dup, 1) := by decide +kernel
theorem dX11_emit_22 : decode cX11_emit 22 = .ok (.getfield 276, 3) := by decide +kernel
theorem dX11_emit_25 : decode cX11_emit 25 = .ok (.iconst 1, 1) := by decide +kernel
theorem dX11_emit_26 : decode cX11_emit 26 = .ok (.iadd, 1) := by decide +kernel
theorem dX11_emit_27 : decode cX11_emit 27 = .ok (.putfield 276, 3) := by decide +kernel
theorem dX11_emit_30 : decode cX11_emit 30 = .ok (.return_, 1) := by decide +kernel
theorem dX11_push_0 : decode cX11_push 0 = .ok (.aload_n 0, 1) := by decide +kernel
theorem dX11_push_1 : decode cX11_push 1 = .ok (.getfield 51, 3) := by decide +kernel
theorem dX11_push_4 : decode cX11_push 4 = .ok (.aload_n 0, 1) := by decide +kernel
theorem dX11_push_5 : decode cX11_push 5 = .ok (.getfield 279, 3) := by decide +kernel
theorem dX11_push_8 : decode cX11_push 8 = .ok (.iload_n 1, 1) := by decide +kernel
theorem dX11_push_9 : decode cX11_push 9 = .ok (.iastore, 1) := by decide +kernel
theorem dX11_push_10 : decode cX11_push 10 = .ok (.aload_n 0, 1) := by decide +kernel
theorem dX11_push_11 : decode cX11_push 11 = .ok (.getfield 54, 3) := by decide +kernel
theorem dX11_push_14 : decode cX11_push 14 = .ok (.aload_n 0, 1) := by decide +kernel
theorem dX11_push_15 : decode cX11_push 15 = .ok (.getfield 279, 3) := by decide +kernel
theorem dX11_push_18 : decode cX11_push 18 = .ok (.iload_n 2, 1) := by decide +kernel
theorem dX11_push_19 : decode cX11_push 19 = .ok (.iastore, 1) := by decide +kernel
theorem dX11_push_20 : decode cX11_push 20 = .ok (.aload_n 0, 1) := by decide +kernel
theorem dX11_push_21 : decode cX11_push 21 = .ok (.dup, 1) := by decide +kernel
theorem dX11_push_22 : decode cX11_push 22 = .ok (.getfield 279, 3) := by decide +kernel
theorem dX11_push_25 : decode cX11_push 25 = .ok (.iconst 1, 1) := by decide +kernel
theorem dX11_push_26 : decode cX11_push 26 = .ok (.iadd, 1) := by decide +kernel
theorem dX11_push_27 : decode cX11_push 27 = .ok (.putfield 279, 3) := by decide +kernel
theorem dX11_push_30 : decode cX11_push 30 = .ok (.return_, 1) := by decide +kernel
theorem dX11_binds_0 : decode cX11_binds 0 = .ok (.iload_n 0, 1) := by decide +kernel
theorem dX11_binds_1 : decode cX11_binds 1 = .ok (.bipush 31, 2) := by decide +kernel
theorem dX11_binds_3 : decode cX11_binds 3 = .ok (.if_icmp .lt 7, 3) := by decide +kernel
theorem dX11_binds_6 : decode cX11_binds 6 = .ok (.iconst 0, 1) := by decide +kernel
theorem dX11_binds_7 : decode cX11_binds 7 = .ok (.goto 55, 3) := by decide +kernel
theorem dX11_binds_10 : decode cX11_binds 10 = .ok (.iload_n 0, 1) := by decide +kernel
theorem dX11_binds_11 : decode cX11_binds 11 = .ok (.bipush 30, 2) := by decide +kernel
theorem dX11_binds_13 : decode cX11_binds 13 = .ok (.if_icmp .ne 7, 3) := by decide +kernel
theorem dX11_binds_16 : decode cX11_binds 16 = .ok (.iconst 1, 1) := by decide +kernel
theorem dX11_binds_17 : decode cX11_binds 17 = .ok (.goto 45, 3) := by decide +kernel
theorem dX11_binds_20 : decode cX11_binds 20 = .ok (.iload_n 0, 1) := by decide +kernel
theorem dX11_binds_21 : decode cX11_binds 21 = .ok (.bipush 29, 2) := by decide +kernel
theorem dX11_binds_23 : decode cX11_binds 23 = .ok (.if_icmp .ne 7, 3) := by decide +kernel
theorem dX11_binds_26 : decode cX11_binds 26 = .ok (.iconst 2, 1) := by decide +kernel
theorem dX11_binds_27 : decode cX11_binds 27 = .ok (.goto 35, 3) := by decide +kernel
theorem dX11_binds_30 : decode cX11_binds 30 = .ok (.iload_n 0, 1) := by decide +kernel
theorem dX11_binds_31 : decode cX11_binds 31 = .ok (.bipush 28, 2) := by decide +kernel
theorem dX11_binds_33 : decode cX11_binds 33 = .ok (.if_icmp .ne 7, 3) := by decide +kernel
theorem dX11_binds_36 : decode cX11_binds 36 = .ok (.iconst 3, 1) := by decide +kernel
theorem dX11_binds_37 : decode cX11_binds 37 = .ok (.goto 25, 3) := by decide +kernel
theorem dX11_binds_40 : decode cX11_binds 40 = .ok (.iload_n 0, 1) := by decide +kernel
theorem dX11_binds_41 : decode cX11_binds 41 = .ok (.bipush 25, 2) := by decide +kernel
theorem dX11_binds_43 : decode cX11_binds 43 = .ok (.if_icmp .lt 7, 3) := by decide +kernel
theorem dX11_binds_46 : decode cX11_binds 46 = .ok (.iconst 4, 1) := by decide +kernel
theorem dX11_binds_47 : decode cX11_binds 47 = .ok (.goto 15, 3) := by decide +kernel
theorem dX11_binds_50 : decode cX11_binds 50 = .ok (.iload_n 0, 1) := by decide +kernel
theorem dX11_binds_51 : decode cX11_binds 51 = .ok (.bipush 22, 2) := by decide +kernel
theorem dX11_binds_53 : decode cX11_binds 53 = .ok (.if_icmp .lt 8, 3) := by decide +kernel
theorem dX11_binds_56 : decode cX11_binds 56 = .ok (.bipush 6, 2) := by decide +kernel
theorem dX11_binds_58 : decode cX11_binds 58 = .ok (.goto 4, 3) := by decide +kernel
theorem dX11_binds_61 : decode cX11_binds 61 = .ok (.iconst 5, 1) := by decide +kernel
theorem dX11_binds_62 : decode cX11_binds 62 = .ok (.ireturn, 1) := by decide +kernel
theorem dX11_settle_0 : decode cX11_settle 0 = .ok (.aload_n 0, 1) := by decide +kernel
theorem dX11_settle_1 : decode cX11_settle 1 = .ok (.getfield 279, 3) := by decide +kernel
theorem dX11_settle_4 : decode cX11_settle 4 = .ok (.ifCond .le 97, 3) := by decide +kernel
theorem dX11_settle_7 : decode cX11_settle 7 = .ok (.aload_n 0, 1) := by decide +kernel
theorem dX11_settle_8 : decode cX11_settle 8 = .ok (.getfield 51, 3) := by decide +kernel
theorem dX11_settle_11 : decode cX11_settle 11 = .ok (.aload_n 0, 1) := by decide +kernel
theorem dX11_settle_12 : decode cX11_settle 12 = .ok (.getfield 279, 3) := by decide +kernel
theorem dX11_settle_15 : decode cX11_settle 15 = .ok (.iconst 1, 1) := by decide +kernel
theorem dX11_settle_16 : decode cX11_settle 16 = .ok (.isub, 1) := by decide +kernel
theorem dX11_settle_17 : decode cX11_settle 17 = .ok (.iaload, 1) := by decide +kernel
theorem dX11_settle_18 : decode cX11_settle 18 = .ok (.invokestatic 282, 3) := by decide +kernel
theorem dX11_settle_21 : decode cX11_settle 21 = .ok (.iload_n 1, 1) := by decide +kernel
theorem dX11_settle_22 : decode cX11_settle 22 = .ok (.if_icmp .lt 79, 3) := by decide +kernel
theorem dX11_settle_25 : decode cX11_settle 25 = .ok (.aload_n 0, 1) := by decide +kernel
theorem dX11_settle_26 : decode cX11_settle 26 = .ok (.dup, 1) := by decide +kernel
theorem dX11_settle_27 : decode cX11_settle 27 = .ok (.getfield 279, 3) := by decide +kernel
theorem dX11_settle_30 : decode cX11_settle 30 = .ok (.iconst 1, 1) := by decide +kernel
theorem dX11_settle_31 : decode cX11_settle 31 = .ok (.isub, 1) := by decide +kernel
theorem dX11_settle_32 : decode cX11_settle 32 = .ok (.putfield 279, 3) := by decide +kernel
theorem dX11_settle_35 : decode cX11_settle 35 = .ok (.aload_n 0, 1) := by decide +kernel
theorem dX11_settle_36 : decode cX11_settle 36 = .ok (.getfield 51, 3) := by decide +kernel
theorem dX11_settle_39 : decode cX11_settle 39 = .ok (.aload_n 0, 1) := by decide +kernel
theorem dX11_settle_40 : decode cX11_settle 40 = .ok (.getfield 279, 3) := by decide +kernel
theorem dX11_settle_43 : decode cX11_settle 43 = .ok (.iaload, 1) := by decide +kernel
theorem dX11_settle_44 : decode cX11_settle 44 = .ok (.bipush 29, 2) := by decide +kernel
theorem dX11_settle_46 : decode cX11_settle 46 = .ok (.if_icmp .eq 17, 3) := by decide +kernel
theorem dX11_settle_49 : decode cX11_settle 49 = .ok (.aload_n 0, 1) := by decide +kernel
theorem dX11_settle_50 : decode cX11_settle 50 = .ok (.getfield 51, 3) := by decide +kernel
theorem dX11_settle_53 : decode cX11_settle 53 = .ok (.aload_n 0, 1) := by decide +kernel
theorem dX11_settle_54 : decode cX11_settle 54 = .ok (.getfield 279, 3) := by decide +kernel
theorem dX11_settle_57 : decode cX11_settle 57 = .ok (.iaload, 1) := by decide +kernel
theorem dX11_settle_58 : decode cX11_settle 58 = .ok (.bipush 30, 2) := by decide +kernel
theorem dX11_settle_60 : decode cX11_settle 60 = .ok (.if_icmp .ne 24, 3) := by decide +kernel
theorem dX11_settle_63 : decode cX11_settle 63 = .ok (.aload_n 0, 1) := by decide +kernel
theorem dX11_settle_64 : decode cX11_settle 64 = .ok (.getfield 48, 3) := by decide +kernel
theorem dX11_settle_67 : decode cX11_settle 67 = .ok (.aload_n 0, 1) := by decide +kernel
theorem dX11_settle_68 : decode cX11_settle 68 = .ok (.getfield 54, 3) := by decide +kernel
theorem dX11_settle_71 : decode cX11_settle 71 = .ok (.aload_n 0, 1) := by decide +kernel
theorem dX11_settle_72 : decode cX11_settle 72 = .ok (.getfield 279, 3) := by decide +kernel
theorem dX11_settle_75 : decode cX11_settle 75 = .ok (.iaload, 1) := by decide +kernel
theorem dX11_settle_76 : decode cX11_settle 76 = .ok (.aload_n 0, 1) := by decide +kernel
theorem dX11_settle_77 : decode cX11_settle 77 = .ok (.getfield 276, 3) := by decide +kernel
theorem dX11_settle_80 : decode cX11_settle 80 = .ok (.iastore, 1) := by decide +kernel
theorem dX11_settle_81 : decode cX11_settle 81 = .ok (.goto (-81), 3) := by decide +kernel
theorem dX11_settle_84 : decode cX11_settle 84 = .ok (.aload_n 0, 1) := by decide +kernel
theorem dX11_settle_85 : decode cX11_settle 85 = .ok (.aload_n 0, 1) := by decide +kernel
theorem dX11_settle_86 : decode cX11_settle 86 = .ok (.getfield 51, 3) := by decide +kernel
theorem dX11_settle_89 : decode cX11_settle 89 = .ok (.aload_n 0, 1) := by decide +kernel
theorem dX11_settle_90 : decode cX11_settle 90 = .ok (.getfield 279, 3) := by decide +kernel
theorem dX11_settle_93 : decode cX11_settle 93 = .ok (.iaload, 1) := by decide +kernel
theorem dX11_settle_94 : decode cX11_settle 94 = .ok (.iconst 0, 1) := by decide +kernel
theorem dX11_settle_95 : decode cX11_settle 95 = .ok (.invokevirtual 285, 3) := by decide +kernel
theorem dX11_settle_98 : decode cX11_settle 98 = .ok (.goto (-98), 3) := by decide +kernel
theorem dX11_settle_101 : decode cX11_settle 101 = .ok (.return_, 1) := by decide +kernel
theorem dX11_inner_0 : decode cX11_inner 0 = .ok (.iconst (-1), 1) := by decide +kernel
theorem dX11_inner_1 : decode cX11_inner 1 = .ok (.istore_n 1, 1) := by decide +kernel
theorem dX11_inner_2 : decode cX11_inner 2 = .ok (.iconst 0, 1) := by decide +kernel
theorem dX11_inner_3 : decode cX11_inner 3 = .ok (.istore_n 2, 1) := by decide +kernel
theorem dX11_inner_4 : decode cX11_inner 4 = .ok (.iload_n 2, 1) := by decide +kernel
theorem dX11_inner_5 : decode cX11_inner 5 = .ok (.aload_n 0, 1) := by decide +kernel
theorem dX11_inner_6 : decode cX11_inner 6 = .ok (.getfield 279, 3) := by decide +kernel
theorem dX11_inner_9 : decode cX11_inner 9 = .ok (.if_icmp .ge 31, 3) := by decide +kernel
theorem dX11_inner_12 : decode cX11_inner 12 = .ok (.aload_n 0, 1) := by decide +kernel
theorem dX11_inner_13 : decode cX11_inner 13 = .ok (.getfield 51, 3) := by decide +kernel
theorem dX11_inner_16 : decode cX11_inner 16 = .ok (.iload_n 2, 1) := by decide +kernel
theorem dX11_inner_17 : decode cX11_inner 17 = .ok (.iaload, 1) := by decide +kernel
theorem dX11_inner_18 : decode cX11_inner 18 = .ok (.bipush 31, 2) := by decide +kernel
theorem dX11_inner_20 : decode cX11_inner 20 = .ok (.if_icmp .lt 12, 3) := by decide +kernel
theorem dX11_inner_23 : decode cX11_inner 23 = .ok (.aload_n 0, 1) := by decide +kernel
theorem dX11_inner_24 : decode cX11_inner 24 = .ok (.getfield 51, 3) := by decide +kernel
theorem dX11_inner_27 : decode cX11_inner 27 = .ok (.iload_n 2, 1) := by decide +kernel
theorem dX11_inner_28 : decode cX11_inner 28 = .ok (.iaload, 1) := by decide +kernel
theorem dX11_inner_29 : decode cX11_inner 29 = .ok (.goto 4, 3) := by decide +kernel
theorem dX11_inner_32 : decode cX11_inner 32 = .ok (.iload_n 1, 1) := by decide +kernel
theorem dX11_inner_33 : decode cX11_inner 33 = .ok (.istore_n 1, 1) := by decide +kernel
theorem dX11_inner_34 : decode cX11_inner 34 = .ok (.iinc 2 1, 3) := by decide +kernel
theorem dX11_inner_37 : decode cX11_inner 37 = .ok (.goto (-33), 3) := by decide +kernel
theorem dX11_inner_40 : decode cX11_inner 40 = .ok (.iload_n 1, 1) := by decide +kernel
theorem dX11_inner_41 : decode cX11_inner 41 = .ok (.ireturn, 1) := by decide +kernel
theorem dX11_isCompared_0 : decode cX11_isCompared 0 = .ok (.aload_n 0, 1) := by decide +kernel
theorem dX11_isCompared_1 : decode cX11_isCompared 1 = .ok (.getfield 279, 3) := by decide +kernel
theorem dX11_isCompared_4 : decode cX11_isCompared 4 = .ok (.iconst 1, 1) := by decide +kernel
theorem dX11_isCompared_5 : decode cX11_isCompared 5 = .ok (.isub, 1) := by decide +kernel
theorem dX11_isCompared_6 : decode cX11_isCompared 6 = .ok (.istore_n 1, 1) := by decide +kernel
theorem dX11_isCompared_7 : decode cX11_isCompared 7 = .ok (.iload_n 1, 1) := by decide +kernel
theorem dX11_isCompared_8 : decode cX11_isCompared 8 = .ok (.ifCond .lt 28, 3) := by decide +kernel
theorem dX11_isCompared_11 : decode cX11_isCompared 11 = .ok (.aload_n 0, 1) := by decide +kernel
theorem dX11_isCompared_12 : decode cX11_isCompared 12 = .ok (.getfield 51, 3) := by decide +kernel
theorem dX11_isCompared_15 : decode cX11_isCompared 15 = .ok (.iload_n 1, 1) := by decide +kernel
theorem dX11_isCompared_16 : decode cX11_isCompared 16 = .ok (.iaload, 1) := by decide +kernel
theorem dX11_isCompared_17 : decode cX11_isCompared 17 = .ok (.i2l, 1) := by decide +kernel
theorem dX11_isCompared_18 : decode cX11_isCompared 18 = .ok (.ldc2_w 289, 3) := by decide +kernel
theorem dX11_isCompared_21 : decode cX11_isCompared 21 = .ok (.ldc2_w 291, 3) := by decide +kernel
theorem dX11_isCompared_24 : decode cX11_isCompared 24 = .ok (.invokestatic 179, 3) := by decide +kernel
theorem dX11_isCompared_27 : decode cX11_isCompared 27 = .ok (.ifCond .eq 9, 3) := by decide +kernel
theorem dX11_isCompared_30 : decode cX11_isCompared 30 = .ok (.iinc 1 (-1), 3) := by decide +kernel
theorem dX11_isCompared_33 : decode cX11_isCompared 33 = .ok (.goto (-26), 3) := by decide +kernel
theorem dX11_isCompared_36 : decode cX11_isCompared 36 = .ok (.iload_n 1, 1) := by decide +kernel
theorem dX11_isCompared_37 : decode cX11_isCompared 37 = .ok (.ifCond .lt 26, 3) := by decide +kernel
theorem dX11_isCompared_40 : decode cX11_isCompared 40 = .ok (.aload_n 0, 1) := by decide +kernel
theorem dX11_isCompared_41 : decode cX11_isCompared 41 = .ok (.getfield 51, 3) := by decide +kernel
theorem dX11_isCompared_44 : decode cX11_isCompared 44 = .ok (.iload_n 1, 1) := by decide +kernel
theorem dX11_isCompared_45 : decode cX11_isCompared 45 = .ok (.iaload, 1) := by decide +kernel
theorem dX11_isCompared_46 : decode cX11_isCompared 46 = .ok (.i2l, 1) := by decide +kernel
theorem dX11_isCompared_47 : decode cX11_isCompared 47 = .ok (.ldc2_w 293, 3) := by decide +kernel
theorem dX11_isCompared_50 : decode cX11_isCompared 50 = .ok (.ldc2_w 295, 3) := by decide +kernel
theorem dX11_isCompared_53 : decode cX11_isCompared 53 = .ok (.invokestatic 179, 3) := by decide +kernel
theorem dX11_isCompared_56 : decode cX11_isCompared 56 = .ok (.ifCond .eq 7, 3) := by decide +kernel
theorem dX11_isCompared_59 : decode cX11_isCompared 59 = .ok (.iconst 1, 1) := by decide +kernel
theorem dX11_isCompared_60 : decode cX11_isCompared 60 = .ok (.goto 4, 3) := by decide +kernel
theorem dX11_isCompared_63 : decode cX11_isCompared 63 = .ok (.iconst 0, 1) := by decide +kernel
theorem dX11_isCompared_64 : decode cX11_isCompared 64 = .ok (.ireturn, 1) := by decide +kernel
theorem dX11_partAt_0 : decode cX11_partAt 0 = .ok (.iconst (-1), 1) := by decide +kernel
theorem dX11_partAt_1 : decode cX11_partAt 1 = .ok (.istore_n 1, 1) := by decide +kernel
theorem dX11_partAt_2 : decode cX11_partAt 2 = .ok (.iconst 0, 1) := by decide +kernel
theorem dX11_partAt_3 : decode cX11_partAt 3 = .ok (.istore_n 2, 1) := by decide +kernel
theorem dX11_partAt_4 : decode cX11_partAt 4 = .ok (.iload_n 2, 1) := by decide +kernel
theorem dX11_partAt_5 : decode cX11_partAt 5 = .ok (.bipush 9, 2) := by decide +kernel
theorem dX11_partAt_7 : decode cX11_partAt 7 = .ok (.if_icmp .ge 30, 3) := by decide +kernel
theorem dX11_partAt_10 : decode cX11_partAt 10 = .ok (.aload_n 0, 1) := by decide +kernel
theorem dX11_partAt_11 : decode cX11_partAt 11 = .ok (.aload_n 0, 1) := by decide +kernel
theorem dX11_partAt_12 : decode cX11_partAt 12 = .ok (.getfield 75, 3) := by decide +kernel
theorem dX11_partAt_15 : decode cX11_partAt 15 = .ok (.iload_n 2, 1) := by decide +kernel
theorem dX11_partAt_16 : decode cX11_partAt 16 = .ok (.laload, 1) := by decide +kernel
theorem dX11_partAt_17 : decode cX11_partAt 17 = .ok (.invokevirtual 297, 3) := by decide +kernel
theorem dX11_partAt_20 : decode cX11_partAt 20 = .ok (.ifCond .eq 9, 3) := by decide +kernel
theorem dX11_partAt_23 : decode cX11_partAt 23 = .ok (.iload_n 2, 1) := by decide +kernel
theorem dX11_partAt_24 : decode cX11_partAt 24 = .ok (.iconst 1, 1) := by decide +kernel
theorem dX11_partAt_25 : decode cX11_partAt 25 = .ok (.iadd, 1) := by decide +kernel
theorem dX11_partAt_26 : decode cX11_partAt 26 = .ok (.goto 4, 3) := by decide +kernel
theorem dX11_partAt_29 : decode cX11_partAt 29 = .ok (.iload_n 1, 1) := by decide +kernel
theorem dX11_partAt_30 : decode cX11_partAt 30 = .ok (.istore_n 1, 1) := by decide +kernel
theorem dX11_partAt_31 : decode cX11_partAt 31 = .ok (.iinc 2 1, 3) := by decide +kernel
theorem dX11_partAt_34 : decode cX11_partAt 34 = .ok (.goto (-30), 3) := by decide +kernel
theorem dX11_partAt_37 : decode cX11_partAt 37 = .ok (.iload_n 1, 1) := by decide +kernel
theorem dX11_partAt_38 : decode cX11_partAt 38 = .ok (.ireturn, 1) := by decide +kernel
theorem dX11_orderPartAt_0 : decode cX11_orderPartAt 0 = .ok (.iconst (-1), 1) := by decide +kernel
theorem dX11_orderPartAt_1 : decode cX11_orderPartAt 1 = .ok (.istore_n 1, 1) := by decide +kernel
theorem dX11_orderPartAt_2 : decode cX11_orderPartAt 2 = .ok (.iconst 0, 1) := by decide +kernel
theorem dX11_orderPartAt_3 : decode cX11_orderPartAt 3 = .ok (.istore_n 2, 1) := by decide +kernel
theorem dX11_orderPartAt_4 : decode cX11_orderPartAt 4 = .ok (.iload_n 2, 1) := by decide +kernel
theorem dX11_orderPartAt_5 : decode cX11_orderPartAt 5 = .ok (.bipush 7, 2) := by decide +kernel
theorem dX11_orderPartAt_7 : decode cX11_orderPartAt 7 = .ok (.if_icmp .ge 30, 3) := by decide +kernel
theorem dX11_orderPartAt_10 : decode cX11_orderPartAt 10 = .ok (.aload_n 0, 1) := by decide +kernel
theorem dX11_orderPartAt_11 : decode cX11_orderPartAt 11 = .ok (.aload_n 0, 1) := by decide +kernel
theorem dX11_orderPartAt_12 : decode cX11_orderPartAt 12 = .ok (.getfield 91, 3) := by decide +kernel
theorem dX11_orderPartAt_15 : decode cX11_orderPartAt 15 = .ok (.iload_n 2, 1) := by decide +kernel
theorem dX11_orderPartAt_16 : decode cX11_orderPartAt 16 = .ok (.laload, 1) := by decide +kernel
theorem dX11_orderPartAt_17 : decode cX11_orderPartAt 17 = .ok (.invokevirtual 297, 3) := by decide +kernel
theorem dX11_orderPartAt_20 : decode cX11_orderPartAt 20 = .ok (.ifCond .eq 9, 3) := by decide +kernel
theorem dX11_orderPartAt_23 : decode cX11_orderPartAt 23 = .ok (.iload_n 2, 1) := by decide +kernel
theorem dX11_orderPartAt_24 : decode cX11_orderPartAt 24 = .ok (.iconst 1, 1) := by decide +kernel
theorem dX11_orderPartAt_25 : decode cX11_orderPartAt 25 = .ok (.iadd, 1) := by decide +kernel
theorem dX11_orderPartAt_26 : decode cX11_orderPartAt 26 = .ok (.goto 4, 3) := by decide +kernel
theorem dX11_orderPartAt_29 : decode cX11_orderPartAt 29 = .ok (.iload_n 1, 1) := by decide +kernel
theorem dX11_orderPartAt_30 : decode cX11_orderPartAt 30 = .ok (.istore_n 1, 1) := by decide +kernel
theorem dX11_orderPartAt_31 : decode cX11_orderPartAt 31 = .ok (.iinc 2 1, 3) := by decide +kernel
theorem dX11_orderPartAt_34 : decode cX11_orderPartAt 34 = .ok (.goto (-30), 3) := by decide +kernel
theorem dX11_orderPartAt_37 : decode cX11_orderPartAt 37 = .ok (.iload_n 1, 1) := by decide +kernel
theorem dX11_orderPartAt_38 : decode cX11_orderPartAt 38 = .ok (.ireturn, 1) := by decide +kernel
theorem dX11_openBracket_0 : decode cX11_openBracket 0 = .ok (.aload_n 0, 1) := by decide +kernel
theorem dX11_openBracket_1 : decode cX11_openBracket 1 = .ok (.aload_n 0, 1) := by decide +kernel
theorem dX11_openBracket_2 : decode cX11_openBracket 2 = .ok (.getfield 301, 3) := by decide +kernel
theorem dX11_openBracket_5 : decode cX11_openBracket 5 = .ok (.bipush 8, 2) := by decide +kernel
theorem dX11_openBracket_7 : decode cX11_openBracket 7 = .ok (.if_icmp .ge 7, 3) := by decide +kernel
theorem dX11_openBracket_10 : decode cX11_openBracket 10 = .ok (.iconst 1, 1) := by decide +kernel
theorem dX11_openBracket_11 : decode cX11_openBracket 11 = .ok (.goto 4, 3) := by decide +kernel
theorem dX11_openBracket_14 : decode cX11_openBracket 14 = .ok (.iconst 0, 1) := by decide +kernel
theorem dX11_openBracket_15 : decode cX11_openBracket 15 = .ok (.invokevirtual 272, 3) := by decide +kernel
theorem dX11_openBracket_18 : decode cX11_openBracket 18 = .ok (.aload_n 0, 1) := by decide +kernel
theorem dX11_openBracket_19 : decode cX11_openBracket 19 = .ok (.getfield 239, 3) := by decide +kernel
theorem dX11_openBracket_22 : decode cX11_openBracket 22 = .ok (.ifCond .ne 19, 3) := by decide +kernel
theorem dX11_openBracket_25 : decode cX11_openBracket 25 = .ok (.aload_n 0, 1) := by decide +kernel
theorem dX11_openBracket_26 : decode cX11_openBracket 26 = .ok (.dup, 1) := by decide +kernel
theorem dX11_openBracket_27 : decode cX11_openBracket 27 = .ok (.getfield 301, 3) := by decide +kernel
theorem dX11_openBracket_30 : decode cX11_openBracket 30 = .ok (.iconst 1, 1) := by decide +kernel
theorem dX11_openBracket_31 : decode cX11_openBracket 31 = .ok (.iadd, 1) := by decide +kernel
theorem dX11_openBracket_32 : decode cX11_openBracket 32 = .ok (.putfield 301, 3) := by decide +kernel
theorem dX11_openBracket_35 : decode cX11_openBracket 35 = .ok (.aload_n 0, 1) := by decide +kernel
theorem dX11_openBracket_36 : decode cX11_openBracket 36 = .ok (.iload_n 1, 1) := by decide +kernel
theorem dX11_openBracket_37 : decode cX11_openBracket 37 = .ok (.iconst 0, 1) := by decide +kernel
theorem dX11_openBracket_38 : decode cX11_openBracket 38 = .ok (.invokevirtual 304, 3) := by decide +kernel
theorem dX11_openBracket_41 : decode cX11_openBracket 41 = .ok (.return_, 1) := by decide +kernel
theorem dX11_leaf_0 : decode cX11_leaf 0 = .ok (.aload_n 0, 1) := by decide +kernel
theorem dX11_leaf_1 : decode cX11_leaf 1 = .ok (.iload_n 1, 1) := by decide +kernel
theorem dX11_leaf_2 : decode cX11_leaf 2 = .ok (.ifCond .eq 16, 3) := by decide +kernel
theorem dX11_leaf_5 : decode cX11_leaf 5 = .ok (.aload_n 0, 1) := by decide +kernel
theorem dX11_leaf_6 : decode cX11_leaf 6 = .ok (.getfield 307, 3) := by decide +kernel
theorem dX11_leaf_9 : decode cX11_leaf 9 = .ok (.bipush 50, 2) := by decide +kernel
theorem dX11_leaf_11 : decode cX11_leaf 11 = .ok (.if_icmp .ge 7, 3) := by decide +kernel
theorem dX11_leaf_14 : decode cX11_leaf 14 = .ok (.iconst 1, 1) := by decide +kernel
theorem dX11_leaf_15 : decode cX11_leaf 15 = .ok (.goto 4, 3) := by decide +kernel
theorem dX11_leaf_18 : decode cX11_leaf 18 = .ok (.iconst 0, 1) := by decide +kernel
theorem dX11_leaf_19 : decode cX11_leaf 19 = .ok (.invokevirtual 272, 3) := by decide +kernel
theorem dX11_leaf_22 : decode cX11_leaf 22 = .ok (.aload_n 0, 1) := by decide +kernel
theorem dX11_leaf_23 : decode cX11_leaf 23 = .ok (.getfield 239, 3) := by decide +kernel
theorem dX11_leaf_26 : decode cX11_leaf 26 = .ok (.ifCond .ne 19, 3) := by decide +kernel
theorem dX11_leaf_29 : decode cX11_leaf 29 = .ok (.aload_n 0, 1) := by decide +kernel
theorem dX11_leaf_30 : decode cX11_leaf 30 = .ok (.iload_n 2, 1) := by decide +kernel
theorem dX11_leaf_31 : decode cX11_leaf 31 = .ok (.iload_n 3, 1) := by decide +kernel
theorem dX11_leaf_32 : decode cX11_leaf 32 = .ok (.invokevirtual 285, 3) := by decide +kernel
theorem dX11_leaf_35 : decode cX11_leaf 35 = .ok (.aload_n 0, 1) := by decide +kernel
theorem dX11_leaf_36 : decode cX11_leaf 36 = .ok (.dup, 1) := by decide +kernel
theorem dX11_leaf_37 : decode cX11_leaf 37 = .ok (.getfield 307, 3) := by decide +kernel
theorem dX11_leaf_40 : decode cX11_leaf 40 = .ok (.iconst 1, 1) := by decide +kernel
theorem dX11_leaf_41 : decode cX11_leaf 41 = .ok (.iadd, 1) := by decide +kernel
theorem dX11_leaf_42 : decode cX11_leaf 42 = .ok (.putfield 307, 3) := by decide +kernel
theorem dX11_leaf_45 : decode cX11_leaf 45 = .ok (.return_, 1) := by decide +kernel
theorem dX11_readPart_0 : decode cX11_readPart 0 = .ok (.aload_n 0, 1) := by decide +kernel
theorem dX11_readPart_1 : decode cX11_readPart 1 = .ok (.bipush 91, 2) := by decide +kernel
theorem dX11_readPart_3 : decode cX11_readPart 3 = .ok (.invokevirtual 310, 3) := by decide +kernel
theorem dX11_readPart_6 : decode cX11_readPart 6 = .ok (.ifCond .eq 11, 3) := by decide +kernel
theorem dX11_readPart_9 : decode cX11_readPart 9 = .ok (.aload_n 0, 1) := by decide +kernel
theorem dX11_readPart_10 : decode cX11_readPart 10 = .ok (.bipush 32, 2) := by decide +kernel
theorem dX11_readPart_12 : decode cX11_readPart 12 = .ok (.invokevirtual 313, 3) := by decide +kernel
theorem dX11_readPart_15 : decode cX11_readPart 15 = .ok (.iconst 1, 1) := by decide +kernel
theorem dX11_readPart_16 : decode cX11_readPart 16 = .ok (.ireturn, 1) := by decide +kernel
theorem dX11_readPart_17 : decode cX11_readPart 17 = .ok (.aload_n 0, 1) := by decide +kernel
theorem dX11_readPart_18 : decode cX11_readPart 18 = .ok (.getfield 316, 3) := by decide +kernel
theorem dX11_readPart_21 : decode cX11_readPart 21 = .ok (.ifCond .eq 10, 3) := by decide +kernel
theorem dX11_readPart_24 : decode cX11_readPart 24 = .ok (.aload_n 0, 1) := by decide +kernel
theorem dX11_readPart_25 : decode cX11_readPart 25 = .ok (.invokevirtual 319, 3) := by decide +kernel
theorem dX11_readPart_28 : decode cX11_readPart 28 = .ok (.goto 7, 3) := by decide +kernel
theorem dX11_readPart_31 : decode cX11_readPart 31 = .ok (.aload_n 0, 1) := by decide +kernel
theorem dX11_readPart_32 : decode cX11_readPart 32 = .ok (.invokevirtual 323, 3) := by decide +kernel
theorem dX11_readPart_35 : decode cX11_readPart 35 = .ok (.istore_n 1, 1) := by decide +kernel
theorem dX11_readPart_36 : decode cX11_readPart 36 = .ok (.aload_n 0, 1) := by decide +kernel
theorem dX11_readPart_37 : decode cX11_readPart 37 = .ok (.getfield 259, 3) := by decide +kernel
theorem dX11_readPart_40 : decode cX11_readPart 40 = .ok (.iconst 2, 1) := by decide +kernel
theorem dX11_readPart_41 : decode cX11_readPart 41 = .ok (.if_icmp .ne 18, 3) := by decide +kernel
theorem dX11_readPart_44 : decode cX11_readPart 44 = .ok (.aload_n 0, 1) := by decide +kernel
theorem dX11_readPart_45 : decode cX11_readPart 45 = .ok (.getfield 249, 3) := by decide +kernel
theorem dX11_readPart_48 : decode cX11_readPart 48 = .ok (.ldc2_w 326, 3) := by decide +kernel
theorem dX11_readPart_51 : decode cX11_readPart 51 = .ok (.lcmp, 1) := by decide +kernel
theorem dX11_readPart_52 : decode cX11_readPart 52 = .ok (.ifCond .gt 7, 3) := by decide +kernel
theorem dX11_readPart_55 : decode cX11_readPart 55 = .ok (.iconst 1, 1) := by decide +kernel
theorem dX11_readPart_56 : decode cX11_readPart 56 = .ok (.goto 4, 3) := by decide +kernel
theorem dX11_readPart_59 : decode cX11_readPart 59 = .ok (.iconst 0, 1) := by decide +kernel
theorem dX11_readPart_60 : decode cX11_readPart 60 = .ok (.istore_n 2, 1) := by decide +kernel
theorem dX11_readPart_61 : decode cX11_readPart 61 = .ok (.aload_n 0, 1) := by decide +kernel
theorem dX11_readPart_62 : decode cX11_readPart 62 = .ok (.iload_n 1, 1) := by decide +kernel
theorem dX11_readPart_63 : decode cX11_readPart 63 = .ok (.iconst (-1), 1) := by decide +kernel
theorem dX11_readPart_64 : decode cX11_readPart 64 = .ok (.if_icmp .ne 7, 3) := by decide +kernel
theorem dX11_readPart_67 : decode cX11_readPart 67 = .ok (.iload_n 2, 1) := by decide +kernel
theorem dX11_readPart_68 : decode cX11_readPart 68 = .ok (.ifCond .eq 7, 3) := by decide +kernel
theorem dX11_readPart_71 : decode cX11_readPart 71 = .ok (.iconst 1, 1) := by decide +kernel
theorem dX11_readPart_72 : decode cX11_readPart 72 = .ok (.goto 4, 3) := by decide +kernel
theorem dX11_readPart_75 : decode cX11_readPart 75 = .ok (.iconst 0, 1) := by decide +kernel
theorem dX11_readPart_76 : decode cX11_readPart 76 = .ok (.iload_n 1, 1) := by decide +kernel
theorem dX11_readPart_77 : decode cX11_readPart 77 = .ok (.iconst (-1), 1) := by decide +kernel
theorem dX11_readPart_78 : decode cX11_readPart 78 = .ok (.if_icmp .ne 7, 3) := by decide +kernel
theorem dX11_readPart_81 : decode cX11_readPart 81 = .ok (.iconst 0, 1) := by decide +kernel
theorem dX11_readPart_82 : decode cX11_readPart 82 = .ok (.goto 4, 3) := by decide +kernel
theorem dX11_readPart_85 : decode cX11_readPart 85 = .ok (.iload_n 1, 1) := by decide +kernel
theorem dX11_readPart_86 : decode cX11_readPart 86 = .ok (.iload_n 2, 1) := by decide +kernel
theorem dX11_readPart_87 : decode cX11_readPart 87 = .ok (.ifCond .eq 11, 3) := by decide +kernel
theorem dX11_readPart_90 : decode cX11_readPart 90 = .ok (.aload_n 0, 1) := by decide +kernel
theorem dX11_readPart_91 : decode cX11_readPart 91 = .ok (.getfield 249, 3) := by decide +kernel
theorem dX11_readPart_94 : decode cX11_readPart 94 = .ok (.l2i, 1) := by decide +kernel
theorem dX11_readPart_95 : decode cX11_readPart 95 = .ok (.goto 4, 3) := by decide +kernel
theorem dX11_readPart_98 : decode cX11_readPart 98 = .ok (.iconst 0, 1) := by decide +kernel
theorem dX11_readPart_99 : decode cX11_readPart 99 = .ok (.invokevirtual 328, 3) := by decide +kernel
theorem dX11_readPart_102 : decode cX11_readPart 102 = .ok (.aload_n 0, 1) := by decide +kernel
theorem dX11_readPart_103 : decode cX11_readPart 103 = .ok (.getfield 316, 3) := by decide +kernel
theorem dX11_readPart_106 : decode cX11_readPart 106 = .ok (.ifCond .eq 49, 3) := by decide +kernel
theorem dX11_readPart_109 : decode cX11_readPart 109 = .ok (.iload_n 1, 1) := by decide +kernel
theorem dX11_readPart_110 : decode cX11_readPart 110 = .ok (.bipush 6, 2) := by decide +kernel
theorem dX11_readPart_112 : decode cX11_readPart 112 = .ok (.if_icmp .lt 43, 3) := by decide +kernel
theorem dX11_readPart_115 : decode cX11_readPart 115 = .ok (.aload_n 0, 1) := by decide +kernel
theorem dX11_readPart_116 : decode cX11_readPart 116 = .ok (.getfield 239, 3) := by decide +kernel
theorem dX11_readPart_119 : decode cX11_readPart 119 = .ok (.ifCond .ne 36, 3) := by decide +kernel
theorem dX11_readPart_122 : decode cX11_readPart 122 = .ok (.aload_n 0, 1) := by decide +kernel
theorem dX11_readPart_123 : decode cX11_readPart 123 = .ok (.getfield 276, 3) := by decide +kernel
theorem dX11_readPart_126 : decode cX11_readPart 126 = .ok (.iconst 1, 1) := by decide +kernel
theorem dX11_readPart_127 : decode cX11_readPart 127 = .ok (.isub, 1) := by decide +kernel
theorem dX11_readPart_128 : decode cX11_readPart 128 = .ok (.istore_n 3, 1) := by decide +kernel
theorem dX11_readPart_129 : decode cX11_readPart 129 = .ok (.aload_n 0, 1) := by decide +kernel
theorem dX11_readPart_130 : decode cX11_readPart 130 = .ok (.getfield 48, 3) := by decide +kernel
theorem dX11_readPart_133 : decode cX11_readPart 133 = .ok (.iload_n 3, 1) := by decide +kernel
theorem dX11_readPart_134 : decode cX11_readPart 134 = .ok (.aload_n 0, 1) := by decide +kernel
theorem dX11_readPart_135 : decode cX11_readPart 135 = .ok (.lconst 0, 1) := by decide +kernel
theorem dX11_readPart_136 : decode cX11_readPart 136 = .ok (.iload_n 1, 1) := by decide +kernel
theorem dX11_readPart_137 : decode cX11_readPart 137 = .ok (.bipush 6, 2) := by decide +kernel
theorem dX11_readPart_139 : decode cX11_readPart 139 = .ok (.if_icmp .ne 9, 3) := by decide +kernel
theorem dX11_readPart_142 : decode cX11_readPart 142 = .ok (.ldc2_w 332, 3) := by decide +kernel
theorem dX11_readPart_145 : decode cX11_readPart 145 = .ok (.goto 6, 3) := by decide +kernel
theorem dX11_readPart_148 : decode cX11_readPart 148 = .ok (.ldc2_w 192, 3) := by decide +kernel
theorem dX11_readPart_151 : decode cX11_readPart 151 = .ok (.invokevirtual 334, 3) := by decide +kernel
theorem dX11_readPart_154 : decode cX11_readPart 154 = .ok (.iastore, 1) := by decide +kernel
theorem dX11_readPart_155 : decode cX11_readPart 155 = .ok (.iconst 3, 1) := by decide +kernel
theorem dX11_readPart_156 : decode cX11_readPart 156 = .ok (.ireturn, 1) := by decide +kernel
theorem dX11_readPlain_0 : decode cX11_readPlain 0 = .ok (.aload_n 0, 1) := by decide +kernel
theorem dX11_readPlain_1 : decode cX11_readPlain 1 = .ok (.ldc2_w 338, 3) := by decide +kernel
theorem dX11_readPlain_4 : decode cX11_readPlain 4 = .ok (.invokevirtual 297, 3) := by decide +kernel
theorem dX11_readPlain_7 : decode cX11_readPlain 7 = .ok (.ifCond .eq 16, 3) := by decide +kernel
theorem dX11_readPlain_10 : decode cX11_readPlain 10 = .ok (.aload_n 0, 1) := by decide +kernel
theorem dX11_readPlain_11 : decode cX11_readPlain 11 = .ok (.bipush 28, 2) := by decide +kernel
theorem dX11_readPlain_13 : decode cX11_readPlain 13 = .ok (.iconst 0, 1) := by decide +kernel
theorem dX11_readPlain_14 : decode cX11_readPlain 14 = .ok (.invokevirtual 304, 3) := by decide +kernel
theorem dX11_readPlain_17 : decode cX11_readPlain 17 = .ok (.aload_n 0, 1) := by decide +kernel
theorem dX11_readPlain_18 : decode cX11_readPlain 18 = .ok (.invokevirtual 243, 3) := by decide +kernel
theorem dX11_readPlain_21 : decode cX11_readPlain 21 = .ok (.iconst 0, 1) := by decide +kernel
theorem dX11_readPlain_22 : decode cX11_readPlain 22 = .ok (.ireturn, 1) := by decide +kernel
theorem dX11_readPlain_23 : decode cX11_readPlain 23 = .ok (.aload_n 0, 1) := by decide +kernel
theorem dX11_readPlain_24 : decode cX11_readPlain 24 = .ok (.bipush 40, 2) := by decide +kernel
theorem dX11_readPlain_26 : decode cX11_readPlain 26 = .ok (.invokevirtual 310, 3) := by decide +kernel
theorem dX11_readPlain_29 : decode cX11_readPlain 29 = .ok (.ifCond .eq 11, 3) := by decide +kernel
theorem dX11_readPlain_32 : decode cX11_readPlain 32 = .ok (.aload_n 0, 1) := by decide +kernel
theorem dX11_readPlain_33 : decode cX11_readPlain 33 = .ok (.bipush 31, 2) := by decide +kernel
theorem dX11_readPlain_35 : decode cX11_readPlain 35 = .ok (.invokevirtual 313, 3) := by decide +kernel
theorem dX11_readPlain_38 : decode cX11_readPlain 38 = .ok (.iconst 0, 1) := by decide +kernel
theorem dX11_readPlain_39 : decode cX11_readPlain 39 = .ok (.ireturn, 1) := by decide +kernel
theorem dX11_readPlain_40 : decode cX11_readPlain 40 = .ok (.aload_n 0, 1) := by decide +kernel
theorem dX11_readPlain_41 : decode cX11_readPlain 41 = .ok (.invokevirtual 340, 3) := by decide +kernel
theorem dX11_readPlain_44 : decode cX11_readPlain 44 = .ok (.ireturn, 1) := by decide +kernel
theorem dX11_behindSum_0 : decode cX11_behindSum 0 = .ok (.aload_n 0, 1) := by decide +kernel
theorem dX11_behindSum_1 : decode cX11_behindSum 1 = .ok (.bipush 43, 2) := by decide +kernel
theorem dX11_behindSum_3 : decode cX11_behindSum 3 = .ok (.invokevirtual 310, 3) := by decide +kernel
theorem dX11_behindSum_6 : decode cX11_behindSum 6 = .ok (.ifCond .eq 8, 3) := by decide +kernel
theorem dX11_behindSum_9 : decode cX11_behindSum 9 = .ok (.bipush 20, 2) := by decide +kernel
theorem dX11_behindSum_11 : decode cX11_behindSum 11 = .ok (.goto 60, 3) := by decide +kernel
theorem dX11_behindSum_14 : decode cX11_behindSum 14 = .ok (.aload_n 0, 1) := by decide +kernel
theorem dX11_behindSum_15 : decode cX11_behindSum 15 = .ok (.bipush 45, 2) := by decide +kernel
theorem dX11_behindSum_17 : decode cX11_behindSum 17 = .ok (.invokevirtual 310, 3) := by decide +kernel
theorem dX11_behindSum_20 : decode cX11_behindSum 20 = .ok (.ifCond .eq 8, 3) := by decide +kernel
theorem dX11_behindSum_23 : decode cX11_behindSum 23 = .ok (.bipush 21, 2) := by decide +kernel
theorem dX11_behindSum_25 : decode cX11_behindSum 25 = .ok (.goto 46, 3) := by decide +kernel
theorem dX11_behindSum_28 : decode cX11_behindSum 28 = .ok (.aload_n 0, 1) := by decide +kernel
theorem dX11_behindSum_29 : decode cX11_behindSum 29 = .ok (.bipush 42, 2) := by decide +kernel
theorem dX11_behindSum_31 : decode cX11_behindSum 31 = .ok (.invokevirtual 310, 3) := by decide +kernel
theorem dX11_behindSum_34 : decode cX11_behindSum 34 = .ok (.ifCond .eq 8, 3) := by decide +kernel
theorem dX11_behindSum_37 : decode cX11_behindSum 37 = .ok (.bipush 22, 2) := by decide +kernel
theorem dX11_behindSum_39 : decode cX11_behindSum 39 = .ok (.goto 32, 3) := by decide +kernel
theorem dX11_behindSum_42 : decode cX11_behindSum 42 = .ok (.aload_n 0, 1) := by decide +kernel
theorem dX11_behindSum_43 : decode cX11_behindSum 43 = .ok (.bipush 47, 2) := by decide +kernel
theorem dX11_behindSum_45 : decode cX11_behindSum 45 = .ok (.invokevirtual 310, 3) := by decide +kernel
theorem dX11_behindSum_48 : decode cX11_behindSum 48 = .ok (.ifCond .eq 8, 3) := by decide +kernel
theorem dX11_behindSum_51 : decode cX11_behindSum 51 = .ok (.bipush 23, 2) := by decide +kernel
theorem dX11_behindSum_53 : decode cX11_behindSum 53 = .ok (.goto 18, 3) := by decide +kernel
theorem dX11_behindSum_56 : decode cX11_behindSum 56 = .ok (.aload_n 0, 1) := by decide +kernel
theorem dX11_behindSum_57 : decode cX11_behindSum 57 = .ok (.bipush 37, 2) := by decide +kernel
theorem dX11_behindSum_59 : decode cX11_behindSum 59 = .ok (.invokevirtual 310, 3) := by decide +kernel
theorem dX11_behindSum_62 : decode cX11_behindSum 62 = .ok (.ifCond .eq 8, 3) := by decide +kernel
theorem dX11_behindSum_65 : decode cX11_behindSum 65 = .ok (.bipush 24, 2) := by decide +kernel
theorem dX11_behindSum_67 : decode cX11_behindSum 67 = .ok (.goto 4, 3) := by decide +kernel
theorem dX11_behindSum_70 : decode cX11_behindSum 70 = .ok (.iconst (-1), 1) := by decide +kernel
theorem dX11_behindSum_71 : decode cX11_behindSum 71 = .ok (.istore_n 2, 1) := by decide +kernel
theorem dX11_behindSum_72 : decode cX11_behindSum 72 = .ok (.iload_n 2, 1) := by decide +kernel
theorem dX11_behindSum_73 : decode cX11_behindSum 73 = .ok (.iconst (-1), 1) := by decide +kernel
theorem dX11_behindSum_74 : decode cX11_behindSum 74 = .ok (.if_icmp .eq 23, 3) := by decide +kernel
theorem dX11_behindSum_77 : decode cX11_behindSum 77 = .ok (.aload_n 0, 1) := by decide +kernel
theorem dX11_behindSum_78 : decode cX11_behindSum 78 = .ok (.iload_n 2, 1) := by decide +kernel
theorem dX11_behindSum_79 : decode cX11_behindSum 79 = .ok (.invokestatic 282, 3) := by decide +kernel
theorem dX11_behindSum_82 : decode cX11_behindSum 82 = .ok (.invokevirtual 343, 3) := by decide +kernel
theorem dX11_behindSum_85 : decode cX11_behindSum 85 = .ok (.aload_n 0, 1) := by decide +kernel
theorem dX11_behindSum_86 : decode cX11_behindSum 86 = .ok (.iload_n 2, 1) := by decide +kernel
theorem dX11_behindSum_87 : decode cX11_behindSum 87 = .ok (.iconst 0, 1) := by decide +kernel
theorem dX11_behindSum_88 : decode cX11_behindSum 88 = .ok (.invokevirtual 304, 3) := by decide +kernel
theorem dX11_behindSum_91 : decode cX11_behindSum 91 = .ok (.aload_n 0, 1) := by decide +kernel
theorem dX11_behindSum_92 : decode cX11_behindSum 92 = .ok (.invokevirtual 243, 3) := by decide +kernel
theorem dX11_behindSum_95 : decode cX11_behindSum 95 = .ok (.iconst 1, 1) := by decide +kernel
theorem dX11_behindSum_96 : decode cX11_behindSum 96 = .ok (.ireturn, 1) := by decide +kernel
theorem dX11_behindSum_97 : decode cX11_behindSum 97 = .ok (.aload_n 0, 1) := by decide +kernel
theorem dX11_behindSum_98 : decode cX11_behindSum 98 = .ok (.invokevirtual 346, 3) := by decide +kernel
theorem dX11_behindSum_101 : decode cX11_behindSum 101 = .ok (.istore_n 3, 1) := by decide +kernel
theorem dX11_behindSum_102 : decode cX11_behindSum 102 = .ok (.iload_n 3, 1) := by decide +kernel
theorem dX11_behindSum_103 : decode cX11_behindSum 103 = .ok (.bipush 32, 2) := by decide +kernel
theorem dX11_behindSum_105 : decode cX11_behindSum 105 = .ok (.if_icmp .ne 47, 3) := by decide +kernel
theorem dX11_behindSum_108 : decode cX11_behindSum 108 = .ok (.aload_n 0, 1) := by decide +kernel
theorem dX11_behindSum_109 : decode cX11_behindSum 109 = .ok (.aload_n 0, 1) := by decide +kernel
theorem dX11_behindSum_110 : decode cX11_behindSum 110 = .ok (.bipush 93, 2) := by decide +kernel
theorem dX11_behindSum_112 : decode cX11_behindSum 112 = .ok (.invokevirtual 310, 3) := by decide +kernel
theorem dX11_behindSum_115 : decode cX11_behindSum 115 = .ok (.invokevirtual 272, 3) := by decide +kernel
theorem dX11_behindSum_118 : decode cX11_behindSum 118 = .ok (.aload_n 0, 1) := by decide +kernel
theorem dX11_behindSum_119 : decode cX11_behindSum 119 = .ok (.getfield 239, 3) := by decide +kernel
theorem dX11_behindSum_122 : decode cX11_behindSum 122 = .ok (.ifCond .ne 28, 3) := by decide +kernel
theorem dX11_behindSum_125 : decode cX11_behindSum 125 = .ok (.aload_n 0, 1) := by decide +kernel
theorem dX11_behindSum_126 : decode cX11_behindSum 126 = .ok (.iconst 5, 1) := by decide +kernel
theorem dX11_behindSum_127 : decode cX11_behindSum 127 = .ok (.invokevirtual 343, 3) := by decide +kernel
theorem dX11_behindSum_130 : decode cX11_behindSum 130 = .ok (.aload_n 0, 1) := by decide +kernel
theorem dX11_behindSum_131 : decode cX11_behindSum 131 = .ok (.dup, 1) := by decide +kernel
theorem dX11_behindSum_132 : decode cX11_behindSum 132 = .ok (.getfield 279, 3) := by decide +kernel
theorem dX11_behindSum_135 : decode cX11_behindSum 135 = .ok (.iconst 1, 1) := by decide +kernel
theorem dX11_behindSum_136 : decode cX11_behindSum 136 = .ok (.isub, 1) := by decide +kernel
theorem dX11_behindSum_137 : decode cX11_behindSum 137 = .ok (.putfield 279, 3) := by decide +kernel
theorem dX11_behindSum_140 : decode cX11_behindSum 140 = .ok (.aload_n 0, 1) := by decide +kernel
theorem dX11_behindSum_141 : decode cX11_behindSum 141 = .ok (.dup, 1) := by decide +kernel
theorem dX11_behindSum_142 : decode cX11_behindSum 142 = .ok (.getfield 301, 3) := by decide +kernel
theorem dX11_behindSum_145 : decode cX11_behindSum 145 = .ok (.iconst 1, 1) := by decide +kernel
theorem dX11_behindSum_146 : decode cX11_behindSum 146 = .ok (.isub, 1) := by decide +kernel
theorem dX11_behindSum_147 : decode cX11_behindSum 147 = .ok (.putfield 301, 3) := by decide +kernel
theorem dX11_behindSum_150 : decode cX11_behindSum 150 = .ok (.iconst 3, 1) := by decide +kernel
theorem dX11_behindSum_151 : decode cX11_behindSum 151 = .ok (.ireturn, 1) := by decide +kernel
theorem dX11_behindSum_152 : decode cX11_behindSum 152 = .ok (.iload_n 3, 1) := by decide +kernel
theorem dX11_behindSum_153 : decode cX11_behindSum 153 = .ok (.iconst (-1), 1) := by decide +kernel
theorem dX11_behindSum_154 : decode cX11_behindSum 154 = .ok (.if_icmp .ne 9, 3) := by decide +kernel
theorem dX11_behindSum_157 : decode cX11_behindSum 157 = .ok (.iload_n 1, 1) := by decide +kernel
theorem dX11_behindSum_158 : decode cX11_behindSum 158 = .ok (.ifCond .ne 5, 3) := by decide +kernel
theorem dX11_behindSum_161 : decode cX11_behindSum 161 = .ok (.iconst 4, 1) := by decide +kernel
theorem dX11_behindSum_162 : decode cX11_behindSum 162 = .ok (.ireturn, 1) := by decide +kernel
theorem dX11_behindSum_163 : decode cX11_behindSum 163 = .ok (.aload_n 0, 1) := by decide +kernel
theorem dX11_behindSum_164 : decode cX11_behindSum 164 = .ok (.invokevirtual 349, 3) := by decide +kernel
theorem dX11_behindSum_167 : decode cX11_behindSum 167 = .ok (.ifCond .eq 5, 3) := by decide +kernel
theorem dX11_behindSum_170 : decode cX11_behindSum 170 = .ok (.iconst 2, 1) := by decide +kernel
theorem dX11_behindSum_171 : decode cX11_behindSum 171 = .ok (.ireturn, 1) := by decide +kernel
theorem dX11_behindSum_172 : decode cX11_behindSum 172 = .ok (.aload_n 0, 1) := by decide +kernel
theorem dX11_behindSum_173 : decode cX11_behindSum 173 = .ok (.bipush 60, 2) := by decide +kernel
theorem dX11_behindSum_175 : decode cX11_behindSum 175 = .ok (.invokevirtual 310, 3) := by decide +kernel
theorem dX11_behindSum_178 : decode cX11_behindSum 178 = .ok (.ifCond .eq 8, 3) := by decide +kernel
theorem dX11_behindSum_181 : decode cX11_behindSum 181 = .ok (.bipush 25, 2) := by decide +kernel
theorem dX11_behindSum_183 : decode cX11_behindSum 183 = .ok (.goto 19, 3) := by decide +kernel
theorem dX11_behindSum_186 : decode cX11_behindSum 186 = .ok (.aload_n 0, 1) := by decide +kernel
theorem dX11_behindSum_187 : decode cX11_behindSum 187 = .ok (.bipush 62, 2) := by decide +kernel
theorem dX11_behindSum_189 : decode cX11_behindSum 189 = .ok (.invokevirtual 310, 3) := by decide +kernel
theorem dX11_behindSum_192 : decode cX11_behindSum 192 = .ok (.ifCond .eq 8, 3) := by decide +kernel
theorem dX11_behindSum_195 : decode cX11_behindSum 195 = .ok (.bipush 26, 2) := by decide +kernel
theorem dX11_behindSum_197 : decode cX11_behindSum 197 = .ok (.goto 5, 3) := by decide +kernel
theorem dX11_behindSum_200 : decode cX11_behindSum 200 = .ok (.bipush 27, 2) := by decide +kernel
theorem dX11_behindSum_202 : decode cX11_behindSum 202 = .ok (.istore_n 2, 1) := by decide +kernel
theorem dX11_behindSum_203 : decode cX11_behindSum 203 = .ok (.aload_n 0, 1) := by decide +kernel
theorem dX11_behindSum_204 : decode cX11_behindSum 204 = .ok (.iload_n 2, 1) := by decide +kernel
theorem dX11_behindSum_205 : decode cX11_behindSum 205 = .ok (.bipush 27, 2) := by decide +kernel
theorem dX11_behindSum_207 : decode cX11_behindSum 207 = .ok (.if_icmp .ne 12, 3) := by decide +kernel
theorem dX11_behindSum_210 : decode cX11_behindSum 210 = .ok (.aload_n 0, 1) := by decide +kernel
theorem dX11_behindSum_211 : decode cX11_behindSum 211 = .ok (.bipush 61, 2) := by decide +kernel
theorem dX11_behindSum_213 : decode cX11_behindSum 213 = .ok (.invokevirtual 310, 3) := by decide +kernel
theorem dX11_behindSum_216 : decode cX11_behindSum 216 = .ok (.ifCond .eq 7, 3) := by decide +kernel
theorem dX11_behindSum_219 : decode cX11_behindSum 219 = .ok (.iconst 1, 1) := by decide +kernel
theorem dX11_behindSum_220 : decode cX11_behindSum 220 = .ok (.goto 4, 3) := by decide +kernel
theorem dX11_behindSum_223 : decode cX11_behindSum 223 = .ok (.iconst 0, 1) := by decide +kernel
theorem dX11_behindSum_224 : decode cX11_behindSum 224 = .ok (.invokevirtual 272, 3) := by decide +kernel
theorem dX11_behindSum_227 : decode cX11_behindSum 227 = .ok (.aload_n 0, 1) := by decide +kernel
theorem dX11_behindSum_228 : decode cX11_behindSum 228 = .ok (.getfield 239, 3) := by decide +kernel
theorem dX11_behindSum_231 : decode cX11_behindSum 231 = .ok (.ifCond .ne 14, 3) := by decide +kernel
theorem dX11_behindSum_234 : decode cX11_behindSum 234 = .ok (.aload_n 0, 1) := by decide +kernel
theorem dX11_behindSum_235 : decode cX11_behindSum 235 = .ok (.iconst 5, 1) := by decide +kernel
theorem dX11_behindSum_236 : decode cX11_behindSum 236 = .ok (.invokevirtual 343, 3) := by decide +kernel
theorem dX11_behindSum_239 : decode cX11_behindSum 239 = .ok (.aload_n 0, 1) := by decide +kernel
theorem dX11_behindSum_240 : decode cX11_behindSum 240 = .ok (.iload_n 2, 1) := by decide +kernel
theorem dX11_behindSum_241 : decode cX11_behindSum 241 = .ok (.iconst 0, 1) := by decide +kernel
theorem dX11_behindSum_242 : decode cX11_behindSum 242 = .ok (.invokevirtual 304, 3) := by decide +kernel
theorem dX11_behindSum_245 : decode cX11_behindSum 245 = .ok (.iconst 1, 1) := by decide +kernel
theorem dX11_behindSum_246 : decode cX11_behindSum 246 = .ok (.ireturn, 1) := by decide +kernel
theorem dX11_behindTest_0 : decode cX11_behindTest 0 = .ok (.aload_n 0, 1) := by decide +kernel
theorem dX11_behindTest_1 : decode cX11_behindTest 1 = .ok (.ldc2_w 353, 3) := by decide +kernel
theorem dX11_behindTest_4 : decode cX11_behindTest 4 = .ok (.invokevirtual 297, 3) := by decide +kernel
theorem dX11_behindTest_7 : decode cX11_behindTest 7 = .ok (.istore_n 1, 1) := by decide +kernel
theorem dX11_behindTest_8 : decode cX11_behindTest 8 = .ok (.iload_n 1, 1) := by decide +kernel
theorem dX11_behindTest_9 : decode cX11_behindTest 9 = .ok (.ifCond .ne 13, 3) := by decide +kernel
theorem dX11_behindTest_12 : decode cX11_behindTest 12 = .ok (.aload_n 0, 1) := by decide +kernel
theorem dX11_behindTest_13 : decode cX11_behindTest 13 = .ok (.ldc2_w 355, 3) := by decide +kernel
theorem dX11_behindTest_16 : decode cX11_behindTest 16 = .ok (.invokevirtual 297, 3) := by decide +kernel
theorem dX11_behindTest_19 : decode cX11_behindTest 19 = .ok (.ifCond .eq 57, 3) := by decide +kernel
theorem dX11_behindTest_22 : decode cX11_behindTest 22 = .ok (.aload_n 0, 1) := by decide +kernel
theorem dX11_behindTest_23 : decode cX11_behindTest 23 = .ok (.iload_n 1, 1) := by decide +kernel
theorem dX11_behindTest_24 : decode cX11_behindTest 24 = .ok (.ifCond .eq 7, 3) := by decide +kernel
theorem dX11_behindTest_27 : decode cX11_behindTest 27 = .ok (.iconst 2, 1) := by decide +kernel
theorem dX11_behindTest_28 : decode cX11_behindTest 28 = .ok (.goto 4, 3) := by decide +kernel
theorem dX11_behindTest_31 : decode cX11_behindTest 31 = .ok (.iconst 1, 1) := by decide +kernel
theorem dX11_behindTest_32 : decode cX11_behindTest 32 = .ok (.invokevirtual 343, 3) := by decide +kernel
theorem dX11_behindTest_35 : decode cX11_behindTest 35 = .ok (.aload_n 0, 1) := by decide +kernel
theorem dX11_behindTest_36 : decode cX11_behindTest 36 = .ok (.iload_n 1, 1) := by decide +kernel
theorem dX11_behindTest_37 : decode cX11_behindTest 37 = .ok (.ifCond .eq 8, 3) := by decide +kernel
theorem dX11_behindTest_40 : decode cX11_behindTest 40 = .ok (.bipush 29, 2) := by decide +kernel
theorem dX11_behindTest_42 : decode cX11_behindTest 42 = .ok (.goto 5, 3) := by decide +kernel
theorem dX11_behindTest_45 : decode cX11_behindTest 45 = .ok (.bipush 30, 2) := by decide +kernel
theorem dX11_behindTest_47 : decode cX11_behindTest 47 = .ok (.aload_n 0, 1) := by decide +kernel
theorem dX11_behindTest_48 : decode cX11_behindTest 48 = .ok (.getfield 276, 3) := by decide +kernel
theorem dX11_behindTest_51 : decode cX11_behindTest 51 = .ok (.invokevirtual 304, 3) := by decide +kernel
theorem dX11_behindTest_54 : decode cX11_behindTest 54 = .ok (.aload_n 0, 1) := by decide +kernel
theorem dX11_behindTest_55 : decode cX11_behindTest 55 = .ok (.iload_n 1, 1) := by decide +kernel
theorem dX11_behindTest_56 : decode cX11_behindTest 56 = .ok (.ifCond .eq 8, 3) := by decide +kernel
theorem dX11_behindTest_59 : decode cX11_behindTest 59 = .ok (.bipush 29, 2) := by decide +kernel
theorem dX11_behindTest_61 : decode cX11_behindTest 61 = .ok (.goto 5, 3) := by decide +kernel
theorem dX11_behindTest_64 : decode cX11_behindTest 64 = .ok (.bipush 30, 2) := by decide +kernel
theorem dX11_behindTest_66 : decode cX11_behindTest 66 = .ok (.iconst 0, 1) := by decide +kernel
theorem dX11_behindTest_67 : decode cX11_behindTest 67 = .ok (.invokevirtual 285, 3) := by decide +kernel
theorem dX11_behindTest_70 : decode cX11_behindTest 70 = .ok (.aload_n 0, 1) := by decide +kernel
theorem dX11_behindTest_71 : decode cX11_behindTest 71 = .ok (.invokevirtual 243, 3) := by decide +kernel
theorem dX11_behindTest_74 : decode cX11_behindTest 74 = .ok (.iconst 0, 1) := by decide +kernel
theorem dX11_behindTest_75 : decode cX11_behindTest 75 = .ok (.ireturn, 1) := by decide +kernel
theorem dX11_behindTest_76 : decode cX11_behindTest 76 = .ok (.aload_n 0, 1) := by decide +kernel
theorem dX11_behindTest_77 : decode cX11_behindTest 77 = .ok (.invokevirtual 346, 3) := by decide +kernel
theorem dX11_behindTest_80 : decode cX11_behindTest 80 = .ok (.iconst (-1), 1) := by decide +kernel
theorem dX11_behindTest_81 : decode cX11_behindTest 81 = .ok (.if_icmp .ne 5, 3) := by decide +kernel
theorem dX11_behindTest_84 : decode cX11_behindTest 84 = .ok (.iconst 4, 1) := by decide +kernel
theorem dX11_behindTest_85 : decode cX11_behindTest 85 = .ok (.ireturn, 1) := by decide +kernel
theorem dX11_behindTest_86 : decode cX11_behindTest 86 = .ok (.aload_n 0, 1) := by decide +kernel
theorem dX11_behindTest_87 : decode cX11_behindTest 87 = .ok (.aload_n 0, 1) := by decide +kernel
theorem dX11_behindTest_88 : decode cX11_behindTest 88 = .ok (.bipush 41, 2) := by decide +kernel
theorem dX11_behindTest_90 : decode cX11_behindTest 90 = .ok (.invokevirtual 310, 3) := by decide +kernel
theorem dX11_behindTest_93 : decode cX11_behindTest 93 = .ok (.invokevirtual 272, 3) := by decide +kernel
theorem dX11_behindTest_96 : decode cX11_behindTest 96 = .ok (.aload_n 0, 1) := by decide +kernel
theorem dX11_behindTest_97 : decode cX11_behindTest 97 = .ok (.getfield 239, 3) := by decide +kernel
theorem dX11_behindTest_100 : decode cX11_behindTest 100 = .ok (.ifCond .ne 28, 3) := by decide +kernel
theorem dX11_behindTest_103 : decode cX11_behindTest 103 = .ok (.aload_n 0, 1) := by decide +kernel
theorem dX11_behindTest_104 : decode cX11_behindTest 104 = .ok (.iconst 1, 1) := by decide +kernel
theorem dX11_behindTest_105 : decode cX11_behindTest 105 = .ok (.invokevirtual 343, 3) := by decide +kernel
theorem dX11_behindTest_108 : decode cX11_behindTest 108 = .ok (.aload_n 0, 1) := by decide +kernel
theorem dX11_behindTest_109 : decode cX11_behindTest 109 = .ok (.dup, 1) := by decide +kernel
theorem dX11_behindTest_110 : decode cX11_behindTest 110 = .ok (.getfield 279, 3) := by decide +kernel
theorem dX11_behindTest_113 : decode cX11_behindTest 113 = .ok (.iconst 1, 1) := by decide +kernel
theorem dX11_behindTest_114 : decode cX11_behindTest 114 = .ok (.isub, 1) := by decide +kernel
theorem dX11_behindTest_115 : decode cX11_behindTest 115 = .ok (.putfield 279, 3) := by decide +kernel
theorem dX11_behindTest_118 : decode cX11_behindTest 118 = .ok (.aload_n 0, 1) := by decide +kernel
theorem dX11_behindTest_119 : decode cX11_behindTest 119 = .ok (.dup, 1) := by decide +kernel
theorem dX11_behindTest_120 : decode cX11_behindTest 120 = .ok (.getfield 301, 3) := by decide +kernel
theorem dX11_behindTest_123 : decode cX11_behindTest 123 = .ok (.iconst 1, 1) := by decide +kernel
theorem dX11_behindTest_124 : decode cX11_behindTest 124 = .ok (.isub, 1) := by decide +kernel
theorem dX11_behindTest_125 : decode cX11_behindTest 125 = .ok (.putfield 301, 3) := by decide +kernel
theorem dX11_behindTest_128 : decode cX11_behindTest 128 = .ok (.iconst 2, 1) := by decide +kernel
theorem dX11_behindTest_129 : decode cX11_behindTest 129 = .ok (.ireturn, 1) := by decide +kernel
theorem dX11_readExpression_0 : decode cX11_readExpression 0 = .ok (.aload_n 0, 1) := by decide +kernel
theorem dX11_readExpression_1 : decode cX11_readExpression 1 = .ok (.iconst 0, 1) := by decide +kernel
theorem dX11_readExpression_2 : decode cX11_readExpression 2 = .ok (.putfield 279, 3) := by decide +kernel
theorem dX11_readExpression_5 : decode cX11_readExpression 5 = .ok (.aload_n 0, 1) := by decide +kernel
theorem dX11_readExpression_6 : decode cX11_readExpression 6 = .ok (.iconst 0, 1) := by decide +kernel
theorem dX11_readExpression_7 : decode cX11_readExpression 7 = .ok (.putfield 301, 3) := by decide +kernel
theorem dX11_readExpression_10 : decode cX11_readExpression 10 = .ok (.iload_n 1, 1) := by decide +kernel
theorem dX11_readExpression_11 : decode cX11_readExpression 11 = .ok (.ifCond .eq 7, 3) := by decide +kernel
theorem dX11_readExpression_14 : decode cX11_readExpression 14 = .ok (.iconst 0, 1) := by decide +kernel
theorem dX11_readExpression_15 : decode cX11_readExpression 15 = .ok (.goto 4, 3) := by decide +kernel
theorem dX11_readExpression_18 : decode cX11_readExpression 18 = .ok (.iconst 1, 1) := by decide +kernel
theorem dX11_readExpression_19 : decode cX11_readExpression 19 = .ok (.istore_n 2, 1) := by decide +kernel
theorem dX11_readExpression_20 : decode cX11_readExpression 20 = .ok (.aload_n 0, 1) := by decide +kernel
theorem dX11_readExpression_21 : decode cX11_readExpression 21 = .ok (.getfield 239, 3) := by decide +kernel
theorem dX11_readExpression_24 : decode cX11_readExpression 24 = .ok (.ifCond .ne 52, 3) := by decide +kernel
theorem dX11_readExpression_27 : decode cX11_readExpression 27 = .ok (.iload_n 2, 1) := by decide +kernel
theorem dX11_readExpression_28 : decode cX11_readExpression 28 = .ok (.iconst 4, 1) := by decide +kernel
theorem dX11_readExpression_29 : decode cX11_readExpression 29 = .ok (.if_icmp .eq 47, 3) := by decide +kernel
theorem dX11_readExpression_32 : decode cX11_readExpression 32 = .ok (.iload_n 2, 1) := by decide +kernel
theorem dX11_readExpression_33 : decode cX11_readExpression 33 = .ok (.ifCond .ne 10, 3) := by decide +kernel
theorem dX11_readExpression_36 : decode cX11_readExpression 36 = .ok (.aload_n 0, 1) := by decide +kernel
theorem dX11_readExpression_37 : decode cX11_readExpression 37 = .ok (.invokevirtual 357, 3) := by decide +kernel
theorem dX11_readExpression_40 : decode cX11_readExpression 40 = .ok (.goto 32, 3) := by decide +kernel
theorem dX11_readExpression_43 : decode cX11_readExpression 43 = .ok (.iload_n 2, 1) := by decide +kernel
theorem dX11_readExpression_44 : decode cX11_readExpression 44 = .ok (.iconst 1, 1) := by decide +kernel
theorem dX11_readExpression_45 : decode cX11_readExpression 45 = .ok (.if_icmp .ne 10, 3) := by decide +kernel
theorem dX11_readExpression_48 : decode cX11_readExpression 48 = .ok (.aload_n 0, 1) := by decide +kernel
theorem dX11_readExpression_49 : decode cX11_readExpression 49 = .ok (.invokevirtual 340, 3) := by decide +kernel
theorem dX11_readExpression_52 : decode cX11_readExpression 52 = .ok (.goto 20, 3) := by decide +kernel
theorem dX11_readExpression_55 : decode cX11_readExpression 55 = .ok (.iload_n 2, 1) := by decide +kernel
theorem dX11_readExpression_56 : decode cX11_readExpression 56 = .ok (.iconst 3, 1) := by decide +kernel
theorem dX11_readExpression_57 : decode cX11_readExpression 57 = .ok (.if_icmp .ne 11, 3) := by decide +kernel
theorem dX11_readExpression_60 : decode cX11_readExpression 60 = .ok (.aload_n 0, 1) := by decide +kernel
theorem dX11_readExpression_61 : decode cX11_readExpression 61 = .ok (.iload_n 1, 1) := by decide +kernel
theorem dX11_readExpression_62 : decode cX11_readExpression 62 = .ok (.invokevirtual 360, 3) := by decide +kernel
theorem dX11_readExpression_65 : decode cX11_readExpression 65 = .ok (.goto 7, 3) := by decide +kernel
theorem dX11_readExpression_68 : decode cX11_readExpression 68 = .ok (.aload_n 0, 1) := by decide +kernel
theorem dX11_readExpression_69 : decode cX11_readExpression 69 = .ok (.invokevirtual 364, 3) := by decide +kernel
theorem dX11_readExpression_72 : decode cX11_readExpression 72 = .ok (.istore_n 2, 1) := by decide +kernel
theorem dX11_readExpression_73 : decode cX11_readExpression 73 = .ok (.goto (-53), 3) := by decide +kernel
theorem dX11_readExpression_76 : decode cX11_readExpression 76 = .ok (.aload_n 0, 1) := by decide +kernel
theorem dX11_readExpression_77 : decode cX11_readExpression 77 = .ok (.iconst 1, 1) := by decide +kernel
theorem dX11_readExpression_78 : decode cX11_readExpression 78 = .ok (.invokevirtual 343, 3) := by decide +kernel
theorem dX11_readExpression_81 : decode cX11_readExpression 81 = .ok (.return_, 1) := by decide +kernel
theorem dX11_beginText_0 : decode cX11_beginText 0 = .ok (.aload_n 0, 1) := by decide +kernel
theorem dX11_beginText_1 : decode cX11_beginText 1 = .ok (.iload_n 1, 1) := by decide +kernel
theorem dX11_beginText_2 : decode cX11_beginText 2 = .ok (.putfield 316, 3) := by decide +kernel
theorem dX11_beginText_5 : decode cX11_beginText 5 = .ok (.aload_n 0, 1) := by decide +kernel
theorem dX11_beginText_6 : decode cX11_beginText 6 = .ok (.invokevirtual 367, 3) := by decide +kernel
theorem dX11_beginText_9 : decode cX11_beginText 9 = .ok (.aload_n 0, 1) := by decide +kernel
theorem dX11_beginText_10 : decode cX11_beginText 10 = .ok (.iconst 0, 1) := by decide +kernel
theorem dX11_beginText_11 : decode cX11_beginText 11 = .ok (.putfield 370, 3) := by decide +kernel
theorem dX11_beginText_14 : decode cX11_beginText 14 = .ok (.aload_n 0, 1) := by decide +kernel
theorem dX11_beginText_15 : decode cX11_beginText 15 = .ok (.iconst 0, 1) := by decide +kernel
theorem dX11_beginText_16 : decode cX11_beginText 16 = .ok (.putfield 276, 3) := by decide +kernel
theorem dX11_beginText_19 : decode cX11_beginText 19 = .ok (.aload_n 0, 1) := by decide +kernel
theorem dX11_beginText_20 : decode cX11_beginText 20 = .ok (.iconst 0, 1) := by decide +kernel
theorem dX11_beginText_21 : decode cX11_beginText 21 = .ok (.putfield 307, 3) := by decide +kernel
theorem dX11_beginText_24 : decode cX11_beginText 24 = .ok (.return_, 1) := by decide +kernel
theorem dX11_endText_0 : decode cX11_endText 0 = .ok (.aload_n 0, 1) := by decide +kernel
theorem dX11_endText_1 : decode cX11_endText 1 = .ok (.getfield 239, 3) := by decide +kernel
theorem dX11_endText_4 : decode cX11_endText 4 = .ok (.ifCond .ne 15, 3) := by decide +kernel
theorem dX11_endText_7 : decode cX11_endText 7 = .ok (.aload_n 0, 1) := by decide +kernel
theorem dX11_endText_8 : decode cX11_endText 8 = .ok (.getfield 259, 3) := by decide +kernel
theorem dX11_endText_11 : decode cX11_endText 11 = .ok (.ifCond .eq 8, 3) := by decide +kernel
theorem dX11_endText_14 : decode cX11_endText 14 = .ok (.aload_n 0, 1) := by decide +kernel
theorem dX11_endText_15 : decode cX11_endText 15 = .ok (.iconst 0, 1) := by decide +kernel
theorem dX11_endText_16 : decode cX11_endText 16 = .ok (.invokevirtual 272, 3) := by decide +kernel
theorem dX11_endText_19 : decode cX11_endText 19 = .ok (.aload_n 0, 1) := by decide +kernel
theorem dX11_endText_20 : decode cX11_endText 20 = .ok (.iconst 0, 1) := by decide +kernel
theorem dX11_endText_21 : decode cX11_endText 21 = .ok (.putfield 316, 3) := by decide +kernel
theorem dX11_endText_24 : decode cX11_endText 24 = .ok (.aload_n 0, 1) := by decide +kernel
theorem dX11_endText_25 : decode cX11_endText 25 = .ok (.iconst 0, 1) := by decide +kernel
theorem dX11_endText_26 : decode cX11_endText 26 = .ok (.putfield 227, 3) := by decide +kernel
theorem dX11_endText_29 : decode cX11_endText 29 = .ok (.return_, 1) := by decide +kernel
theorem dX11_readLaw_0 : decode cX11_readLaw 0 = .ok (.iconst (-1), 1) := by decide +kernel
theorem dX11_readLaw_1 : decode cX11_readLaw 1 = .ok (.istore_n 1, 1) := by decide +kernel
theorem dX11_readLaw_2 : decode cX11_readLaw 2 = .ok (.iconst 0, 1) := by decide +kernel
theorem dX11_readLaw_3 : decode cX11_readLaw 3 = .ok (.istore_n 2, 1) := by decide +kernel
theorem dX11_readLaw_4 : decode cX11_readLaw 4 = .ok (.iload_n 2, 1) := by decide +kernel
theorem dX11_readLaw_5 : decode cX11_readLaw 5 = .ok (.iconst 3, 1) := by decide +kernel
theorem dX11_readLaw_6 : decode cX11_readLaw 6 = .ok (.if_icmp .ge 28, 3) := by decide +kernel
theorem dX11_readLaw_9 : decode cX11_readLaw 9 = .ok (.aload_n 0, 1) := by decide +kernel
theorem dX11_readLaw_10 : decode cX11_readLaw 10 = .ok (.aload_n 0, 1) := by decide +kernel
theorem dX11_readLaw_11 : decode cX11_readLaw 11 = .ok (.getfield 100, 3) := by decide +kernel
theorem dX11_readLaw_14 : decode cX11_readLaw 14 = .ok (.iload_n 2, 1) := by decide +kernel
theorem dX11_readLaw_15 : decode cX11_readLaw 15 = .ok (.laload, 1) := by decide +kernel
theorem dX11_readLaw_16 : decode cX11_readLaw 16 = .ok (.invokevirtual 297, 3) := by decide +kernel
theorem dX11_readLaw_19 : decode cX11_readLaw 19 = .ok (.ifCond .eq 7, 3) := by decide +kernel
theorem dX11_readLaw_22 : decode cX11_readLaw 22 = .ok (.iload_n 2, 1) := by decide +kernel
theorem dX11_readLaw_23 : decode cX11_readLaw 23 = .ok (.goto 4, 3) := by decide +kernel
theorem dX11_readLaw_26 : decode cX11_readLaw 26 = .ok (.iload_n 1, 1) := by decide +kernel
theorem dX11_readLaw_27 : decode cX11_readLaw 27 = .ok (.istore_n 1, 1) := by decide +kernel
theorem dX11_readLaw_28 : decode cX11_readLaw 28 = .ok (.iinc 2 1, 3) := by decide +kernel
theorem dX11_readLaw_31 : decode cX11_readLaw 31 = .ok (.goto (-27), 3) := by decide +kernel
theorem dX11_readLaw_34 : decode cX11_readLaw 34 = .ok (.aload_n 0, 1) := by decide +kernel
theorem dX11_readLaw_35 : decode cX11_readLaw 35 = .ok (.iload_n 1, 1) := by decide +kernel
theorem dX11_readLaw_36 : decode cX11_readLaw 36 = .ok (.iconst (-1), 1) := by decide +kernel
theorem dX11_readLaw_37 : decode cX11_readLaw 37 = .ok (.if_icmp .eq 16, 3) := by decide +kernel
theorem dX11_readLaw_40 : decode cX11_readLaw 40 = .ok (.aload_n 0, 1) := by decide +kernel
theorem dX11_readLaw_41 : decode cX11_readLaw 41 = .ok (.getfield 370, 3) := by decide +kernel
theorem dX11_readLaw_44 : decode cX11_readLaw 44 = .ok (.bipush 12, 2) := by decide +kernel
theorem dX11_readLaw_46 : decode cX11_readLaw 46 = .ok (.if_icmp .ge 7, 3) := by decide +kernel
theorem dX11_readLaw_49 : decode cX11_readLaw 49 = .ok (.iconst 1, 1) := by decide +kernel
theorem dX11_readLaw_50 : decode cX11_readLaw 50 = .ok (.goto 4, 3) := by decide +kernel
theorem dX11_readLaw_53 : decode cX11_readLaw 53 = .ok (.iconst 0, 1) := by decide +kernel
theorem dX11_readLaw_54 : decode cX11_readLaw 54 = .ok (.invokevirtual 272, 3) := by decide +kernel
theorem dX11_readLaw_57 : decode cX11_readLaw 57 = .ok (.aload_n 0, 1) := by decide +kernel
theorem dX11_readLaw_58 : decode cX11_readLaw 58 = .ok (.getfield 239, 3) := by decide +kernel
theorem dX11_readLaw_61 : decode cX11_readLaw 61 = .ok (.ifCond .eq 4, 3) := by decide +kernel
theorem dX11_readLaw_64 : decode cX11_readLaw 64 = .ok (.return_, 1) := by decide +kernel
theorem dX11_readLaw_65 : decode cX11_readLaw 65 = .ok (.bipush 8, 2) := by decide +kernel
theorem dX11_readLaw_67 : decode cX11_readLaw 67 = .ok (.aload_n 0, 1) := by decide +kernel
theorem dX11_readLaw_68 : decode cX11_readLaw 68 = .ok (.getfield 370, 3) := by decide +kernel
theorem dX11_readLaw_71 : decode cX11_readLaw 71 = .ok (.imul, 1) := by decide +kernel
theorem dX11_readLaw_72 : decode cX11_readLaw 72 = .ok (.istore_n 2, 1) := by decide +kernel
theorem dX11_readLaw_73 : decode cX11_readLaw 73 = .ok (.iconst 0, 1) := by decide +kernel
theorem dX11_readLaw_74 : decode cX11_readLaw 74 = .ok (.istore_n 3, 1) := by decide +kernel
theorem dX11_readLaw_75 : decode cX11_readLaw 75 = .ok (.iload_n 3, 1) := by decide +kernel
theorem dX11_readLaw_76 : decode cX11_readLaw 76 = .ok (.bipush 8, 2) := by decide +kernel
theorem dX11_readLaw_78 : decode cX11_readLaw 78 = .ok (.if_icmp .ge 18, 3) := by decide +kernel
theorem dX11_readLaw_81 : decode cX11_readLaw 81 = .ok (.aload_n 0, 1) := by decide +kernel
theorem dX11_readLaw_82 : decode cX11_readLaw 82 = .ok (.getfield 42, 3) := by decide +kernel
theorem dX11_readLaw_85 : decode cX11_readLaw 85 = .ok (.iload_n 2, 1) := by decide +kernel
theorem dX11_readLaw_86 : decode cX11_readLaw 86 = .ok (.iload_n 3, 1) := by decide +kernel
theorem dX11_readLaw_87 : decode cX11_readLaw 87 = .ok (.iadd, 1) := by decide +kernel
theorem dX11_readLaw_88 : decode cX11_readLaw 88 = .ok (.iconst 0, 1) := by decide +kernel
theorem dX11_readLaw_89 : decode cX11_readLaw 89 = .ok (.iastore, 1) := by decide +kernel
theorem dX11_readLaw_90 : decode cX11_readLaw 90 = .ok (.iinc 3 1, 3) := by decide +kernel
theorem dX11_readLaw_93 : decode cX11_readLaw 93 = .ok (.goto (-18), 3) := by decide +kernel
theorem dX11_readLaw_96 : decode cX11_readLaw 96 = .ok (.aload_n 0, 1) := by decide +kernel
theorem dX11_readLaw_97 : decode cX11_readLaw 97 = .ok (.getfield 42, 3) := by decide +kernel
theorem dX11_readLaw_100 : decode cX11_readLaw 100 = .ok (.iload_n 2, 1) := by decide +kernel
theorem dX11_readLaw_101 : decode cX11_readLaw 101 = .ok (.iload_n 1, 1) := by decide +kernel
theorem dX11_readLaw_102 : decode cX11_readLaw 102 = .ok (.iastore, 1) := by decide +kernel
theorem dX11_readLaw_103 : decode cX11_readLaw 103 = .ok (.aload_n 0, 1) := by decide +kernel
theorem dX11_readLaw_104 : decode cX11_readLaw 104 = .ok (.dup, 1) := by decide +kernel
theorem dX11_readLaw_105 : decode cX11_readLaw 105 = .ok (.getfield 370, 3) := by decide +kernel
theorem dX11_readLaw_108 : decode cX11_readLaw 108 = .ok (.iconst 1, 1) := by decide +kernel
theorem dX11_readLaw_109 : decode cX11_readLaw 109 = .ok (.iadd, 1) := by decide +kernel
theorem dX11_readLaw_110 : decode cX11_readLaw 110 = .ok (.putfield 370, 3) := by decide +kernel
theorem dX11_readLaw_113 : decode cX11_readLaw 113 = .ok (.aload_n 0, 1) := by decide +kernel
theorem dX11_readLaw_114 : decode cX11_readLaw 114 = .ok (.getfield 42, 3) := by decide +kernel
theorem dX11_readLaw_117 : decode cX11_readLaw 117 = .ok (.iload_n 2, 1) := by decide +kernel
theorem dX11_readLaw_118 : decode cX11_readLaw 118 = .ok (.iconst 3, 1) := by decide +kernel
theorem dX11_readLaw_119 : decode cX11_readLaw 119 = .ok (.iadd, 1) := by decide +kernel
theorem dX11_readLaw_120 : decode cX11_readLaw 120 = .ok (.aload_n 0, 1) := by decide +kernel
theorem dX11_readLaw_121 : decode cX11_readLaw 121 = .ok (.getfield 276, 3) := by decide +kernel
theorem dX11_readLaw_124 : decode cX11_readLaw 124 = .ok (.iastore, 1) := by decide +kernel
theorem dX11_readLaw_125 : decode cX11_readLaw 125 = .ok (.iload_n 1, 1) := by decide +kernel
theorem dX11_readLaw_126 : decode cX11_readLaw 126 = .ok (.iconst 2, 1) := by decide +kernel
theorem dX11_readLaw_127 : decode cX11_readLaw 127 = .ok (.if_icmp .eq 8, 3) := by decide +kernel
theorem dX11_readLaw_130 : decode cX11_readLaw 130 = .ok (.aload_n 0, 1) := by decide +kernel
theorem dX11_readLaw_131 : decode cX11_readLaw 131 = .ok (.iconst 0, 1) := by decide +kernel
theorem dX11_readLaw_132 : decode cX11_readLaw 132 = .ok (.invokevirtual 373, 3) := by decide +kernel
theorem dX11_readLaw_135 : decode cX11_readLaw 135 = .ok (.aload_n 0, 1) := by decide +kernel
theorem dX11_readLaw_136 : decode cX11_readLaw 136 = .ok (.getfield 42, 3) := by decide +kernel
theorem dX11_readLaw_139 : decode cX11_readLaw 139 = .ok (.iload_n 2, 1) := by decide +kernel
theorem dX11_readLaw_140 : decode cX11_readLaw 140 = .ok (.iconst 4, 1) := by decide +kernel
theorem dX11_readLaw_141 : decode cX11_readLaw 141 = .ok (.iadd, 1) := by decide +kernel
theorem dX11_readLaw_142 : decode cX11_readLaw 142 = .ok (.aload_n 0, 1) := by decide +kernel
theorem dX11_readLaw_143 : decode cX11_readLaw 143 = .ok (.getfield 276, 3) := by decide +kernel
theorem dX11_readLaw_146 : decode cX11_readLaw 146 = .ok (.iastore, 1) := by decide +kernel
theorem dX11_readLaw_147 : decode cX11_readLaw 147 = .ok (.aload_n 0, 1) := by decide +kernel
theorem dX11_readLaw_148 : decode cX11_readLaw 148 = .ok (.getfield 42, 3) := by decide +kernel
theorem dX11_readLaw_151 : decode cX11_readLaw 151 = .ok (.iload_n 2, 1) := by decide +kernel
theorem dX11_readLaw_152 : decode cX11_readLaw 152 = .ok (.iconst 5, 1) := by decide +kernel
theorem dX11_readLaw_153 : decode cX11_readLaw 153 = .ok (.iadd, 1) := by decide +kernel
theorem dX11_readLaw_154 : decode cX11_readLaw 154 = .ok (.aload_n 0, 1) := by decide +kernel
theorem dX11_readLaw_155 : decode cX11_readLaw 155 = .ok (.getfield 276, 3) := by decide +kernel
theorem dX11_readLaw_158 : decode cX11_readLaw 158 = .ok (.iastore, 1) := by decide +kernel
theorem dX11_readLaw_159 : decode cX11_readLaw 159 = .ok (.aload_n 0, 1) := by decide +kernel
theorem dX11_readLaw_160 : decode cX11_readLaw 160 = .ok (.getfield 239, 3) := by decide +kernel
theorem dX11_readLaw_163 : decode cX11_readLaw 163 = .ok (.ifCond .ne 22, 3) := by decide +kernel
theorem dX11_readLaw_166 : decode cX11_readLaw 166 = .ok (.aload_n 0, 1) := by decide +kernel
theorem dX11_readLaw_167 : decode cX11_readLaw 167 = .ok (.ldc2_w 376, 3) := by decide +kernel
theorem dX11_readLaw_170 : decode cX11_readLaw 170 = .ok (.invokevirtual 297, 3) := by decide +kernel
theorem dX11_readLaw_173 : decode cX11_readLaw 173 = .ok (.ifCond .eq 12, 3) := by decide +kernel
theorem dX11_readLaw_176 : decode cX11_readLaw 176 = .ok (.aload_n 0, 1) := by decide +kernel
theorem dX11_readLaw_177 : decode cX11_readLaw 177 = .ok (.invokevirtual 243, 3) := by decide +kernel
theorem dX11_readLaw_180 : decode cX11_readLaw 180 = .ok (.aload_n 0, 1) := by decide +kernel
theorem dX11_readLaw_181 : decode cX11_readLaw 181 = .ok (.iconst 1, 1) := by decide +kernel
theorem dX11_readLaw_182 : decode cX11_readLaw 182 = .ok (.invokevirtual 373, 3) := by decide +kernel
theorem dX11_readLaw_185 : decode cX11_readLaw 185 = .ok (.aload_n 0, 1) := by decide +kernel
theorem dX11_readLaw_186 : decode cX11_readLaw 186 = .ok (.getfield 42, 3) := by decide +kernel
theorem dX11_readLaw_189 : decode cX11_readLaw 189 = .ok (.iload_n 2, 1) := by decide +kernel
theorem dX11_readLaw_190 : decode cX11_readLaw 190 = .ok (.bipush 6, 2) := by decide +kernel
theorem dX11_readLaw_192 : decode cX11_readLaw 192 = .ok (.iadd, 1) := by decide +kernel
theorem dX11_readLaw_193 : decode cX11_readLaw 193 = .ok (.aload_n 0, 1) := by decide +kernel
theorem dX11_readLaw_194 : decode cX11_readLaw 194 = .ok (.getfield 276, 3) := by decide +kernel
theorem dX11_readLaw_197 : decode cX11_readLaw 197 = .ok (.iastore, 1) := by decide +kernel
theorem dX11_readLaw_198 : decode cX11_readLaw 198 = .ok (.return_, 1) := by decide +kernel
theorem dX11_law_0 : decode cX11_law 0 = .ok (.aload_n 0, 1) := by decide +kernel
theorem dX11_law_1 : decode cX11_law 1 = .ok (.iconst 0, 1) := by decide +kernel
theorem dX11_law_2 : decode cX11_law 2 = .ok (.putfield 159, 3) := by decide +kernel
theorem dX11_law_5 : decode cX11_law 5 = .ok (.aload_n 0, 1) := by decide +kernel
theorem dX11_law_6 : decode cX11_law 6 = .ok (.getfield 13, 3) := by decide +kernel
theorem dX11_law_9 : decode cX11_law 9 = .ok (.iconst 3, 1) := by decide +kernel
theorem dX11_law_10 : decode cX11_law 10 = .ok (.iaload, 1) := by decide +kernel
theorem dX11_law_11 : decode cX11_law 11 = .ok (.bipush 6, 2) := by decide +kernel
theorem dX11_law_13 : decode cX11_law 13 = .ok (.if_icmp .ne 15, 3) := by decide +kernel
theorem dX11_law_16 : decode cX11_law 16 = .ok (.aload_n 0, 1) := by decide +kernel
theorem dX11_law_17 : decode cX11_law 17 = .ok (.iconst 0, 1) := by decide +kernel
theorem dX11_law_18 : decode cX11_law 18 = .ok (.putfield 227, 3) := by decide +kernel
theorem dX11_law_21 : decode cX11_law 21 = .ok (.aload_n 0, 1) := by decide +kernel
theorem dX11_law_22 : decode cX11_law 22 = .ok (.bipush (-5), 2) := by decide +kernel
theorem dX11_law_24 : decode cX11_law 24 = .ok (.invokevirtual 168, 3) := by decide +kernel
theorem dX11_law_27 : decode cX11_law 27 = .ok (.ireturn, 1) := by decide +kernel
theorem dX11_law_28 : decode cX11_law 28 = .ok (.aload_n 0, 1) := by decide +kernel
theorem dX11_law_29 : decode cX11_law 29 = .ok (.iconst 0, 1) := by decide +kernel
theorem dX11_law_30 : decode cX11_law 30 = .ok (.invokevirtual 378, 3) := by decide +kernel
theorem dX11_law_33 : decode cX11_law 33 = .ok (.aload_n 0, 1) := by decide +kernel
theorem dX11_law_34 : decode cX11_law 34 = .ok (.invokevirtual 381, 3) := by decide +kernel
theorem dX11_law_37 : decode cX11_law 37 = .ok (.aload_n 0, 1) := by decide +kernel
theorem dX11_law_38 : decode cX11_law 38 = .ok (.getfield 239, 3) := by decide +kernel
theorem dX11_law_41 : decode cX11_law 41 = .ok (.ifCond .ne 23, 3) := by decide +kernel
theorem dX11_law_44 : decode cX11_law 44 = .ok (.aload_n 0, 1) := by decide +kernel
theorem dX11_law_45 : decode cX11_law 45 = .ok (.bipush 59, 2) := by decide +kernel
theorem dX11_law_47 : decode cX11_law 47 = .ok (.invokevirtual 310, 3) := by decide +kernel
theorem dX11_law_50 : decode cX11_law 50 = .ok (.ifCond .eq 14, 3) := by decide +kernel
theorem dX11_law_53 : decode cX11_law 53 = .ok (.aload_n 0, 1) := by decide +kernel
theorem dX11_law_54 : decode cX11_law 54 = .ok (.invokevirtual 243, 3) := by decide +kernel
theorem dX11_law_57 : decode cX11_law 57 = .ok (.aload_n 0, 1) := by decide +kernel
theorem dX11_law_58 : decode cX11_law 58 = .ok (.invokevirtual 381, 3) := by decide +kernel
theorem dX11_law_61 : decode cX11_law 61 = .ok (.goto (-24), 3) := by decide +kernel
theorem dX11_law_64 : decode cX11_law 64 = .ok (.aload_n 0, 1) := by decide +kernel
theorem dX11_law_65 : decode cX11_law 65 = .ok (.invokevirtual 384, 3) := by decide +kernel
theorem dX11_law_68 : decode cX11_law 68 = .ok (.aload_n 0, 1) := by decide +kernel
theorem dX11_law_69 : decode cX11_law 69 = .ok (.getfield 239, 3) := by decide +kernel
theorem dX11_law_72 : decode cX11_law 72 = .ok (.ifCond .eq 10, 3) := by decide +kernel
theorem dX11_law_75 : decode cX11_law 75 = .ok (.aload_n 0, 1) := by decide +kernel
theorem dX11_law_76 : decode cX11_law 76 = .ok (.bipush (-6), 2) := by decide +kernel
theorem dX11_law_78 : decode cX11_law 78 = .ok (.invokevirtual 168, 3) := by decide +kernel
theorem dX11_law_81 : decode cX11_law 81 = .ok (.ireturn, 1) := by decide +kernel
theorem dX11_law_82 : decode cX11_law 82 = .ok (.bipush 76, 2) := by decide +kernel
theorem dX11_law_84 : decode cX11_law 84 = .ok (.sipush 900, 3) := by decide +kernel
theorem dX11_law_87 : decode cX11_law 87 = .ok (.aload_n 0, 1) := by decide +kernel
theorem dX11_law_88 : decode cX11_law 88 = .ok (.getfield 13, 3) := by decide +kernel
theorem dX11_law_91 : decode cX11_law 91 = .ok (.iconst 3, 1) := by decide +kernel
theorem dX11_law_92 : decode cX11_law 92 = .ok (.iaload, 1) := by decide +kernel
theorem dX11_law_93 : decode cX11_law 93 = .ok (.imul, 1) := by decide +kernel
theorem dX11_law_94 : decode cX11_law 94 = .ok (.iadd, 1) := by decide +kernel
theorem dX11_law_95 : decode cX11_law 95 = .ok (.istore_n 1, 1) := by decide +kernel
theorem dX11_law_96 : decode cX11_law 96 = .ok (.aload_n 0, 1) := by decide +kernel
theorem dX11_law_97 : decode cX11_law 97 = .ok (.getfield 13, 3) := by decide +kernel
theorem dX11_law_100 : decode cX11_law 100 = .ok (.iload_n 1, 1) := by decide +kernel
theorem dX11_law_101 : decode cX11_law 101 = .ok (.iconst 1, 1) := by decide +kernel
theorem dX11_law_102 : decode cX11_law 102 = .ok (.iadd, 1) := by decide +kernel
theorem dX11_law_103 : decode cX11_law 103 = .ok (.aload_n 0, 1) := by decide +kernel
theorem dX11_law_104 : decode cX11_law 104 = .ok (.getfield 370, 3) := by decide +kernel
theorem dX11_law_107 : decode cX11_law 107 = .ok (.iastore, 1) := by decide +kernel
theorem dX11_law_108 : decode cX11_law 108 = .ok (.iconst 0, 1) := by decide +kernel
theorem dX11_law_109 : decode cX11_law 109 = .ok (.istore_n 2, 1) := by decide +kernel
theorem dX11_law_110 : decode cX11_law 110 = .ok (.iload_n 2, 1) := by decide +kernel
theorem dX11_law_111 : decode cX11_law 111 = .ok (.bipush 8, 2) := by decide +kernel
theorem dX11_law_113 : decode cX11_law 113 = .ok (.aload_n 0, 1) := by decide +kernel
theorem dX11_law_114 : decode cX11_law 114 = .ok (.getfield 370, 3) := by decide +kernel
theorem dX11_law_117 : decode cX11_law 117 = .ok (.imul, 1) := by decide +kernel
theorem dX11_law_118 : decode cX11_law 118 = .ok (.if_icmp .ge 25, 3) := by decide +kernel
theorem dX11_law_121 : decode cX11_law 121 = .ok (.aload_n 0, 1) := by decide +kernel
theorem dX11_law_122 : decode cX11_law 122 = .ok (.getfield 13, 3) := by decide +kernel
theorem dX11_law_125 : decode cX11_law 125 = .ok (.iload_n 1, 1) := by decide +kernel
theorem dX11_law_126 : decode cX11_law 126 = .ok (.iconst 2, 1) := by decide +kernel
theorem dX11_law_127 : decode cX11_law 127 = .ok (.iadd, 1) := by decide +kernel
theorem dX11_law_128 : decode cX11_law 128 = .ok (.iload_n 2, 1) := by decide +kernel
theorem dX11_law_129 : decode cX11_law 129 = .ok (.iadd, 1) := by decide +kernel
theorem dX11_law_130 : decode cX11_law 130 = .ok (.aload_n 0, 1) := by decide +kernel
theorem dX11_law_131 : decode cX11_law 131 = .ok (.getfield 42, 3) := by decide +kernel
theorem dX11_law_134 : decode cX11_law 134 = .ok (.iload_n 2, 1) := by decide +kernel
theorem dX11_law_135 : decode cX11_law 135 = .ok (.iaload, 1) := by decide +kernel
theorem dX11_law_136 : decode cX11_law 136 = .ok (.iastore, 1) := by decide +kernel
theorem dX11_law_137 : decode cX11_law 137 = .ok (.iinc 2 1, 3) := by decide +kernel
theorem dX11_law_140 : decode cX11_law 140 = .ok (.goto (-30), 3) := by decide +kernel
theorem dX11_law_143 : decode cX11_law 143 = .ok (.iconst 0, 1) := by decide +kernel
theorem dX11_law_144 : decode cX11_law 144 = .ok (.istore_n 2, 1) := by decide +kernel
theorem dX11_law_145 : decode cX11_law 145 = .ok (.iload_n 2, 1) := by decide +kernel
theorem dX11_law_146 : decode cX11_law 146 = .ok (.aload_n 0, 1) := by decide +kernel
theorem dX11_law_147 : decode cX11_law 147 = .ok (.getfield 276, 3) := by decide +kernel
theorem dX11_law_150 : decode cX11_law 150 = .ok (.if_icmp .ge 49, 3) := by decide +kernel
theorem dX11_law_153 : decode cX11_law 153 = .ok (.aload_n 0, 1) := by decide +kernel
theorem dX11_law_154 : decode cX11_law 154 = .ok (.getfield 13, 3) := by decide +kernel
theorem dX11_law_157 : decode cX11_law 157 = .ok (.iload_n 1, 1) := by decide +kernel
theorem dX11_law_158 : decode cX11_law 158 = .ok (.bipush 98, 2) := by decide +kernel
theorem dX11_law_160 : decode cX11_law 160 = .ok (.iadd, 1) := by decide +kernel
theorem dX11_law_161 : decode cX11_law 161 = .ok (.iconst 2, 1) := by decide +kernel
theorem dX11_law_162 : decode cX11_law 162 = .ok (.iload_n 2, 1) := by decide +kernel
theorem dX11_law_163 : decode cX11_law 163 = .ok (.imul, 1) := by decide +kernel
theorem dX11_law_164 : decode cX11_law 164 = .ok (.iadd, 1) := by decide +kernel
theorem dX11_law_165 : decode cX11_law 165 = .ok (.aload_n 0, 1) := by decide +kernel
theorem dX11_law_166 : decode cX11_law 166 = .ok (.getfield 45, 3) := by decide +kernel
theorem dX11_law_169 : decode cX11_law 169 = .ok (.iload_n 2, 1) := by decide +kernel
theorem dX11_law_170 : decode cX11_law 170 = .ok (.iaload, 1) := by decide +kernel
theorem dX11_law_171 : decode cX11_law 171 = .ok (.iastore, 1) := by decide +kernel
theorem dX11_law_172 : decode cX11_law 172 = .ok (.aload_n 0, 1) := by decide +kernel
theorem dX11_law_173 : decode cX11_law 173 = .ok (.getfield 13, 3) := by decide +kernel
theorem dX11_law_176 : decode cX11_law 176 = .ok (.iload_n 1, 1) := by decide +kernel
theorem dX11_law_177 : decode cX11_law 177 = .ok (.bipush 98, 2) := by decide +kernel
theorem dX11_law_179 : decode cX11_law 179 = .ok (.iadd, 1) := by decide +kernel
theorem dX11_law_180 : decode cX11_law 180 = .ok (.iconst 2, 1) := by decide +kernel
theorem dX11_law_181 : decode cX11_law 181 = .ok (.iload_n 2, 1) := by decide +kernel
theorem dX11_law_182 : decode cX11_law 182 = .ok (.imul, 1) := by decide +kernel
theorem dX11_law_183 : decode cX11_law 183 = .ok (.iadd, 1) := by decide +kernel
theorem dX11_law_184 : decode cX11_law 184 = .ok (.iconst 1, 1) := by decide +kernel
theorem dX11_law_185 : decode cX11_law 185 = .ok (.iadd, 1) := by decide +kernel
theorem dX11_law_186 : decode cX11_law 186 = .ok (.aload_n 0, 1) := by decide +kernel
theorem dX11_law_187 : decode cX11_law 187 = .ok (.getfield 48, 3) := by decide +kernel
theorem dX11_law_190 : decode cX11_law 190 = .ok (.iload_n 2, 1) := by decide +kernel
theorem dX11_law_191 : decode cX11_law 191 = .ok (.iaload, 1) := by decide +kernel
theorem dX11_law_192 : decode cX11_law 192 = .ok (.iastore, 1) := by decide +kernel
theorem dX11_law_193 : decode cX11_law 193 = .ok (.iinc 2 1, 3) := by decide +kernel
theorem dX11_law_196 : decode cX11_law 196 = .ok (.goto (-51), 3) := by decide +kernel
theorem dX11_law_199 : decode cX11_law 199 = .ok (.aload_n 0, 1) := by decide +kernel
theorem dX11_law_200 : decode cX11_law 200 = .ok (.getfield 13, 3) := by decide +kernel
theorem dX11_law_203 : decode cX11_law 203 = .ok (.iconst 3, 1) := by decide +kernel
theorem dX11_law_204 : decode cX11_law 204 = .ok (.dup2, 1) := by decide +kernel
theorem dX11_law_205 : decode cX11_law 205 = .ok (.iaload, 1) := by decide +kernel
theorem dX11_law_206 : decode cX11_law 206 = .ok (.iconst 1, 1) := by decide +kernel
theorem dX11_law_207 : decode cX11_law 207 = .ok (.iadd, 1) := by decide +kernel
theorem dX11_law_208 : decode cX11_law 208 = .ok (.iastore, 1) := by decide +kernel
theorem dX11_law_209 : decode cX11_law 209 = .ok (.aload_n 0, 1) := by decide +kernel
theorem dX11_law_210 : decode cX11_law 210 = .ok (.aload_n 0, 1) := by decide +kernel
theorem dX11_law_211 : decode cX11_law 211 = .ok (.getfield 13, 3) := by decide +kernel
theorem dX11_law_214 : decode cX11_law 214 = .ok (.iconst 3, 1) := by decide +kernel
theorem dX11_law_215 : decode cX11_law 215 = .ok (.iaload, 1) := by decide +kernel
theorem dX11_law_216 : decode cX11_law 216 = .ok (.iconst 1, 1) := by decide +kernel
theorem dX11_law_217 : decode cX11_law 217 = .ok (.isub, 1) := by decide +kernel
theorem dX11_law_218 : decode cX11_law 218 = .ok (.invokevirtual 168, 3) := by decide +kernel
theorem dX11_law_221 : decode cX11_law 221 = .ok (.ireturn, 1) := by decide +kernel
theorem dX11_isLaw_0 : decode cX11_isLaw 0 = .ok (.iload_n 1, 1) := by decide +kernel
theorem dX11_isLaw_1 : decode cX11_isLaw 1 = .ok (.iconst (-1), 1) := by decide +kernel
theorem dX11_isLaw_2 : decode cX11_isLaw 2 = .ok (.if_icmp .eq 21, 3) := by decide +kernel
theorem dX11_isLaw_5 : decode cX11_isLaw 5 = .ok (.iload_n 1, 1) := by decide +kernel
theorem dX11_isLaw_6 : decode cX11_isLaw 6 = .ok (.i2l, 1) := by decide +kernel
theorem dX11_isLaw_7 : decode cX11_isLaw 7 = .ok (.lconst 0, 1) := by decide +kernel
theorem dX11_isLaw_8 : decode cX11_isLaw 8 = .ok (.aload_n 0, 1) := by decide +kernel
theorem dX11_isLaw_9 : decode cX11_isLaw 9 = .ok (.getfield 13, 3) := by decide +kernel
theorem dX11_isLaw_12 : decode cX11_isLaw 12 = .ok (.iconst 3, 1) := by decide +kernel
theorem dX11_isLaw_13 : decode cX11_isLaw 13 = .ok (.iaload, 1) := by decide +kernel
theorem dX11_isLaw_14 : decode cX11_isLaw 14 = .ok (.i2l, 1) := by decide +kernel
theorem dX11_isLaw_15 : decode cX11_isLaw 15 = .ok (.lconst 1, 1) := by decide +kernel
theorem dX11_isLaw_16 : decode cX11_isLaw 16 = .ok (.lsub, 1) := by decide +kernel
theorem dX11_isLaw_17 : decode cX11_isLaw 17 = .ok (.invokestatic 179, 3) := by decide +kernel
theorem dX11_isLaw_20 : decode cX11_isLaw 20 = .ok (.ifCond .eq 7, 3) := by decide +kernel
theorem dX11_isLaw_23 : decode cX11_isLaw 23 = .ok (.iconst 1, 1) := by decide +kernel
theorem dX11_isLaw_24 : decode cX11_isLaw 24 = .ok (.goto 4, 3) := by decide +kernel
theorem dX11_isLaw_27 : decode cX11_isLaw 27 = .ok (.iconst 0, 1) := by decide +kernel
theorem dX11_isLaw_28 : decode cX11_isLaw 28 = .ok (.ireturn, 1) := by decide +kernel
theorem dX11_force_0 : decode cX11_force 0 = .ok (.aload_n 0, 1) := by decide +kernel
theorem dX11_force_1 : decode cX11_force 1 = .ok (.iconst 0, 1) := by decide +kernel
theorem dX11_force_2 : decode cX11_force 2 = .ok (.putfield 159, 3) := by decide +kernel
theorem dX11_force_5 : decode cX11_force 5 = .ok (.aload_n 0, 1) := by decide +kernel
theorem dX11_force_6 : decode cX11_force 6 = .ok (.iload_n 1, 1) := by decide +kernel
theorem dX11_force_7 : decode cX11_force 7 = .ok (.invokevirtual 387, 3) := by decide +kernel
theorem dX11_force_10 : decode cX11_force 10 = .ok (.ifCond .eq 12, 3) := by decide +kernel
theorem dX11_force_13 : decode cX11_force 13 = .ok (.aload_n 0, 1) := by decide +kernel
theorem dX11_force_14 : decode cX11_force 14 = .ok (.iconst 4, 1) := by decide +kernel
theorem dX11_force_15 : decode cX11_force 15 = .ok (.iload_n 1, 1) := by decide +kernel
theorem dX11_force_16 : decode cX11_force 16 = .ok (.invokevirtual 224, 3) := by decide +kernel
theorem dX11_force_19 : decode cX11_force 19 = .ok (.goto 9, 3) := by decide +kernel
theorem dX11_force_22 : decode cX11_force 22 = .ok (.aload_n 0, 1) := by decide +kernel
theorem dX11_force_23 : decode cX11_force 23 = .ok (.bipush (-2), 2) := by decide +kernel
theorem dX11_force_25 : decode cX11_force 25 = .ok (.invokevirtual 168, 3) := by decide +kernel
theorem dX11_force_28 : decode cX11_force 28 = .ok (.ireturn, 1) := by decide +kernel
theorem dX11_goAlong_0 : decode cX11_goAlong 0 = .ok (.aload_n 0, 1) := by decide +kernel
theorem dX11_goAlong_1 : decode cX11_goAlong 1 = .ok (.getfield 13, 3) := by decide +kernel
theorem dX11_goAlong_4 : decode cX11_goAlong 4 = .ok (.bipush 18, 2) := by decide +kernel
theorem dX11_goAlong_6 : decode cX11_goAlong 6 = .ok (.iload_n 1, 1) := by decide +kernel
theorem dX11_goAlong_7 : decode cX11_goAlong 7 = .ok (.iadd, 1) := by decide +kernel
theorem dX11_goAlong_8 : decode cX11_goAlong 8 = .ok (.aload_n 0, 1) := by decide +kernel
theorem dX11_goAlong_9 : decode cX11_goAlong 9 = .ok (.iload_n 2, 1) := by decide +kernel
theorem dX11_goAlong_10 : decode cX11_goAlong 10 = .ok (.aload_n 0, 1) := by decide +kernel
theorem dX11_goAlong_11 : decode cX11_goAlong 11 = .ok (.getfield 13, 3) := by decide +kernel
theorem dX11_goAlong_14 : decode cX11_goAlong 14 = .ok (.bipush 18, 2) := by decide +kernel
theorem dX11_goAlong_16 : decode cX11_goAlong 16 = .ok (.iload_n 1, 1) := by decide +kernel
theorem dX11_goAlong_17 : decode cX11_goAlong 17 = .ok (.iadd, 1) := by decide +kernel
theorem dX11_goAlong_18 : decode cX11_goAlong 18 = .ok (.iaload, 1) := by decide +kernel
theorem dX11_goAlong_19 : decode cX11_goAlong 19 = .ok (.invokevirtual 430, 3) := by decide +kernel
theorem dX11_goAlong_22 : decode cX11_goAlong 22 = .ok (.iastore, 1) := by decide +kernel
theorem dX11_goAlong_23 : decode cX11_goAlong 23 = .ok (.aload_n 0, 1) := by decide +kernel
theorem dX11_goAlong_24 : decode cX11_goAlong 24 = .ok (.getfield 13, 3) := by decide +kernel
theorem dX11_goAlong_27 : decode cX11_goAlong 27 = .ok (.bipush 22, 2) := by decide +kernel
theorem dX11_goAlong_29 : decode cX11_goAlong 29 = .ok (.iload_n 1, 1) := by decide +kernel
theorem dX11_goAlong_30 : decode cX11_goAlong 30 = .ok (.iadd, 1) := by decide +kernel
theorem dX11_goAlong_31 : decode cX11_goAlong 31 = .ok (.iload_n 2, 1) := by decide +kernel
theorem dX11_goAlong_32 : decode cX11_goAlong 32 = .ok (.iastore, 1) := by decide +kernel
theorem dX11_goAlong_33 : decode cX11_goAlong 33 = .ok (.return_, 1) := by decide +kernel
theorem dX11_wanderNow_0 : decode cX11_wanderNow 0 = .ok (.aload_n 0, 1) := by decide +kernel
theorem dX11_wanderNow_1 : decode cX11_wanderNow 1 = .ok (.iload_n 1, 1) := by decide +kernel
theorem dX11_wanderNow_2 : decode cX11_wanderNow 2 = .ok (.invokevirtual 203, 3) := by decide +kernel
theorem dX11_wanderNow_5 : decode cX11_wanderNow 5 = .ok (.ifCond .ne 6, 3) := by decide +kernel
theorem dX11_wanderNow_8 : decode cX11_wanderNow 8 = .ok (.bipush (-2), 2) := by decide +kernel
theorem dX11_wanderNow_10 : decode cX11_wanderNow 10 = .ok (.ireturn, 1) := by decide +kernel
theorem dX11_wanderNow_11 : decode cX11_wanderNow 11 = .ok (.aload_n 0, 1) := by decide +kernel
theorem dX11_wanderNow_12 : decode cX11_wanderNow 12 = .ok (.iload_n 1, 1) := by decide +kernel
theorem dX11_wanderNow_13 : decode cX11_wanderNow 13 = .ok (.invokevirtual 209, 3) := by decide +kernel
theorem dX11_wanderNow_16 : decode cX11_wanderNow 16 = .ok (.istore_n 2, 1) := by decide +kernel
theorem dX11_wanderNow_17 : decode cX11_wanderNow 17 = .ok (.iload_n 2, 1) := by decide +kernel
theorem dX11_wanderNow_18 : decode cX11_wanderNow 18 = .ok (.iconst (-1), 1) := by decide +kernel
theorem dX11_wanderNow_19 : decode cX11_wanderNow 19 = .ok (.if_icmp .ne 6, 3) := by decide +kernel
theorem dX11_wanderNow_22 : decode cX11_wanderNow 22 = .ok (.bipush (-3), 2) := by decide +kernel
theorem dX11_wanderNow_24 : decode cX11_wanderNow 24 = .ok (.ireturn, 1) := by decide +kernel
theorem dX11_wanderNow_25 : decode cX11_wanderNow 25 = .ok (.aload_n 0, 1) := by decide +kernel
theorem dX11_wanderNow_26 : decode cX11_wanderNow 26 = .ok (.iconst 0, 1) := by decide +kernel
theorem dX11_wanderNow_27 : decode cX11_wanderNow 27 = .ok (.invokevirtual 433, 3) := by decide +kernel
theorem dX11_wanderNow_30 : decode cX11_wanderNow 30 = .ok (.aload_n 0, 1) := by decide +kernel
theorem dX11_wanderNow_31 : decode cX11_wanderNow 31 = .ok (.iload_n 1, 1) := by decide +kernel
theorem dX11_wanderNow_32 : decode cX11_wanderNow 32 = .ok (.iload_n 2, 1) := by decide +kernel
theorem dX11_wanderNow_33 : decode cX11_wanderNow 33 = .ok (.invokevirtual 436, 3) := by decide +kernel
theorem dX11_wanderNow_36 : decode cX11_wanderNow 36 = .ok (.aload_n 0, 1) := by decide +kernel
theorem dX11_wanderNow_37 : decode cX11_wanderNow 37 = .ok (.getfield 13, 3) := by decide +kernel
theorem dX11_wanderNow_40 : decode cX11_wanderNow 40 = .ok (.bipush 18, 2) := by decide +kernel
theorem dX11_wanderNow_42 : decode cX11_wanderNow 42 = .ok (.iload_n 1, 1) := by decide +kernel
theorem dX11_wanderNow_43 : decode cX11_wanderNow 43 = .ok (.iadd, 1) := by decide +kernel
theorem dX11_wanderNow_44 : decode cX11_wanderNow 44 = .ok (.iaload, 1) := by decide +kernel
theorem dX11_wanderNow_45 : decode cX11_wanderNow 45 = .ok (.ireturn, 1) := by decide +kernel
theorem dX11_wander_0 : decode cX11_wander 0 = .ok (.aload_n 0, 1) := by decide +kernel
theorem dX11_wander_1 : decode cX11_wander 1 = .ok (.iconst 0, 1) := by decide +kernel
theorem dX11_wander_2 : decode cX11_wander 2 = .ok (.putfield 159, 3) := by decide +kernel
theorem dX11_wander_5 : decode cX11_wander 5 = .ok (.aload_n 0, 1) := by decide +kernel
theorem dX11_wander_6 : decode cX11_wander 6 = .ok (.aload_n 0, 1) := by decide +kernel
theorem dX11_wander_7 : decode cX11_wander 7 = .ok (.iload_n 1, 1) := by decide +kernel
theorem dX11_wander_8 : decode cX11_wander 8 = .ok (.invokevirtual 439, 3) := by decide +kernel
theorem dX11_wander_11 : decode cX11_wander 11 = .ok (.invokevirtual 168, 3) := by decide +kernel
theorem dX11_wander_14 : decode cX11_wander 14 = .ok (.ireturn, 1) := by decide +kernel
theorem dX11_cryIt_0 : decode cX11_cryIt 0 = .ok (.aload_n 0, 1) := by decide +kernel
theorem dX11_cryIt_1 : decode cX11_cryIt 1 = .ok (.getfield 13, 3) := by decide +kernel
theorem dX11_cryIt_4 : decode cX11_cryIt 4 = .ok (.bipush 22, 2) := by decide +kernel
theorem dX11_cryIt_6 : decode cX11_cryIt 6 = .ok (.iload_n 1, 1) := by decide +kernel
theorem dX11_cryIt_7 : decode cX11_cryIt 7 = .ok (.iadd, 1) := by decide +kernel
theorem dX11_cryIt_8 : decode cX11_cryIt 8 = .ok (.iaload, 1) := by decide +kernel
theorem dX11_cryIt_9 : decode cX11_cryIt 9 = .ok (.istore_n 2, 1) := by decide +kernel
theorem dX11_cryIt_10 : decode cX11_cryIt 10 = .ok (.aload_n 0, 1) := by decide +kernel
theorem dX11_cryIt_11 : decode cX11_cryIt 11 = .ok (.getfield 13, 3) := by decide +kernel
theorem dX11_cryIt_14 : decode cX11_cryIt 14 = .ok (.bipush 8, 2) := by decide +kernel
theorem dX11_cryIt_16 : decode cX11_cryIt 16 = .ok (.iload_n 2, 1) := by decide +kernel
theorem dX11_cryIt_17 : decode cX11_cryIt 17 = .ok (.iadd, 1) := by decide +kernel
theorem dX11_cryIt_18 : decode cX11_cryIt 18 = .ok (.aload_n 0, 1) := by decide +kernel
theorem dX11_cryIt_19 : decode cX11_cryIt 19 = .ok (.iload_n 1, 1) := by decide +kernel
theorem dX11_cryIt_20 : decode cX11_cryIt 20 = .ok (.iload_n 2, 1) := by decide +kernel
theorem dX11_cryIt_21 : decode cX11_cryIt 21 = .ok (.invokevirtual 212, 3) := by decide +kernel
theorem dX11_cryIt_24 : decode cX11_cryIt 24 = .ok (.iastore, 1) := by decide +kernel
theorem dX11_cryIt_25 : decode cX11_cryIt 25 = .ok (.aload_n 0, 1) := by decide +kernel
theorem dX11_cryIt_26 : decode cX11_cryIt 26 = .ok (.getfield 13, 3) := by decide +kernel
theorem dX11_cryIt_29 : decode cX11_cryIt 29 = .ok (.bipush 8, 2) := by decide +kernel
theorem dX11_cryIt_31 : decode cX11_cryIt 31 = .ok (.iload_n 2, 1) := by decide +kernel
theorem dX11_cryIt_32 : decode cX11_cryIt 32 = .ok (.iadd, 1) := by decide +kernel
theorem dX11_cryIt_33 : decode cX11_cryIt 33 = .ok (.iaload, 1) := by decide +kernel
theorem dX11_cryIt_34 : decode cX11_cryIt 34 = .ok (.ireturn, 1) := by decide +kernel
theorem dX11_cryNow_0 : decode cX11_cryNow 0 = .ok (.aload_n 0, 1) := by decide +kernel
theorem dX11_cryNow_1 : decode cX11_cryNow 1 = .ok (.iload_n 1, 1) := by decide +kernel
theorem dX11_cryNow_2 : decode cX11_cryNow 2 = .ok (.invokevirtual 203, 3) := by decide +kernel
theorem dX11_cryNow_5 : decode cX11_cryNow 5 = .ok (.ifCond .ne 6, 3) := by decide +kernel
theorem dX11_cryNow_8 : decode cX11_cryNow 8 = .ok (.bipush (-2), 2) := by decide +kernel
theorem dX11_cryNow_10 : decode cX11_cryNow 10 = .ok (.ireturn, 1) := by decide +kernel
theorem dX11_cryNow_11 : decode cX11_cryNow 11 = .ok (.aload_n 0, 1) := by decide +kernel
theorem dX11_cryNow_12 : decode cX11_cryNow 12 = .ok (.getfield 13, 3) := by decide +kernel
theorem dX11_cryNow_15 : decode cX11_cryNow 15 = .ok (.bipush 22, 2) := by decide +kernel
theorem dX11_cryNow_17 : decode cX11_cryNow 17 = .ok (.iload_n 1, 1) := by decide +kernel
theorem dX11_cryNow_18 : decode cX11_cryNow 18 = .ok (.iadd, 1) := by decide +kernel
theorem dX11_cryNow_19 : decode cX11_cryNow 19 = .ok (.iaload, 1) := by decide +kernel
theorem dX11_cryNow_20 : decode cX11_cryNow 20 = .ok (.iconst (-1), 1) := by decide +kernel
theorem dX11_cryNow_21 : decode cX11_cryNow 21 = .ok (.if_icmp .ne 6, 3) := by decide +kernel
theorem dX11_cryNow_24 : decode cX11_cryNow 24 = .ok (.bipush (-3), 2) := by decide +kernel
theorem dX11_cryNow_26 : decode cX11_cryNow 26 = .ok (.ireturn, 1) := by decide +kernel
theorem dX11_cryNow_27 : decode cX11_cryNow 27 = .ok (.aload_n 0, 1) := by decide +kernel
theorem dX11_cryNow_28 : decode cX11_cryNow 28 = .ok (.iconst 1, 1) := by decide +kernel
theorem dX11_cryNow_29 : decode cX11_cryNow 29 = .ok (.invokevirtual 433, 3) := by decide +kernel
theorem dX11_cryNow_32 : decode cX11_cryNow 32 = .ok (.aload_n 0, 1) := by decide +kernel
theorem dX11_cryNow_33 : decode cX11_cryNow 33 = .ok (.iload_n 1, 1) := by decide +kernel
theorem dX11_cryNow_34 : decode cX11_cryNow 34 = .ok (.invokevirtual 442, 3) := by decide +kernel
theorem dX11_cryNow_37 : decode cX11_cryNow 37 = .ok (.ireturn, 1) := by decide +kernel
theorem dX11_cry_0 : decode cX11_cry 0 = .ok (.aload_n 0, 1) := by decide +kernel
theorem dX11_cry_1 : decode cX11_cry 1 = .ok (.iconst 0, 1) := by decide +kernel
theorem dX11_cry_2 : decode cX11_cry 2 = .ok (.putfield 159, 3) := by decide +kernel
theorem dX11_cry_5 : decode cX11_cry 5 = .ok (.aload_n 0, 1) := by decide +kernel
theorem dX11_cry_6 : decode cX11_cry 6 = .ok (.aload_n 0, 1) := by decide +kernel
theorem dX11_cry_7 : decode cX11_cry 7 = .ok (.iload_n 1, 1) := by decide +kernel
theorem dX11_cry_8 : decode cX11_cry 8 = .ok (.invokevirtual 445, 3) := by decide +kernel
theorem dX11_cry_11 : decode cX11_cry 11 = .ok (.invokevirtual 168, 3) := by decide +kernel
theorem dX11_cry_14 : decode cX11_cry 14 = .ok (.ireturn, 1) := by decide +kernel
theorem dX11_leadNow_0 : decode cX11_leadNow 0 = .ok (.iload_n 2, 1) := by decide +kernel
theorem dX11_leadNow_1 : decode cX11_leadNow 1 = .ok (.invokestatic 188, 3) := by decide +kernel
theorem dX11_leadNow_4 : decode cX11_leadNow 4 = .ok (.ifCond .ne 5, 3) := by decide +kernel
theorem dX11_leadNow_7 : decode cX11_leadNow 7 = .ok (.iconst (-1), 1) := by decide +kernel
theorem dX11_leadNow_8 : decode cX11_leadNow 8 = .ok (.ireturn, 1) := by decide +kernel
theorem dX11_leadNow_9 : decode cX11_leadNow 9 = .ok (.aload_n 0, 1) := by decide +kernel
theorem dX11_leadNow_10 : decode cX11_leadNow 10 = .ok (.iload_n 1, 1) := by decide +kernel
theorem dX11_leadNow_11 : decode cX11_leadNow 11 = .ok (.invokevirtual 203, 3) := by decide +kernel
theorem dX11_leadNow_14 : decode cX11_leadNow 14 = .ok (.ifCond .ne 6, 3) := by decide +kernel
theorem dX11_leadNow_17 : decode cX11_leadNow 17 = .ok (.bipush (-2), 2) := by decide +kernel
theorem dX11_leadNow_19 : decode cX11_leadNow 19 = .ok (.ireturn, 1) := by decide +kernel
theorem dX11_leadNow_20 : decode cX11_leadNow 20 = .ok (.aload_n 0, 1) := by decide +kernel
theorem dX11_leadNow_21 : decode cX11_leadNow 21 = .ok (.getfield 13, 3) := by decide +kernel
theorem dX11_leadNow_24 : decode cX11_leadNow 24 = .ok (.bipush 18, 2) := by decide +kernel
theorem dX11_leadNow_26 : decode cX11_leadNow 26 = .ok (.iload_n 1, 1) := by decide +kernel
theorem dX11_leadNow_27 : decode cX11_leadNow 27 = .ok (.iadd, 1) := by decide +kernel
theorem dX11_leadNow_28 : decode cX11_leadNow 28 = .ok (.iaload, 1) := by decide +kernel
theorem dX11_leadNow_29 : decode cX11_leadNow 29 = .ok (.istore_n 3, 1) := by decide +kernel
theorem dX11_leadNow_30 : decode cX11_leadNow 30 = .ok (.iload_n 3, 1) := by decide +kernel
theorem dX11_leadNow_31 : decode cX11_leadNow 31 = .ok (.iload_n 2, 1) := by decide +kernel
theorem dX11_leadNow_32 : decode cX11_leadNow 32 = .ok (.if_icmp .ne 6, 3) := by decide +kernel
theorem dX11_leadNow_35 : decode cX11_leadNow 35 = .ok (.bipush (-3), 2) := by decide +kernel
theorem dX11_leadNow_37 : decode cX11_leadNow 37 = .ok (.ireturn, 1) := by decide +kernel
theorem dX11_leadNow_38 : decode cX11_leadNow 38 = .ok (.aload_n 0, 1) := by decide +kernel
theorem dX11_leadNow_39 : decode cX11_leadNow 39 = .ok (.iconst 2, 1) := by decide +kernel
theorem dX11_leadNow_40 : decode cX11_leadNow 40 = .ok (.invokevirtual 433, 3) := by decide +kernel
theorem dX11_leadNow_43 : decode cX11_leadNow 43 = .ok (.aload_n 0, 1) := by decide +kernel
theorem dX11_leadNow_44 : decode cX11_leadNow 44 = .ok (.getfield 13, 3) := by decide +kernel
theorem dX11_leadNow_47 : decode cX11_leadNow 47 = .ok (.bipush 18, 2) := by decide +kernel
theorem dX11_leadNow_49 : decode cX11_leadNow 49 = .ok (.iload_n 1, 1) := by decide +kernel
theorem dX11_leadNow_50 : decode cX11_leadNow 50 = .ok (.iadd, 1) := by decide +kernel
theorem dX11_leadNow_51 : decode cX11_leadNow 51 = .ok (.iload_n 2, 1) := by decide +kernel
theorem dX11_leadNow_52 : decode cX11_leadNow 52 = .ok (.iastore, 1) := by decide +kernel
theorem dX11_leadNow_53 : decode cX11_leadNow 53 = .ok (.iload_n 3, 1) := by decide +kernel
theorem dX11_leadNow_54 : decode cX11_leadNow 54 = .ok (.ireturn, 1) := by decide +kernel
theorem dX11_lead_0 : decode cX11_lead 0 = .ok (.aload_n 0, 1) := by decide +kernel
theorem dX11_lead_1 : decode cX11_lead 1 = .ok (.iconst 0, 1) := by decide +kernel
theorem dX11_lead_2 : decode cX11_lead 2 = .ok (.putfield 159, 3) := by decide +kernel
theorem dX11_lead_5 : decode cX11_lead 5 = .ok (.aload_n 0, 1) := by decide +kernel
theorem dX11_lead_6 : decode cX11_lead 6 = .ok (.aload_n 0, 1) := by decide +kernel
theorem dX11_lead_7 : decode cX11_lead 7 = .ok (.iload_n 1, 1) := by decide +kernel
theorem dX11_lead_8 : decode cX11_lead 8 = .ok (.iload_n 2, 1) := by decide +kernel
theorem dX11_lead_9 : decode cX11_lead 9 = .ok (.invokevirtual 448, 3) := by decide +kernel
theorem dX11_lead_12 : decode cX11_lead 12 = .ok (.invokevirtual 168, 3) := by decide +kernel
theorem dX11_lead_15 : decode cX11_lead 15 = .ok (.ireturn, 1) := by decide +kernel
theorem dX11_passIt_0 : decode cX11_passIt 0 = .ok (.iconst 0, 1) := by decide +kernel
theorem dX11_passIt_1 : decode cX11_passIt 1 = .ok (.istore_n 1, 1) := by decide +kernel
theorem dX11_passIt_2 : decode cX11_passIt 2 = .ok (.iconst 0, 1) := by decide +kernel
theorem dX11_passIt_3 : decode cX11_passIt 3 = .ok (.istore_n 2, 1) := by decide +kernel
theorem dX11_passIt_4 : decode cX11_passIt 4 = .ok (.iload_n 2, 1) := by decide +kernel
theorem dX11_passIt_5 : decode cX11_passIt 5 = .ok (.aload_n 0, 1) := by decide +kernel
theorem dX11_passIt_6 : decode cX11_passIt 6 = .ok (.getfield 13, 3) := by decide +kernel
theorem dX11_passIt_9 : decode cX11_passIt 9 = .ok (.iconst 1, 1) := by decide +kernel
theorem dX11_passIt_10 : decode cX11_passIt 10 = .ok (.iaload, 1) := by decide +kernel
theorem dX11_passIt_11 : decode cX11_passIt 11 = .ok (.if_icmp .ge 20, 3) := by decide +kernel
theorem dX11_passIt_14 : decode cX11_passIt 14 = .ok (.aload_n 0, 1) := by decide +kernel
theorem dX11_passIt_15 : decode cX11_passIt 15 = .ok (.getfield 112, 3) := by decide +kernel
theorem dX11_passIt_18 : decode cX11_passIt 18 = .ok (.iload_n 2, 1) := by decide +kernel
theorem dX11_passIt_19 : decode cX11_passIt 19 = .ok (.aload_n 0, 1) := by decide +kernel
theorem dX11_passIt_20 : decode cX11_passIt 20 = .ok (.iload_n 2, 1) := by decide +kernel
theorem dX11_passIt_21 : decode cX11_passIt 21 = .ok (.invokevirtual 209, 3) := by decide +kernel
theorem dX11_passIt_24 : decode cX11_passIt 24 = .ok (.iastore, 1) := by decide +kernel
theorem dX11_passIt_25 : decode cX11_passIt 25 = .ok (.iinc 2 1, 3) := by decide +kernel
theorem dX11_passIt_28 : decode cX11_passIt 28 = .ok (.goto (-24), 3) := by decide +kernel
theorem dX11_passIt_31 : decode cX11_passIt 31 = .ok (.iconst 0, 1) := by decide +kernel
theorem dX11_passIt_32 : decode cX11_passIt 32 = .ok (.istore_n 2, 1) := by decide +kernel
theorem dX11_passIt_33 : decode cX11_passIt 33 = .ok (.iload_n 2, 1) := by decide +kernel
theorem dX11_passIt_34 : decode cX11_passIt 34 = .ok (.aload_n 0, 1) := by decide +kernel
theorem dX11_passIt_35 : decode cX11_passIt 35 = .ok (.getfield 13, 3) := by decide +kernel
theorem dX11_passIt_38 : decode cX11_passIt 38 = .ok (.iconst 1, 1) := by decide +kernel
theorem dX11_passIt_39 : decode cX11_passIt 39 = .ok (.iaload, 1) := by decide +kernel
theorem dX11_passIt_40 : decode cX11_passIt 40 = .ok (.if_icmp .ge 33, 3) := by decide +kernel
theorem dX11_passIt_43 : decode cX11_passIt 43 = .ok (.aload_n 0, 1) := by decide +kernel
theorem dX11_passIt_44 : decode cX11_passIt 44 = .ok (.getfield 112, 3) := by decide +kernel
theorem dX11_passIt_47 : decode cX11_passIt 47 = .ok (.iload_n 2, 1) := by decide +kernel
theorem dX11_passIt_48 : decode cX11_passIt 48 = .ok (.iaload, 1) := by decide +kernel
theorem dX11_passIt_49 : decode cX11_passIt 49 = .ok (.iconst (-1), 1) := by decide +kernel
theorem dX11_passIt_50 : decode cX11_passIt 50 = .ok (.if_icmp .eq 17, 3) := by decide +kernel
theorem dX11_passIt_53 : decode cX11_passIt 53 = .ok (.aload_n 0, 1) := by decide +kernel
theorem dX11_passIt_54 : decode cX11_passIt 54 = .ok (.iload_n 2, 1) := by decide +kernel
theorem dX11_passIt_55 : decode cX11_passIt 55 = .ok (.aload_n 0, 1) := by decide +kernel
theorem dX11_passIt_56 : decode cX11_passIt 56 = .ok (.getfield 112, 3) := by decide +kernel
theorem dX11_passIt_59 : decode cX11_passIt 59 = .ok (.iload_n 2, 1) := by decide +kernel
theorem dX11_passIt_60 : decode cX11_passIt 60 = .ok (.iaload, 1) := by decide +kernel
theorem dX11_passIt_61 : decode cX11_passIt 61 = .ok (.invokevirtual 436, 3) := by decide +kernel
theorem dX11_passIt_64 : decode cX11_passIt 64 = .ok (.iinc 1 1, 3) := by decide +kernel
theorem dX11_passIt_67 : decode cX11_passIt 67 = .ok (.iinc 2 1, 3) := by decide +kernel
theorem dX11_passIt_70 : decode cX11_passIt 70 = .ok (.goto (-37), 3) := by decide +kernel
theorem dX11_passIt_73 : decode cX11_passIt 73 = .ok (.aload_n 0, 1) := by decide +kernel
theorem dX11_passIt_74 : decode cX11_passIt 74 = .ok (.getfield 13, 3) := by decide +kernel
theorem dX11_passIt_77 : decode cX11_passIt 77 = .ok (.iconst 5, 1) := by decide +kernel
theorem dX11_passIt_78 : decode cX11_passIt 78 = .ok (.dup2, 1) := by decide +kernel
theorem dX11_passIt_79 : decode cX11_passIt 79 = .ok (.iaload, 1) := by decide +kernel
theorem dX11_passIt_80 : decode cX11_passIt 80 = .ok (.iconst 1, 1) := by decide +kernel
theorem dX11_passIt_81 : decode cX11_passIt 81 = .ok (.iadd, 1) := by decide +kernel
theorem dX11_passIt_82 : decode cX11_passIt 82 = .ok (.iastore, 1) := by decide +kernel
theorem dX11_passIt_83 : decode cX11_passIt 83 = .ok (.iload_n 1, 1) := by decide +kernel
theorem dX11_passIt_84 : decode cX11_passIt 84 = .ok (.ireturn, 1) := by decide +kernel
theorem dX11_passNow_0 : decode cX11_passNow 0 = .ok (.aload_n 0, 1) := by decide +kernel
theorem dX11_passNow_1 : decode cX11_passNow 1 = .ok (.getfield 13, 3) := by decide +kernel
theorem dX11_passNow_4 : decode cX11_passNow 4 = .ok (.iconst 5, 1) := by decide +kernel
theorem dX11_passNow_5 : decode cX11_passNow 5 = .ok (.iaload, 1) := by decide +kernel
theorem dX11_passNow_6 : decode cX11_passNow 6 = .ok (.sipush 999, 3) := by decide +kernel
theorem dX11_passNow_9 : decode cX11_passNow 9 = .ok (.if_icmp .ne 6, 3) := by decide +kernel
theorem dX11_passNow_12 : decode cX11_passNow 12 = .ok (.bipush (-3), 2) := by decide +kernel
theorem dX11_passNow_14 : decode cX11_passNow 14 = .ok (.ireturn, 1) := by decide +kernel
theorem dX11_passNow_15 : decode cX11_passNow 15 = .ok (.aload_n 0, 1) := by decide +kernel
theorem dX11_passNow_16 : decode cX11_passNow 16 = .ok (.iconst 3, 1) := by decide +kernel
theorem dX11_passNow_17 : decode cX11_passNow 17 = .ok (.invokevirtual 433, 3) := by decide +kernel
theorem dX11_passNow_20 : decode cX11_passNow 20 = .ok (.aload_n 0, 1) := by decide +kernel
theorem dX11_passNow_21 : decode cX11_passNow 21 = .ok (.invokevirtual 451, 3) := by decide +kernel
theorem dX11_passNow_24 : decode cX11_passNow 24 = .ok (.ireturn, 1) := by decide +kernel
theorem dX11_pass_0 : decode cX11_pass 0 = .ok (.aload_n 0, 1) := by decide +kernel
theorem dX11_pass_1 : decode cX11_pass 1 = .ok (.iconst 0, 1) := by decide +kernel
theorem dX11_pass_2 : decode cX11_pass 2 = .ok (.putfield 159, 3) := by decide +kernel
theorem dX11_pass_5 : decode cX11_pass 5 = .ok (.aload_n 0, 1) := by decide +kernel
theorem dX11_pass_6 : decode cX11_pass 6 = .ok (.aload_n 0, 1) := by decide +kernel
theorem dX11_pass_7 : decode cX11_pass 7 = .ok (.invokevirtual 454, 3) := by decide +kernel
theorem dX11_pass_10 : decode cX11_pass 10 = .ok (.invokevirtual 168, 3) := by decide +kernel
theorem dX11_pass_13 : decode cX11_pass 13 = .ok (.ireturn, 1) := by decide +kernel
theorem dX11_where_0 : decode cX11_where 0 = .ok (.aload_n 0, 1) := by decide +kernel
theorem dX11_where_1 : decode cX11_where 1 = .ok (.iconst 0, 1) := by decide +kernel
theorem dX11_where_2 : decode cX11_where 2 = .ok (.putfield 159, 3) := by decide +kernel
theorem dX11_where_5 : decode cX11_where 5 = .ok (.aload_n 0, 1) := by decide +kernel
theorem dX11_where_6 : decode cX11_where 6 = .ok (.iload_n 1, 1) := by decide +kernel
theorem dX11_where_7 : decode cX11_where 7 = .ok (.invokevirtual 203, 3) := by decide +kernel
theorem dX11_where_10 : decode cX11_where 10 = .ok (.ifCond .eq 15, 3) := by decide +kernel
theorem dX11_where_13 : decode cX11_where 13 = .ok (.iload_n 2, 1) := by decide +kernel
theorem dX11_where_14 : decode cX11_where 14 = .ok (.i2l, 1) := by decide +kernel
theorem dX11_where_15 : decode cX11_where 15 = .ok (.lconst 0, 1) := by decide +kernel
theorem dX11_where_16 : decode cX11_where 16 = .ok (.ldc2_w 457, 3) := by decide +kernel
theorem dX11_where_19 : decode cX11_where 19 = .ok (.invokestatic 179, 3) := by decide +kernel
theorem dX11_where_22 : decode cX11_where 22 = .ok (.ifCond .ne 5, 3) := by decide +kernel
theorem dX11_where_25 : decode cX11_where 25 = .ok (.iconst (-1), 1) := by decide +kernel
theorem dX11_where_26 : decode cX11_where 26 = .ok (.ireturn, 1) := by decide +kernel
theorem dX11_where_27 : decode cX11_where 27 = .ok (.aload_n 0, 1) := by decide +kernel
theorem dX11_where_28 : decode cX11_where 28 = .ok (.bipush 16, 2) := by decide +kernel
theorem dX11_where_30 : decode cX11_where 30 = .ok (.invokevirtual 172, 3) := by decide +kernel
theorem dX11_where_33 : decode cX11_where 33 = .ok (.iconst 0, 1) := by decide +kernel
theorem dX11_where_34 : decode cX11_where 34 = .ok (.istore_n 3, 1) := by decide +kernel
theorem dX11_where_35 : decode cX11_where 35 = .ok (.iload_n 3, 1) := by decide +kernel
theorem dX11_where_36 : decode cX11_where 36 = .ok (.iload_n 2, 1) := by decide +kernel
theorem dX11_where_37 : decode cX11_where 37 = .ok (.if_icmp .ge 14, 3) := by decide +kernel
theorem dX11_where_40 : decode cX11_where 40 = .ok (.aload_n 0, 1) := by decide +kernel
theorem dX11_where_41 : decode cX11_where 41 = .ok (.invokevirtual 451, 3) := by decide +kernel
theorem dX11_where_44 : decode cX11_where 44 = .ok (.pop, 1) := by decide +kernel
theorem dX11_where_45 : decode cX11_where 45 = .ok (.iinc 3 1, 3) := by decide +kernel
theorem dX11_where_48 : decode cX11_where 48 = .ok (.goto (-13), 3) := by decide +kernel
theorem dX11_where_51 : decode cX11_where 51 = .ok (.aload_n 0, 1) := by decide +kernel
theorem dX11_where_52 : decode cX11_where 52 = .ok (.getfield 13, 3) := by decide +kernel
theorem dX11_where_55 : decode cX11_where 55 = .ok (.bipush 18, 2) := by decide +kernel
theorem dX11_where_57 : decode cX11_where 57 = .ok (.iload_n 1, 1) := by decide +kernel
theorem dX11_where_58 : decode cX11_where 58 = .ok (.iadd, 1) := by decide +kernel
theorem dX11_where_59 : decode cX11_where 59 = .ok (.iaload, 1) := by decide +kernel
theorem dX11_where_60 : decode cX11_where 60 = .ok (.istore_n 3, 1) := by decide +kernel
theorem dX11_where_61 : decode cX11_where 61 = .ok (.aload_n 0, 1) := by decide +kernel
theorem dX11_where_62 : decode cX11_where 62 = .ok (.bipush 16, 2) := by decide +kernel
theorem dX11_where_64 : decode cX11_where 64 = .ok (.invokevirtual 176, 3) := by decide +kernel
theorem dX11_where_67 : decode cX11_where 67 = .ok (.iload_n 3, 1) := by decide +kernel
theorem dX11_where_68 : decode cX11_where 68 = .ok (.ireturn, 1) := by decide +kernel
theorem dX11_layFar_0 : decode cX11_layFar 0 = .ok (.iconst 0, 1) := by decide +kernel
theorem dX11_layFar_1 : decode cX11_layFar 1 = .ok (.istore_n 1, 1) := by decide +kernel
theorem dX11_layFar_2 : decode cX11_layFar 2 = .ok (.iload_n 1, 1) := by decide +kernel
theorem dX11_layFar_3 : decode cX11_layFar 3 = .ok (.bipush 64, 2) := by decide +kernel
theorem dX11_layFar_5 : decode cX11_layFar 5 = .ok (.if_icmp .ge 33, 3) := by decide +kernel
theorem dX11_layFar_8 : decode cX11_layFar 8 = .ok (.aload_n 0, 1) := by decide +kernel
theorem dX11_layFar_9 : decode cX11_layFar 9 = .ok (.getfield 115, 3) := by decide +kernel
theorem dX11_layFar_12 : decode cX11_layFar 12 = .ok (.iload_n 1, 1) := by decide +kernel
theorem dX11_layFar_13 : decode cX11_layFar 13 = .ok (.iload_n 1, 1) := by decide +kernel
theorem dX11_layFar_14 : decode cX11_layFar 14 = .ok (.bipush 8, 2) := by decide +kernel
theorem dX11_layFar_16 : decode cX11_layFar 16 = .ok (.idiv, 1) := by decide +kernel
theorem dX11_layFar_17 : decode cX11_layFar 17 = .ok (.iload_n 1, 1) := by decide +kernel
theorem dX11_layFar_18 : decode cX11_layFar 18 = .ok (.bipush 8, 2) := by decide +kernel
theorem dX11_layFar_20 : decode cX11_layFar 20 = .ok (.irem, 1) := by decide +kernel
theorem dX11_layFar_21 : decode cX11_layFar 21 = .ok (.if_icmp .ne 7, 3) := by decide +kernel
theorem dX11_layFar_24 : decode cX11_layFar 24 = .ok (.iconst 0, 1) := by decide +kernel
theorem dX11_layFar_25 : decode cX11_layFar 25 = .ok (.goto 6, 3) := by decide +kernel
theorem dX11_layFar_28 : decode cX11_layFar 28 = .ok (.ldc_w 459, 3) := by decide +kernel
theorem dX11_layFar_31 : decode cX11_layFar 31 = .ok (.iastore, 1) := by decide +kernel
theorem dX11_layFar_32 : decode cX11_layFar 32 = .ok (.iinc 1 1, 3) := by decide +kernel
theorem dX11_layFar_35 : decode cX11_layFar 35 = .ok (.goto (-33), 3) := by decide +kernel
theorem dX11_layFar_38 : decode cX11_layFar 38 = .ok (.iconst 0, 1) := by decide +kernel
theorem dX11_layFar_39 : decode cX11_layFar 39 = .ok (.istore_n 1, 1) := by decide +kernel
theorem dX11_layFar_40 : decode cX11_layFar 40 = .ok (.iload_n 1, 1) := by decide +kernel
theorem dX11_layFar_41 : decode cX11_layFar 41 = .ok (.aload_n 0, 1) := by decide +kernel
theorem dX11_layFar_42 : decode cX11_layFar 42 = .ok (.getfield 13, 3) := by decide +kernel
theorem dX11_layFar_45 : decode cX11_layFar 45 = .ok (.iconst 0, 1) := by decide +kernel
theorem dX11_layFar_46 : decode cX11_layFar 46 = .ok (.iaload, 1) := by decide +kernel
theorem dX11_layFar_47 : decode cX11_layFar 47 = .ok (.if_icmp .ge 105, 3) := by decide +kernel
theorem dX11_layFar_50 : decode cX11_layFar 50 = .ok (.aload_n 0, 1) := by decide +kernel
theorem dX11_layFar_51 : decode cX11_layFar 51 = .ok (.getfield 13, 3) := by decide +kernel
theorem dX11_layFar_54 : decode cX11_layFar 54 = .ok (.bipush 26, 2) := by decide +kernel
theorem dX11_layFar_56 : decode cX11_layFar 56 = .ok (.iload_n 1, 1) := by decide +kernel
theorem dX11_layFar_57 : decode cX11_layFar 57 = .ok (.iadd, 1) := by decide +kernel
theorem dX11_layFar_58 : decode cX11_layFar 58 = .ok (.iaload, 1) := by decide +kernel
theorem dX11_layFar_59 : decode cX11_layFar 59 = .ok (.istore_n 2, 1) := by decide +kernel
theorem dX11_layFar_60 : decode cX11_layFar 60 = .ok (.aload_n 0, 1) := by decide +kernel
theorem dX11_layFar_61 : decode cX11_layFar 61 = .ok (.getfield 13, 3) := by decide +kernel
theorem dX11_layFar_64 : decode cX11_layFar 64 = .ok (.bipush 36, 2) := by decide +kernel
theorem dX11_layFar_66 : decode cX11_layFar 66 = .ok (.iload_n 1, 1) := by decide +kernel
theorem dX11_layFar_67 : decode cX11_layFar 67 = .ok (.iadd, 1) := by decide +kernel
theorem dX11_layFar_68 : decode cX11_layFar 68 = .ok (.iaload, 1) := by decide +kernel
theorem dX11_layFar_69 : decode cX11_layFar 69 = .ok (.istore_n 3, 1) := by decide +kernel
theorem dX11_layFar_70 : decode cX11_layFar 70 = .ok (.aload_n 0, 1) := by decide +kernel
theorem dX11_layFar_71 : decode cX11_layFar 71 = .ok (.getfield 13, 3) := by decide +kernel
theorem dX11_layFar_74 : decode cX11_layFar 74 = .ok (.bipush 46, 2) := by decide +kernel
theorem dX11_layFar_76 : decode cX11_layFar 76 = .ok (.iload_n 1, 1) := by decide +kernel
theorem dX11_layFar_77 : decode cX11_layFar 77 = .ok (.iadd, 1) := by decide +kernel
theorem dX11_layFar_78 : decode cX11_layFar 78 = .ok (.iaload, 1) := by decide +kernel
theorem dX11_layFar_79 : decode cX11_layFar 79 = .ok (.istore 4, 2) := by decide +kernel
theorem dX11_layFar_81 : decode cX11_layFar 81 = .ok (.aload_n 0, 1) := by decide +kernel
theorem dX11_layFar_82 : decode cX11_layFar 82 = .ok (.getfield 115, 3) := by decide +kernel
theorem dX11_layFar_85 : decode cX11_layFar 85 = .ok (.bipush 8, 2) := by decide +kernel
theorem dX11_layFar_87 : decode cX11_layFar 87 = .ok (.iload_n 2, 1) := by decide +kernel
theorem dX11_layFar_88 : decode cX11_layFar 88 = .ok (.imul, 1) := by decide +kernel
theorem dX11_layFar_89 : decode cX11_layFar 89 = .ok (.iload_n 3, 1) := by decide +kernel
theorem dX11_layFar_90 : decode cX11_layFar 90 = .ok (.iadd, 1) := by decide +kernel
theorem dX11_layFar_91 : decode cX11_layFar 91 = .ok (.iload 4, 2) := by decide +kernel
theorem dX11_layFar_93 : decode cX11_layFar 93 = .ok (.aload_n 0, 1) := by decide +kernel
theorem dX11_layFar_94 : decode cX11_layFar 94 = .ok (.getfield 115, 3) := by decide +kernel
theorem dX11_layFar_97 : decode cX11_layFar 97 = .ok (.bipush 8, 2) := by decide +kernel
theorem dX11_layFar_99 : decode cX11_layFar 99 = .ok (.iload_n 2, 1) := by decide +kernel
theorem dX11_layFar_100 : decode cX11_layFar 100 = .ok (.imul, 1) := by decide +kernel
theorem dX11_layFar_101 : decode cX11_layFar 101 = .ok (.iload_n 3, 1) := by decide +kernel
theorem dX11_layFar_102 : decode cX11_layFar 102 = .ok (.iadd, 1) := by decide +kernel
theorem dX11_layFar_103 : decode cX11_layFar 103 = .ok (.iaload, 1) := by decide +kernel
theorem dX11_layFar_104 : decode cX11_layFar 104 = .ok (.if_icmp .ge 8, 3) := by decide +kernel
theorem dX11_layFar_107 : decode cX11_layFar 107 = .ok (.iload 4, 2) := by decide +kernel
theorem dX11_layFar_109 : decode cX11_layFar 109 = .ok (.goto 14, 3) := by decide +kernel
theorem dX11_layFar_112 : decode cX11_layFar 112 = .ok (.aload_n 0, 1) := by decide +kernel
theorem dX11_layFar_113 : decode cX11_layFar 113 = .ok (.getfield 115, 3) := by decide +kernel
theorem dX11_layFar_116 : decode cX11_layFar 116 = .ok (.bipush 8, 2) := by decide +kernel
theorem dX11_layFar_118 : decode cX11_layFar 118 = .ok (.iload_n 2, 1) := by decide +kernel
theorem dX11_layFar_119 : decode cX11_layFar 119 = .ok (.imul, 1) := by decide +kernel
theorem dX11_layFar_120 : decode cX11_layFar 120 = .ok (.iload_n 3, 1) := by decide +kernel
theorem dX11_layFar_121 : decode cX11_layFar 121 = .ok (.iadd, 1) := by decide +kernel
theorem dX11_layFar_122 : decode cX11_layFar 122 = .ok (.iaload, 1) := by decide +kernel
theorem dX11_layFar_123 : decode cX11_layFar 123 = .ok (.iastore, 1) := by decide +kernel
theorem dX11_layFar_124 : decode cX11_layFar 124 = .ok (.aload_n 0, 1) := by decide +kernel
theorem dX11_layFar_125 : decode cX11_layFar 125 = .ok (.getfield 115, 3) := by decide +kernel
theorem dX11_layFar_128 : decode cX11_layFar 128 = .ok (.bipush 8, 2) := by decide +kernel
theorem dX11_layFar_130 : decode cX11_layFar 130 = .ok (.iload_n 3, 1) := by decide +kernel
theorem dX11_layFar_131 : decode cX11_layFar 131 = .ok (.imul, 1) := by decide +kernel
theorem dX11_layFar_132 : decode cX11_layFar 132 = .ok (.iload_n 2, 1) := by decide +kernel
theorem dX11_layFar_133 : decode cX11_layFar 133 = .ok (.iadd, 1) := by decide +kernel
theorem dX11_layFar_134 : decode cX11_layFar 134 = .ok (.aload_n 0, 1) := by decide +kernel
theorem dX11_layFar_135 : decode cX11_layFar 135 = .ok (.getfield 115, 3) := by decide +kernel
theorem dX11_layFar_138 : decode cX11_layFar 138 = .ok (.bipush 8, 2) := by decide +kernel
theorem dX11_layFar_140 : decode cX11_layFar 140 = .ok (.iload_n 2, 1) := by decide +kernel
theorem dX11_layFar_141 : decode cX11_layFar 141 = .ok (.imul, 1) := by decide +kernel
theorem dX11_layFar_142 : decode cX11_layFar 142 = .ok (.iload_n 3, 1) := by decide +kernel
theorem dX11_layFar_143 : decode cX11_layFar 143 = .ok (.iadd, 1) := by decide +kernel
theorem dX11_layFar_144 : decode cX11_layFar 144 = .ok (.iaload, 1) := by decide +kernel
theorem dX11_layFar_145 : decode cX11_layFar 145 = .ok (.iastore, 1) := by decide +kernel
theorem dX11_layFar_146 : decode cX11_layFar 146 = .ok (.iinc 1 1, 3) := by decide +kernel
theorem dX11_layFar_149 : decode cX11_layFar 149 = .ok (.goto (-109), 3) := by decide +kernel
theorem dX11_layFar_152 : decode cX11_layFar 152 = .ok (.iconst 0, 1) := by decide +kernel
theorem dX11_layFar_153 : decode cX11_layFar 153 = .ok (.istore_n 1, 1) := by decide +kernel
theorem dX11_layFar_154 : decode cX11_layFar 154 = .ok (.iload_n 1, 1) := by decide +kernel
theorem dX11_layFar_155 : decode cX11_layFar 155 = .ok (.bipush 8, 2) := by decide +kernel
theorem dX11_layFar_157 : decode cX11_layFar 157 = .ok (.if_icmp .ge 105, 3) := by decide +kernel
theorem dX11_layFar_160 : decode cX11_layFar 160 = .ok (.iconst 0, 1) := by decide +kernel
theorem dX11_layFar_161 : decode cX11_layFar 161 = .ok (.istore_n 2, 1) := by decide +kernel
theorem dX11_layFar_162 : decode cX11_layFar 162 = .ok (.iload_n 2, 1) := by decide +kernel
theorem dX11_layFar_163 : decode cX11_layFar 163 = .ok (.bipush 8, 2) := by decide +kernel
theorem dX11_layFar_165 : decode cX11_layFar 165 = .ok (.if_icmp .ge 91, 3) := by decide +kernel
theorem dX11_layFar_168 : decode cX11_layFar 168 = .ok (.iconst 0, 1) := by decide +kernel
theorem dX11_layFar_169 : decode cX11_layFar 169 = .ok (.istore_n 3, 1) := by decide +kernel
theorem dX11_layFar_170 : decode cX11_layFar 170 = .ok (.iload_n 3, 1) := by decide +kernel
theorem dX11_layFar_171 : decode cX11_layFar 171 = .ok (.bipush 8, 2) := by decide +kernel
theorem dX11_layFar_173 : decode cX11_layFar 173 = .ok (.if_icmp .ge 77, 3) := by decide +kernel
theorem dX11_layFar_176 : decode cX11_layFar 176 = .ok (.aload_n 0, 1) := by decide +kernel
theorem dX11_layFar_177 : decode cX11_layFar 177 = .ok (.getfield 115, 3) := by decide +kernel
theorem dX11_layFar_180 : decode cX11_layFar 180 = .ok (.bipush 8, 2) := by decide +kernel
theorem dX11_layFar_182 : decode cX11_layFar 182 = .ok (.iload_n 2, 1) := by decide +kernel
theorem dX11_layFar_183 : decode cX11_layFar 183 = .ok (.imul, 1) := by decide +kernel
theorem dX11_layFar_184 : decode cX11_layFar 184 = .ok (.iload_n 1, 1) := by decide +kernel
theorem dX11_layFar_185 : decode cX11_layFar 185 = .ok (.iadd, 1) := by decide +kernel
theorem dX11_layFar_186 : decode cX11_layFar 186 = .ok (.iaload, 1) := by decide +kernel
theorem dX11_layFar_187 : decode cX11_layFar 187 = .ok (.aload_n 0, 1) := by decide +kernel
theorem dX11_layFar_188 : decode cX11_layFar 188 = .ok (.getfield 115, 3) := by decide +kernel
theorem dX11_layFar_191 : decode cX11_layFar 191 = .ok (.bipush 8, 2) := by decide +kernel
theorem dX11_layFar_193 : decode cX11_layFar 193 = .ok (.iload_n 1, 1) := by decide +kernel
theorem dX11_layFar_194 : decode cX11_layFar 194 = .ok (.imul, 1) := by decide +kernel
theorem dX11_layFar_195 : decode cX11_layFar 195 = .ok (.iload_n 3, 1) := by decide +kernel
theorem dX11_layFar_196 : decode cX11_layFar 196 = .ok (.iadd, 1) := by decide +kernel
theorem dX11_layFar_197 : decode cX11_layFar 197 = .ok (.iaload, 1) := by decide +kernel
theorem dX11_layFar_198 : decode cX11_layFar 198 = .ok (.iadd, 1) := by decide +kernel
theorem dX11_layFar_199 : decode cX11_layFar 199 = .ok (.istore 4, 2) := by decide +kernel
theorem dX11_layFar_201 : decode cX11_layFar 201 = .ok (.aload_n 0, 1) := by decide +kernel
theorem dX11_layFar_202 : decode cX11_layFar 202 = .ok (.getfield 115, 3) := by decide +kernel
theorem dX11_layFar_205 : decode cX11_layFar 205 = .ok (.bipush 8, 2) := by decide +kernel
theorem dX11_layFar_207 : decode cX11_layFar 207 = .ok (.iload_n 2, 1) := by decide +kernel
theorem dX11_layFar_208 : decode cX11_layFar 208 = .ok (.imul, 1) := by decide +kernel
theorem dX11_layFar_209 : decode cX11_layFar 209 = .ok (.iload_n 3, 1) := by decide +kernel
theorem dX11_layFar_210 : decode cX11_layFar 210 = .ok (.iadd, 1) := by decide +kernel
theorem dX11_layFar_211 : decode cX11_layFar 211 = .ok (.iload 4, 2) := by decide +kernel
theorem dX11_layFar_213 : decode cX11_layFar 213 = .ok (.aload_n 0, 1) := by decide +kernel
theorem dX11_layFar_214 : decode cX11_layFar 214 = .ok (.getfield 115, 3) := by decide +kernel
theorem dX11_layFar_217 : decode cX11_layFar 217 = .ok (.bipush 8, 2) := by decide +kernel
theorem dX11_layFar_219 : decode cX11_layFar 219 = .ok (.iload_n 2, 1) := by decide +kernel
theorem dX11_layFar_220 : decode cX11_layFar 220 = .ok (.imul, 1) := by decide +kernel
theorem dX11_layFar_221 : decode cX11_layFar 221 = .ok (.iload_n 3, 1) := by decide +kernel
theorem dX11_layFar_222 : decode cX11_layFar 222 = .ok (.iadd, 1) := by decide +kernel
theorem dX11_layFar_223 : decode cX11_layFar 223 = .ok (.iaload, 1) := by decide +kernel
theorem dX11_layFar_224 : decode cX11_layFar 224 = .ok (.if_icmp .ge 8, 3) := by decide +kernel
theorem dX11_layFar_227 : decode cX11_layFar 227 = .ok (.iload 4, 2) := by decide +kernel
theorem dX11_layFar_229 : decode cX11_layFar 229 = .ok (.goto 14, 3) := by decide +kernel
theorem dX11_layFar_232 : decode cX11_layFar 232 = .ok (.aload_n 0, 1) := by decide +kernel
theorem dX11_layFar_233 : decode cX11_layFar 233 = .ok (.getfield 115, 3) := by decide +kernel
theorem dX11_layFar_236 : decode cX11_layFar 236 = .ok (.bipush 8, 2) := by decide +kernel
theorem dX11_layFar_238 : decode cX11_layFar 238 = .ok (.iload_n 2, 1) := by decide +kernel
theorem dX11_layFar_239 : decode cX11_layFar 239 = .ok (.imul, 1) := by decide +kernel
theorem dX11_layFar_240 : decode cX11_layFar 240 = .ok (.iload_n 3, 1) := by decide +kernel
theorem dX11_layFar_241 : decode cX11_layFar 241 = .ok (.iadd, 1) := by decide +kernel
theorem dX11_layFar_242 : decode cX11_layFar 242 = .ok (.iaload, 1) := by decide +kernel
theorem dX11_layFar_243 : decode cX11_layFar 243 = .ok (.iastore, 1) := by decide +kernel
theorem dX11_layFar_244 : decode cX11_layFar 244 = .ok (.iinc 3 1, 3) := by decide +kernel
theorem dX11_layFar_247 : decode cX11_layFar 247 = .ok (.goto (-77), 3) := by decide +kernel
theorem dX11_layFar_250 : decode cX11_layFar 250 = .ok (.iinc 2 1, 3) := by decide +kernel
theorem dX11_layFar_253 : decode cX11_layFar 253 = .ok (.goto (-91), 3) := by decide +kernel
theorem dX11_layFar_256 : decode cX11_layFar 256 = .ok (.iinc 1 1, 3) := by decide +kernel
theorem dX11_layFar_259 : decode cX11_layFar 259 = .ok (.goto (-105), 3) := by decide +kernel
theorem dX11_layFar_262 : decode cX11_layFar 262 = .ok (.return_, 1) := by decide +kernel
theorem dX11_farOf_0 : decode cX11_farOf 0 = .ok (.aload_n 0, 1) := by decide +kernel
theorem dX11_farOf_1 : decode cX11_farOf 1 = .ok (.getfield 115, 3) := by decide +kernel
theorem dX11_farOf_4 : decode cX11_farOf 4 = .ok (.bipush 8, 2) := by decide +kernel
theorem dX11_farOf_6 : decode cX11_farOf 6 = .ok (.iload_n 1, 1) := by decide +kernel
theorem dX11_farOf_7 : decode cX11_farOf 7 = .ok (.imul, 1) := by decide +kernel
theorem dX11_farOf_8 : decode cX11_farOf 8 = .ok (.iload_n 2, 1) := by decide +kernel
theorem dX11_farOf_9 : decode cX11_farOf 9 = .ok (.iadd, 1) := by decide +kernel
theorem dX11_farOf_10 : decode cX11_farOf 10 = .ok (.iaload, 1) := by decide +kernel
theorem dX11_farOf_11 : decode cX11_farOf 11 = .ok (.ldc_w 459, 3) := by decide +kernel
theorem dX11_farOf_14 : decode cX11_farOf 14 = .ok (.if_icmp .lt 9, 3) := by decide +kernel
theorem dX11_farOf_17 : decode cX11_farOf 17 = .ok (.ldc_w 459, 3) := by decide +kernel
theorem dX11_farOf_20 : decode cX11_farOf 20 = .ok (.goto 14, 3) := by decide +kernel
theorem dX11_farOf_23 : decode cX11_farOf 23 = .ok (.aload_n 0, 1) := by decide +kernel
theorem dX11_farOf_24 : decode cX11_farOf 24 = .ok (.getfield 115, 3) := by decide +kernel
theorem dX11_farOf_27 : decode cX11_farOf 27 = .ok (.bipush 8, 2) := by decide +kernel
theorem dX11_farOf_29 : decode cX11_farOf 29 = .ok (.iload_n 1, 1) := by decide +kernel
theorem dX11_farOf_30 : decode cX11_farOf 30 = .ok (.imul, 1) := by decide +kernel
theorem dX11_farOf_31 : decode cX11_farOf 31 = .ok (.iload_n 2, 1) := by decide +kernel
theorem dX11_farOf_32 : decode cX11_farOf 32 = .ok (.iadd, 1) := by decide +kernel
theorem dX11_farOf_33 : decode cX11_farOf 33 = .ok (.iaload, 1) := by decide +kernel
theorem dX11_farOf_34 : decode cX11_farOf 34 = .ok (.ireturn, 1) := by decide +kernel
theorem dX11_far_0 : decode cX11_far 0 = .ok (.aload_n 0, 1) := by decide +kernel
theorem dX11_far_1 : decode cX11_far 1 = .ok (.iconst 0, 1) := by decide +kernel
theorem dX11_far_2 : decode cX11_far 2 = .ok (.putfield 159, 3) := by decide +kernel
theorem dX11_far_5 : decode cX11_far 5 = .ok (.iload_n 1, 1) := by decide +kernel
theorem dX11_far_6 : decode cX11_far 6 = .ok (.invokestatic 188, 3) := by decide +kernel
theorem dX11_far_9 : decode cX11_far 9 = .ok (.ifCond .eq 10, 3) := by decide +kernel
theorem dX11_far_12 : decode cX11_far 12 = .ok (.iload_n 2, 1) := by decide +kernel
theorem dX11_far_13 : decode cX11_far 13 = .ok (.invokestatic 188, 3) := by decide +kernel
theorem dX11_far_16 : decode cX11_far 16 = .ok (.ifCond .ne 5, 3) := by decide +kernel
theorem dX11_far_19 : decode cX11_far 19 = .ok (.iconst (-1), 1) := by decide +kernel
theorem dX11_far_20 : decode cX11_far 20 = .ok (.ireturn, 1) := by decide +kernel
theorem dX11_far_21 : decode cX11_far 21 = .ok (.aload_n 0, 1) := by decide +kernel
theorem dX11_far_22 : decode cX11_far 22 = .ok (.invokevirtual 460, 3) := by decide +kernel
theorem dX11_far_25 : decode cX11_far 25 = .ok (.aload_n 0, 1) := by decide +kernel
theorem dX11_far_26 : decode cX11_far 26 = .ok (.iload_n 1, 1) := by decide +kernel
theorem dX11_far_27 : decode cX11_far 27 = .ok (.iload_n 2, 1) := by decide +kernel
theorem dX11_far_28 : decode cX11_far 28 = .ok (.invokevirtual 463, 3) := by decide +kernel
theorem dX11_far_31 : decode cX11_far 31 = .ok (.ldc_w 459, 3) := by decide +kernel
theorem dX11_far_34 : decode cX11_far 34 = .ok (.if_icmp .ne 7, 3) := by decide +kernel
theorem dX11_far_37 : decode cX11_far 37 = .ok (.iconst (-1), 1) := by decide +kernel
theorem dX11_far_38 : decode cX11_far 38 = .ok (.goto 9, 3) := by decide +kernel
theorem dX11_far_41 : decode cX11_far 41 = .ok (.aload_n 0, 1) := by decide +kernel
theorem dX11_far_42 : decode cX11_far 42 = .ok (.iload_n 1, 1) := by decide +kernel
theorem dX11_far_43 : decode cX11_far 43 = .ok (.iload_n 2, 1) := by decide +kernel
theorem dX11_far_44 : decode cX11_far 44 = .ok (.invokevirtual 463, 3) := by decide +kernel
theorem dX11_far_47 : decode cX11_far 47 = .ok (.ireturn, 1) := by decide +kernel
theorem dX11_foundAt_0 : decode cX11_foundAt 0 = .ok (.aload_n 0, 1) := by decide +kernel
theorem dX11_foundAt_1 : decode cX11_foundAt 1 = .ok (.bipush 16, 2) := by decide +kernel
theorem dX11_foundAt_3 : decode cX11_foundAt 3 = .ok (.invokevirtual 172, 3) := by decide +kernel
theorem dX11_foundAt_6 : decode cX11_foundAt 6 = .ok (.iconst 0, 1) := by decide +kernel
theorem dX11_foundAt_7 : decode cX11_foundAt 7 = .ok (.istore_n 3, 1) := by decide +kernel
theorem dX11_foundAt_8 : decode cX11_foundAt 8 = .ok (.iload_n 3, 1) := by decide +kernel
theorem dX11_foundAt_9 : decode cX11_foundAt 9 = .ok (.bipush 60, 2) := by decide +kernel
theorem dX11_foundAt_11 : decode cX11_foundAt 11 = .ok (.if_icmp .gt 32, 3) := by decide +kernel
theorem dX11_foundAt_14 : decode cX11_foundAt 14 = .ok (.aload_n 0, 1) := by decide +kernel
theorem dX11_foundAt_15 : decode cX11_foundAt 15 = .ok (.iload_n 1, 1) := by decide +kernel
theorem dX11_foundAt_16 : decode cX11_foundAt 16 = .ok (.aload_n 0, 1) := by decide +kernel
theorem dX11_foundAt_17 : decode cX11_foundAt 17 = .ok (.getfield 13, 3) := by decide +kernel
theorem dX11_foundAt_20 : decode cX11_foundAt 20 = .ok (.bipush 18, 2) := by decide +kernel
theorem dX11_foundAt_22 : decode cX11_foundAt 22 = .ok (.iload_n 2, 1) := by decide +kernel
theorem dX11_foundAt_23 : decode cX11_foundAt 23 = .ok (.iadd, 1) := by decide +kernel
theorem dX11_foundAt_24 : decode cX11_foundAt 24 = .ok (.iaload, 1) := by decide +kernel
theorem dX11_foundAt_25 : decode cX11_foundAt 25 = .ok (.invokevirtual 463, 3) := by decide +kernel
theorem dX11_foundAt_28 : decode cX11_foundAt 28 = .ok (.iload_n 3, 1) := by decide +kernel
theorem dX11_foundAt_29 : decode cX11_foundAt 29 = .ok (.if_icmp .le 14, 3) := by decide +kernel
theorem dX11_foundAt_32 : decode cX11_foundAt 32 = .ok (.aload_n 0, 1) := by decide +kernel
theorem dX11_foundAt_33 : decode cX11_foundAt 33 = .ok (.invokevirtual 451, 3) := by decide +kernel
theorem dX11_foundAt_36 : decode cX11_foundAt 36 = .ok (.pop, 1) := by decide +kernel
theorem dX11_foundAt_37 : decode cX11_foundAt 37 = .ok (.iinc 3 1, 3) := by decide +kernel
theorem dX11_foundAt_40 : decode cX11_foundAt 40 = .ok (.goto (-32), 3) := by decide +kernel
theorem dX11_foundAt_43 : decode cX11_foundAt 43 = .ok (.aload_n 0, 1) := by decide +kernel
theorem dX11_foundAt_44 : decode cX11_foundAt 44 = .ok (.bipush 16, 2) := by decide +kernel
theorem dX11_foundAt_46 : decode cX11_foundAt 46 = .ok (.invokevirtual 176, 3) := by decide +kernel
theorem dX11_foundAt_49 : decode cX11_foundAt 49 = .ok (.iload_n 3, 1) := by decide +kernel
theorem dX11_foundAt_50 : decode cX11_foundAt 50 = .ok (.bipush 60, 2) := by decide +kernel
theorem dX11_foundAt_52 : decode cX11_foundAt 52 = .ok (.if_icmp .le 9, 3) := by decide +kernel
theorem dX11_foundAt_55 : decode cX11_foundAt 55 = .ok (.ldc_w 459, 3) := by decide +kernel
theorem dX11_foundAt_58 : decode cX11_foundAt 58 = .ok (.goto 4, 3) := by decide +kernel
theorem dX11_foundAt_61 : decode cX11_foundAt 61 = .ok (.iload_n 3, 1) := by decide +kernel
theorem dX11_foundAt_62 : decode cX11_foundAt 62 = .ok (.ireturn, 1) := by decide +kernel
theorem dX11_found_0 : decode cX11_found 0 = .ok (.aload_n 0, 1) := by decide +kernel
theorem dX11_found_1 : decode cX11_found 1 = .ok (.iconst 0, 1) := by decide +kernel
theorem dX11_found_2 : decode cX11_found 2 = .ok (.putfield 159, 3) := by decide +kernel
theorem dX11_found_5 : decode cX11_found 5 = .ok (.iload_n 1, 1) := by decide +kernel
theorem dX11_found_6 : decode cX11_found 6 = .ok (.invokestatic 188, 3) := by decide +kernel
theorem dX11_found_9 : decode cX11_found 9 = .ok (.ifCond .eq 11, 3) := by decide +kernel
theorem dX11_found_12 : decode cX11_found 12 = .ok (.aload_n 0, 1) := by decide +kernel
theorem dX11_found_13 : decode cX11_found 13 = .ok (.iload_n 2, 1) := by decide +kernel
theorem dX11_found_14 : decode cX11_found 14 = .ok (.invokevirtual 203, 3) := by decide +kernel
theorem dX11_found_17 : decode cX11_found 17 = .ok (.ifCond .ne 5, 3) := by decide +kernel
theorem dX11_found_20 : decode cX11_found 20 = .ok (.iconst (-1), 1) := by decide +kernel
theorem dX11_found_21 : decode cX11_found 21 = .ok (.ireturn, 1) := by decide +kernel
theorem dX11_found_22 : decode cX11_found 22 = .ok (.aload_n 0, 1) := by decide +kernel
theorem dX11_found_23 : decode cX11_found 23 = .ok (.invokevirtual 460, 3) := by decide +kernel
theorem dX11_found_26 : decode cX11_found 26 = .ok (.aload_n 0, 1) := by decide +kernel
theorem dX11_found_27 : decode cX11_found 27 = .ok (.iload_n 1, 1) := by decide +kernel
theorem dX11_found_28 : decode cX11_found 28 = .ok (.iload_n 2, 1) := by decide +kernel
theorem dX11_found_29 : decode cX11_found 29 = .ok (.invokevirtual 466, 3) := by decide +kernel
theorem dX11_found_32 : decode cX11_found 32 = .ok (.istore_n 3, 1) := by decide +kernel
theorem dX11_found_33 : decode cX11_found 33 = .ok (.iload_n 3, 1) := by decide +kernel
theorem dX11_found_34 : decode cX11_found 34 = .ok (.ldc_w 459, 3) := by decide +kernel
theorem dX11_found_37 : decode cX11_found 37 = .ok (.if_icmp .ne 7, 3) := by decide +kernel
theorem dX11_found_40 : decode cX11_found 40 = .ok (.iconst (-1), 1) := by decide +kernel
theorem dX11_found_41 : decode cX11_found 41 = .ok (.goto 4, 3) := by decide +kernel
theorem dX11_found_44 : decode cX11_found 44 = .ok (.iload_n 3, 1) := by decide +kernel
theorem dX11_found_45 : decode cX11_found 45 = .ok (.ireturn, 1) := by decide +kernel
theorem dX11_post_0 : decode cX11_post 0 = .ok (.aload_n 0, 1) := by decide +kernel
theorem dX11_post_1 : decode cX11_post 1 = .ok (.iconst 0, 1) := by decide +kernel
theorem dX11_post_2 : decode cX11_post 2 = .ok (.putfield 159, 3) := by decide +kernel
theorem dX11_post_5 : decode cX11_post 5 = .ok (.iload_n 1, 1) := by decide +kernel
theorem dX11_post_6 : decode cX11_post 6 = .ok (.i2l, 1) := by decide +kernel
theorem dX11_post_7 : decode cX11_post 7 = .ok (.lconst 0, 1) := by decide +kernel
theorem dX11_post_8 : decode cX11_post 8 = .ok (.lconst 1, 1) := by decide +kernel
theorem dX11_post_9 : decode cX11_post 9 = .ok (.invokestatic 179, 3) := by decide +kernel
theorem dX11_post_12 : decode cX11_post 12 = .ok (.ifCond .eq 12, 3) := by decide +kernel
theorem dX11_post_15 : decode cX11_post 15 = .ok (.aload_n 0, 1) := by decide +kernel
theorem dX11_post_16 : decode cX11_post 16 = .ok (.getfield 13, 3) := by decide +kernel
theorem dX11_post_19 : decode cX11_post 19 = .ok (.iconst 1, 1) := by decide +kernel
theorem dX11_post_20 : decode cX11_post 20 = .ok (.iaload, 1) := by decide +kernel
theorem dX11_post_21 : decode cX11_post 21 = .ok (.ifCond .ne 5, 3) := by decide +kernel
theorem dX11_post_24 : decode cX11_post 24 = .ok (.iconst (-1), 1) := by decide +kernel
theorem dX11_post_25 : decode cX11_post 25 = .ok (.ireturn, 1) := by decide +kernel
theorem dX11_post_26 : decode cX11_post 26 = .ok (.aload_n 0, 1) := by decide +kernel
theorem dX11_post_27 : decode cX11_post 27 = .ok (.invokevirtual 460, 3) := by decide +kernel
theorem dX11_post_30 : decode cX11_post 30 = .ok (.ldc_w 459, 3) := by decide +kernel
theorem dX11_post_33 : decode cX11_post 33 = .ok (.istore_n 2, 1) := by decide +kernel
theorem dX11_post_34 : decode cX11_post 34 = .ok (.iconst (-1), 1) := by decide +kernel
theorem dX11_post_35 : decode cX11_post 35 = .ok (.istore_n 3, 1) := by decide +kernel
theorem dX11_post_36 : decode cX11_post 36 = .ok (.iconst 0, 1) := by decide +kernel
theorem dX11_post_37 : decode cX11_post 37 = .ok (.istore 4, 2) := by decide +kernel
theorem dX11_post_39 : decode cX11_post 39 = .ok (.iload 4, 2) := by decide +kernel
theorem dX11_post_41 : decode cX11_post 41 = .ok (.bipush 8, 2) := by decide +kernel
theorem dX11_post_43 : decode cX11_post 43 = .ok (.if_icmp .ge 84, 3) := by decide +kernel
theorem dX11_post_46 : decode cX11_post 46 = .ok (.iconst 0, 1) := by decide +kernel
theorem dX11_post_47 : decode cX11_post 47 = .ok (.istore 5, 2) := by decide +kernel
theorem dX11_post_49 : decode cX11_post 49 = .ok (.iconst 0, 1) := by decide +kernel
theorem dX11_post_50 : decode cX11_post 50 = .ok (.istore 6, 2) := by decide +kernel
theorem dX11_post_52 : decode cX11_post 52 = .ok (.iload 6, 2) := by decide +kernel
theorem dX11_post_54 : decode cX11_post 54 = .ok (.aload_n 0, 1) := by decide +kernel
theorem dX11_post_55 : decode cX11_post 55 = .ok (.getfield 13, 3) := by decide +kernel
theorem dX11_post_58 : decode cX11_post 58 = .ok (.iconst 1, 1) := by decide +kernel
theorem dX11_post_59 : decode cX11_post 59 = .ok (.iaload, 1) := by decide +kernel
theorem dX11_post_60 : decode cX11_post 60 = .ok (.if_icmp .ge 35, 3) := by decide +kernel
theorem dX11_post_63 : decode cX11_post 63 = .ok (.aload_n 0, 1) := by decide +kernel
theorem dX11_post_64 : decode cX11_post 64 = .ok (.iload 4, 2) := by decide +kernel
theorem dX11_post_66 : decode cX11_post 66 = .ok (.iload 6, 2) := by decide +kernel
theorem dX11_post_68 : decode cX11_post 68 = .ok (.invokevirtual 466, 3) := by decide +kernel
theorem dX11_post_71 : decode cX11_post 71 = .ok (.istore 7, 2) := by decide +kernel
theorem dX11_post_73 : decode cX11_post 73 = .ok (.iload 7, 2) := by decide +kernel
theorem dX11_post_75 : decode cX11_post 75 = .ok (.iload 5, 2) := by decide +kernel
theorem dX11_post_77 : decode cX11_post 77 = .ok (.if_icmp .le 8, 3) := by decide +kernel
theorem dX11_post_80 : decode cX11_post 80 = .ok (.iload 7, 2) := by decide +kernel
theorem dX11_post_82 : decode cX11_post 82 = .ok (.goto 5, 3) := by decide +kernel
theorem dX11_post_85 : decode cX11_post 85 = .ok (.iload 5, 2) := by decide +kernel
theorem dX11_post_87 : decode cX11_post 87 = .ok (.istore 5, 2) := by decide +kernel
theorem dX11_post_89 : decode cX11_post 89 = .ok (.iinc 6 1, 3) := by decide +kernel
theorem dX11_post_92 : decode cX11_post 92 = .ok (.goto (-40), 3) := by decide +kernel
theorem dX11_post_95 : decode cX11_post 95 = .ok (.iload 5, 2) := by decide +kernel
theorem dX11_post_97 : decode cX11_post 97 = .ok (.iload_n 2, 1) := by decide +kernel
theorem dX11_post_98 : decode cX11_post 98 = .ok (.if_icmp .ge 8, 3) := by decide +kernel
theorem dX11_post_101 : decode cX11_post 101 = .ok (.iload 4, 2) := by decide +kernel
theorem dX11_post_103 : decode cX11_post 103 = .ok (.goto 4, 3) := by decide +kernel
theorem dX11_post_106 : decode cX11_post 106 = .ok (.iload_n 3, 1) := by decide +kernel
theorem dX11_post_107 : decode cX11_post 107 = .ok (.istore_n 3, 1) := by decide +kernel
theorem dX11_post_108 : decode cX11_post 108 = .ok (.iload 5, 2) := by decide +kernel
theorem dX11_post_110 : decode cX11_post 110 = .ok (.iload_n 2, 1) := by decide +kernel
theorem dX11_post_111 : decode cX11_post 111 = .ok (.if_icmp .ge 8, 3) := by decide +kernel
theorem dX11_post_114 : decode cX11_post 114 = .ok (.iload 5, 2) := by decide +kernel
theorem dX11_post_116 : decode cX11_post 116 = .ok (.goto 4, 3) := by decide +kernel
theorem dX11_post_119 : decode cX11_post 119 = .ok (.iload_n 2, 1) := by decide +kernel
theorem dX11_post_120 : decode cX11_post 120 = .ok (.istore_n 2, 1) := by decide +kernel
theorem dX11_post_121 : decode cX11_post 121 = .ok (.iinc 4 1, 3) := by decide +kernel
theorem dX11_post_124 : decode cX11_post 124 = .ok (.goto (-85), 3) := by decide +kernel
theorem dX11_post_127 : decode cX11_post 127 = .ok (.iload_n 3, 1) := by decide +kernel
theorem dX11_post_128 : decode cX11_post 128 = .ok (.iconst (-1), 1) := by decide +kernel
theorem dX11_post_129 : decode cX11_post 129 = .ok (.if_icmp .eq 7, 3) := by decide +kernel
theorem dX11_post_132 : decode cX11_post 132 = .ok (.iload_n 1, 1) := by decide +kernel
theorem dX11_post_133 : decode cX11_post 133 = .ok (.ifCond .ne 7, 3) := by decide +kernel
theorem dX11_post_136 : decode cX11_post 136 = .ok (.iload_n 3, 1) := by decide +kernel
theorem dX11_post_137 : decode cX11_post 137 = .ok (.goto 4, 3) := by decide +kernel
theorem dX11_post_140 : decode cX11_post 140 = .ok (.iload_n 2, 1) := by decide +kernel
theorem dX11_post_141 : decode cX11_post 141 = .ok (.ireturn, 1) := by decide +kernel
theorem dX11_laneEnds_0 : decode cX11_laneEnds 0 = .ok (.iconst 0, 1) := by decide +kernel
theorem dX11_laneEnds_1 : decode cX11_laneEnds 1 = .ok (.istore_n 2, 1) := by decide +kernel
theorem dX11_laneEnds_2 : decode cX11_laneEnds 2 = .ok (.iconst 0, 1) := by decide +kernel
theorem dX11_laneEnds_3 : decode cX11_laneEnds 3 = .ok (.istore_n 3, 1) := by decide +kernel
theorem dX11_laneEnds_4 : decode cX11_laneEnds 4 = .ok (.iload_n 3, 1) := by decide +kernel
theorem dX11_laneEnds_5 : decode cX11_laneEnds 5 = .ok (.aload_n 0, 1) := by decide +kernel
theorem dX11_laneEnds_6 : decode cX11_laneEnds 6 = .ok (.getfield 13, 3) := by decide +kernel
theorem dX11_laneEnds_9 : decode cX11_laneEnds 9 = .ok (.iconst 0, 1) := by decide +kernel
theorem dX11_laneEnds_10 : decode cX11_laneEnds 10 = .ok (.iaload, 1) := by decide +kernel
theorem dX11_laneEnds_11 : decode cX11_laneEnds 11 = .ok (.if_icmp .ge 26, 3) := by decide +kernel
theorem dX11_laneEnds_14 : decode cX11_laneEnds 14 = .ok (.iload_n 2, 1) := by decide +kernel
theorem dX11_laneEnds_15 : decode cX11_laneEnds 15 = .ok (.aload_n 0, 1) := by decide +kernel
theorem dX11_laneEnds_16 : decode cX11_laneEnds 16 = .ok (.iload_n 3, 1) := by decide +kernel
theorem dX11_laneEnds_17 : decode cX11_laneEnds 17 = .ok (.iload_n 1, 1) := by decide +kernel
theorem dX11_laneEnds_18 : decode cX11_laneEnds 18 = .ok (.invokevirtual 424, 3) := by decide +kernel
theorem dX11_laneEnds_21 : decode cX11_laneEnds 21 = .ok (.ifCond .eq 7, 3) := by decide +kernel
theorem dX11_laneEnds_24 : decode cX11_laneEnds 24 = .ok (.iconst 1, 1) := by decide +kernel
theorem dX11_laneEnds_25 : decode cX11_laneEnds 25 = .ok (.goto 4, 3) := by decide +kernel
theorem dX11_laneEnds_28 : decode cX11_laneEnds 28 = .ok (.iconst 0, 1) := by decide +kernel
theorem dX11_laneEnds_29 : decode cX11_laneEnds 29 = .ok (.iadd, 1) := by decide +kernel
theorem dX11_laneEnds_30 : decode cX11_laneEnds 30 = .ok (.istore_n 2, 1) := by decide +kernel
theorem dX11_laneEnds_31 : decode cX11_laneEnds 31 = .ok (.iinc 3 1, 3) := by decide +kernel
theorem dX11_laneEnds_34 : decode cX11_laneEnds 34 = .ok (.goto (-30), 3) := by decide +kernel
theorem dX11_laneEnds_37 : decode cX11_laneEnds 37 = .ok (.iload_n 2, 1) := by decide +kernel
theorem dX11_laneEnds_38 : decode cX11_laneEnds 38 = .ok (.ireturn, 1) := by decide +kernel
theorem dX11_allNear_0 : decode cX11_allNear 0 = .ok (.iconst 1, 1) := by decide +kernel
theorem dX11_allNear_1 : decode cX11_allNear 1 = .ok (.istore_n 3, 1) := by decide +kernel
theorem dX11_allNear_2 : decode cX11_allNear 2 = .ok (.iconst 0, 1) := by decide +kernel
theorem dX11_allNear_3 : decode cX11_allNear 3 = .ok (.istore 4, 2) := by decide +kernel
theorem dX11_allNear_5 : decode cX11_allNear 5 = .ok (.iload 4, 2) := by decide +kernel
theorem dX11_allNear_7 : decode cX11_allNear 7 = .ok (.bipush 8, 2) := by decide +kernel
theorem dX11_allNear_9 : decode cX11_allNear 9 = .ok (.if_icmp .ge 89, 3) := by decide +kernel
theorem dX11_allNear_12 : decode cX11_allNear 12 = .ok (.aload_n 0, 1) := by decide +kernel
theorem dX11_allNear_13 : decode cX11_allNear 13 = .ok (.iload 4, 2) := by decide +kernel
theorem dX11_allNear_15 : decode cX11_allNear 15 = .ok (.invokevirtual 469, 3) := by decide +kernel
theorem dX11_allNear_18 : decode cX11_allNear 18 = .ok (.ifCond .ne 7, 3) := by decide +kernel
theorem dX11_allNear_21 : decode cX11_allNear 21 = .ok (.iconst 1, 1) := by decide +kernel
theorem dX11_allNear_22 : decode cX11_allNear 22 = .ok (.goto 4, 3) := by decide +kernel
theorem dX11_allNear_25 : decode cX11_allNear 25 = .ok (.iconst 0, 1) := by decide +kernel
theorem dX11_allNear_26 : decode cX11_allNear 26 = .ok (.istore 5, 2) := by decide +kernel
theorem dX11_allNear_28 : decode cX11_allNear 28 = .ok (.iconst 0, 1) := by decide +kernel
theorem dX11_allNear_29 : decode cX11_allNear 29 = .ok (.istore 6, 2) := by decide +kernel
theorem dX11_allNear_31 : decode cX11_allNear 31 = .ok (.iload 6, 2) := by decide +kernel
theorem dX11_allNear_33 : decode cX11_allNear 33 = .ok (.bipush 8, 2) := by decide +kernel
theorem dX11_allNear_35 : decode cX11_allNear 35 = .ok (.if_icmp .ge 42, 3) := by decide +kernel
theorem dX11_allNear_38 : decode cX11_allNear 38 = .ok (.iload 5, 2) := by decide +kernel
theorem dX11_allNear_40 : decode cX11_allNear 40 = .ok (.ifCond .ne 24, 3) := by decide +kernel
theorem dX11_allNear_43 : decode cX11_allNear 43 = .ok (.iload_n 1, 1) := by decide +kernel
theorem dX11_allNear_44 : decode cX11_allNear 44 = .ok (.iload 6, 2) := by decide +kernel
theorem dX11_allNear_46 : decode cX11_allNear 46 = .ok (.invokestatic 472, 3) := by decide +kernel
theorem dX11_allNear_49 : decode cX11_allNear 49 = .ok (.ifCond .eq 19, 3) := by decide +kernel
theorem dX11_allNear_52 : decode cX11_allNear 52 = .ok (.aload_n 0, 1) := by decide +kernel
theorem dX11_allNear_53 : decode cX11_allNear 53 = .ok (.iload 6, 2) := by decide +kernel
theorem dX11_allNear_55 : decode cX11_allNear 55 = .ok (.iload 4, 2) := by decide +kernel
theorem dX11_allNear_57 : decode cX11_allNear 57 = .ok (.invokevirtual 463, 3) := by decide +kernel
theorem dX11_allNear_60 : decode cX11_allNear 60 = .ok (.iload_n 2, 1) := by decide +kernel
theorem dX11_allNear_61 : decode cX11_allNear 61 = .ok (.if_icmp .gt 7, 3) := by decide +kernel
theorem dX11_allNear_64 : decode cX11_allNear 64 = .ok (.iconst 1, 1) := by decide +kernel
theorem dX11_allNear_65 : decode cX11_allNear 65 = .ok (.goto 4, 3) := by decide +kernel
theorem dX11_allNear_68 : decode cX11_allNear 68 = .ok (.iconst 0, 1) := by decide +kernel
theorem dX11_allNear_69 : decode cX11_allNear 69 = .ok (.istore 5, 2) := by decide +kernel
theorem dX11_allNear_71 : decode cX11_allNear 71 = .ok (.iinc 6 1, 3) := by decide +kernel
theorem dX11_allNear_74 : decode cX11_allNear 74 = .ok (.goto (-43), 3) := by decide +kernel
theorem dX11_allNear_77 : decode cX11_allNear 77 = .ok (.iload_n 3, 1) := by decide +kernel
theorem dX11_allNear_78 : decode cX11_allNear 78 = .ok (.ifCond .eq 12, 3) := by decide +kernel
theorem dX11_allNear_81 : decode cX11_allNear 81 = .ok (.iload 5, 2) := by decide +kernel
theorem dX11_allNear_83 : decode cX11_allNear 83 = .ok (.ifCond .eq 7, 3) := by decide +kernel
theorem dX11_allNear_86 : decode cX11_allNear 86 = .ok (.iconst 1, 1) := by decide +kernel
theorem dX11_allNear_87 : decode cX11_allNear 87 = .ok (.goto 4, 3) := by decide +kernel
theorem dX11_allNear_90 : decode cX11_allNear 90 = .ok (.iconst 0, 1) := by decide +kernel
theorem dX11_allNear_91 : decode cX11_allNear 91 = .ok (.istore_n 3, 1) := by decide +kernel
theorem dX11_allNear_92 : decode cX11_allNear 92 = .ok (.iinc 4 1, 3) := by decide +kernel
theorem dX11_allNear_95 : decode cX11_allNear 95 = .ok (.goto (-90), 3) := by decide +kernel
theorem dX11_allNear_98 : decode cX11_allNear 98 = .ok (.iload_n 3, 1) := by decide +kernel
theorem dX11_allNear_99 : decode cX11_allNear 99 = .ok (.ireturn, 1) := by decide +kernel
theorem dX11_posts_0 : decode cX11_posts 0 = .ok (.aload_n 0, 1) := by decide +kernel
theorem dX11_posts_1 : decode cX11_posts 1 = .ok (.iconst 0, 1) := by decide +kernel
theorem dX11_posts_2 : decode cX11_posts 2 = .ok (.putfield 159, 3) := by decide +kernel
theorem dX11_posts_5 : decode cX11_posts 5 = .ok (.iload_n 1, 1) := by decide +kernel
theorem dX11_posts_6 : decode cX11_posts 6 = .ok (.i2l, 1) := by decide +kernel
theorem dX11_posts_7 : decode cX11_posts 7 = .ok (.lconst 0, 1) := by decide +kernel
theorem dX11_posts_8 : decode cX11_posts 8 = .ok (.ldc2_w 475, 3) := by decide +kernel
theorem dX11_posts_11 : decode cX11_posts 11 = .ok (.invokestatic 179, 3) := by decide +kernel
theorem dX11_posts_14 : decode cX11_posts 14 = .ok (.ifCond .eq 13, 3) := by decide +kernel
theorem dX11_posts_17 : decode cX11_posts 17 = .ok (.iload_n 2, 1) := by decide +kernel
theorem dX11_posts_18 : decode cX11_posts 18 = .ok (.i2l, 1) := by decide +kernel
theorem dX11_posts_19 : decode cX11_posts 19 = .ok (.lconst 0, 1) := by decide +kernel
theorem dX11_posts_20 : decode cX11_posts 20 = .ok (.lconst 1, 1) := by decide +kernel
theorem dX11_posts_21 : decode cX11_posts 21 = .ok (.invokestatic 179, 3) := by decide +kernel
theorem dX11_posts_24 : decode cX11_posts 24 = .ok (.ifCond .ne 5, 3) := by decide +kernel
theorem dX11_posts_27 : decode cX11_posts 27 = .ok (.iconst (-1), 1) := by decide +kernel
theorem dX11_posts_28 : decode cX11_posts 28 = .ok (.ireturn, 1) := by decide +kernel
theorem dX11_posts_29 : decode cX11_posts 29 = .ok (.aload_n 0, 1) := by decide +kernel
theorem dX11_posts_30 : decode cX11_posts 30 = .ok (.invokevirtual 460, 3) := by decide +kernel
theorem dX11_posts_33 : decode cX11_posts 33 = .ok (.ldc_w 459, 3) := by decide +kernel
theorem dX11_posts_36 : decode cX11_posts 36 = .ok (.istore_n 3, 1) := by decide +kernel
theorem dX11_posts_37 : decode cX11_posts 37 = .ok (.iconst 0, 1) := by decide +kernel
theorem dX11_posts_38 : decode cX11_posts 38 = .ok (.istore 4, 2) := by decide +kernel
theorem dX11_posts_40 : decode cX11_posts 40 = .ok (.iconst 0, 1) := by decide +kernel
theorem dX11_posts_41 : decode cX11_posts 41 = .ok (.istore 5, 2) := by decide +kernel
theorem dX11_posts_43 : decode cX11_posts 43 = .ok (.iload 5, 2) := by decide +kernel
theorem dX11_posts_45 : decode cX11_posts 45 = .ok (.sipush 256, 3) := by decide +kernel
theorem dX11_posts_48 : decode cX11_posts 48 = .ok (.if_icmp .ge 38, 3) := by decide +kernel
theorem dX11_posts_51 : decode cX11_posts 51 = .ok (.iload 5, 2) := by decide +kernel
theorem dX11_posts_53 : decode cX11_posts 53 = .ok (.invokestatic 477, 3) := by decide +kernel
theorem dX11_posts_56 : decode cX11_posts 56 = .ok (.iload_n 3, 1) := by decide +kernel
theorem dX11_posts_57 : decode cX11_posts 57 = .ok (.if_icmp .ge 23, 3) := by decide +kernel
theorem dX11_posts_60 : decode cX11_posts 60 = .ok (.aload_n 0, 1) := by decide +kernel
theorem dX11_posts_61 : decode cX11_posts 61 = .ok (.iload 5, 2) := by decide +kernel
theorem dX11_posts_63 : decode cX11_posts 63 = .ok (.iload_n 1, 1) := by decide +kernel
theorem dX11_posts_64 : decode cX11_posts 64 = .ok (.invokevirtual 480, 3) := by decide +kernel
theorem dX11_posts_67 : decode cX11_posts 67 = .ok (.ifCond .eq 13, 3) := by decide +kernel
theorem dX11_posts_70 : decode cX11_posts 70 = .ok (.iload 5, 2) := by decide +kernel
theorem dX11_posts_72 : decode cX11_posts 72 = .ok (.invokestatic 477, 3) := by decide +kernel
theorem dX11_posts_75 : decode cX11_posts 75 = .ok (.istore_n 3, 1) := by decide +kernel
theorem dX11_posts_76 : decode cX11_posts 76 = .ok (.iload 5, 2) := by decide +kernel
theorem dX11_posts_78 : decode cX11_posts 78 = .ok (.istore 4, 2) := by decide +kernel
theorem dX11_posts_80 : decode cX11_posts 80 = .ok (.iinc 5 1, 3) := by decide +kernel
theorem dX11_posts_83 : decode cX11_posts 83 = .ok (.goto (-40), 3) := by decide +kernel
theorem dX11_posts_86 : decode cX11_posts 86 = .ok (.iload_n 2, 1) := by decide +kernel
theorem dX11_posts_87 : decode cX11_posts 87 = .ok (.ifCond .ne 7, 3) := by decide +kernel
theorem dX11_posts_90 : decode cX11_posts 90 = .ok (.iload_n 3, 1) := by decide +kernel
theorem dX11_posts_91 : decode cX11_posts 91 = .ok (.goto 5, 3) := by decide +kernel
theorem dX11_posts_94 : decode cX11_posts 94 = .ok (.iload 4, 2) := by decide +kernel
theorem dX11_posts_96 : decode cX11_posts 96 = .ok (.ireturn, 1) := by decide +kernel
theorem dX11_again_0 : decode cX11_again 0 = .ok (.aload_n 0, 1) := by decide +kernel
theorem dX11_again_1 : decode cX11_again 1 = .ok (.iconst 0, 1) := by decide +kernel
theorem dX11_again_2 : decode cX11_again 2 = .ok (.putfield 159, 3) := by decide +kernel
theorem dX11_again_5 : decode cX11_again 5 = .ok (.aload_n 0, 1) := by decide +kernel
theorem dX11_again_6 : decode cX11_again 6 = .ok (.iload_n 1, 1) := by decide +kernel
theorem dX11_again_7 : decode cX11_again 7 = .ok (.invokevirtual 203, 3) := by decide +kernel
theorem dX11_again_10 : decode cX11_again 10 = .ok (.ifCond .ne 5, 3) := by decide +kernel
theorem dX11_again_13 : decode cX11_again 13 = .ok (.iconst (-1), 1) := by decide +kernel
theorem dX11_again_14 : decode cX11_again 14 = .ok (.ireturn, 1) := by decide +kernel
theorem dX11_again_15 : decode cX11_again 15 = .ok (.aload_n 0, 1) := by decide +kernel
theorem dX11_again_16 : decode cX11_again 16 = .ok (.getfield 13, 3) := by decide +kernel
theorem dX11_again_19 : decode cX11_again 19 = .ok (.bipush 18, 2) := by decide +kernel
theorem dX11_again_21 : decode cX11_again 21 = .ok (.iload_n 1, 1) := by decide +kernel
theorem dX11_again_22 : decode cX11_again 22 = .ok (.iadd, 1) := by decide +kernel
theorem dX11_again_23 : decode cX11_again 23 = .ok (.iaload, 1) := by decide +kernel
theorem dX11_again_24 : decode cX11_again 24 = .ok (.istore_n 2, 1) := by decide +kernel
theorem dX11_again_25 : decode cX11_again 25 = .ok (.aload_n 0, 1) := by decide +kernel
theorem dX11_again_26 : decode cX11_again 26 = .ok (.bipush 16, 2) := by decide +kernel
theorem dX11_again_28 : decode cX11_again 28 = .ok (.invokevirtual 172, 3) := by decide +kernel
theorem dX11_again_31 : decode cX11_again 31 = .ok (.aload_n 0, 1) := by decide +kernel
theorem dX11_again_32 : decode cX11_again 32 = .ok (.invokevirtual 451, 3) := by decide +kernel
theorem dX11_again_35 : decode cX11_again 35 = .ok (.pop, 1) := by decide +kernel
theorem dX11_again_36 : decode cX11_again 36 = .ok (.iconst 1, 1) := by decide +kernel
theorem dX11_again_37 : decode cX11_again 37 = .ok (.istore_n 3, 1) := by decide +kernel
theorem dX11_again_38 : decode cX11_again 38 = .ok (.iload_n 3, 1) := by decide +kernel
theorem dX11_again_39 : decode cX11_again 39 = .ok (.bipush 60, 2) := by decide +kernel
theorem dX11_again_41 : decode cX11_again 41 = .ok (.if_icmp .gt 27, 3) := by decide +kernel
theorem dX11_again_44 : decode cX11_again 44 = .ok (.aload_n 0, 1) := by decide +kernel
theorem dX11_again_45 : decode cX11_again 45 = .ok (.getfield 13, 3) := by decide +kernel
theorem dX11_again_48 : decode cX11_again 48 = .ok (.bipush 18, 2) := by decide +kernel
theorem dX11_again_50 : decode cX11_again 50 = .ok (.iload_n 1, 1) := by decide +kernel
theorem dX11_again_51 : decode cX11_again 51 = .ok (.iadd, 1) := by decide +kernel
theorem dX11_again_52 : decode cX11_again 52 = .ok (.iaload, 1) := by decide +kernel
theorem dX11_again_53 : decode cX11_again 53 = .ok (.iload_n 2, 1) := by decide +kernel
theorem dX11_again_54 : decode cX11_again 54 = .ok (.if_icmp .eq 14, 3) := by decide +kernel
theorem dX11_again_57 : decode cX11_again 57 = .ok (.aload_n 0, 1) := by decide +kernel
theorem dX11_again_58 : decode cX11_again 58 = .ok (.invokevirtual 451, 3) := by decide +kernel
theorem dX11_again_61 : decode cX11_again 61 = .ok (.pop, 1) := by decide +kernel
theorem dX11_again_62 : decode cX11_again 62 = .ok (.iinc 3 1, 3) := by decide +kernel
theorem dX11_again_65 : decode cX11_again 65 = .ok (.goto (-27), 3) := by decide +kernel
theorem dX11_again_68 : decode cX11_again 68 = .ok (.aload_n 0, 1) := by decide +kernel
theorem dX11_again_69 : decode cX11_again 69 = .ok (.bipush 16, 2) := by decide +kernel
theorem dX11_again_71 : decode cX11_again 71 = .ok (.invokevirtual 176, 3) := by decide +kernel
theorem dX11_again_74 : decode cX11_again 74 = .ok (.iload_n 3, 1) := by decide +kernel
theorem dX11_again_75 : decode cX11_again 75 = .ok (.bipush 60, 2) := by decide +kernel
theorem dX11_again_77 : decode cX11_again 77 = .ok (.if_icmp .le 7, 3) := by decide +kernel
theorem dX11_again_80 : decode cX11_again 80 = .ok (.iconst (-1), 1) := by decide +kernel
theorem dX11_again_81 : decode cX11_again 81 = .ok (.goto 4, 3) := by decide +kernel
theorem dX11_again_84 : decode cX11_again 84 = .ok (.iload_n 3, 1) := by decide +kernel
theorem dX11_again_85 : decode cX11_again 85 = .ok (.ireturn, 1) := by decide +kernel
theorem dX11_hear_0 : decode cX11_hear 0 = .ok (.aload_n 0, 1) := by decide +kernel
theorem dX11_hear_1 : decode cX11_hear 1 = .ok (.iconst 0, 1) := by decide +kernel
theorem dX11_hear_2 : decode cX11_hear 2 = .ok (.putfield 159, 3) := by decide +kernel
theorem dX11_hear_5 : decode cX11_hear 5 = .ok (.iload_n 1, 1) := by decide +kernel
theorem dX11_hear_6 : decode cX11_hear 6 = .ok (.i2l, 1) := by decide +kernel
theorem dX11_hear_7 : decode cX11_hear 7 = .ok (.lconst 0, 1) := by decide +kernel
theorem dX11_hear_8 : decode cX11_hear 8 = .ok (.ldc2_w 483, 3) := by decide +kernel
theorem dX11_hear_11 : decode cX11_hear 11 = .ok (.invokestatic 179, 3) := by decide +kernel
theorem dX11_hear_14 : decode cX11_hear 14 = .ok (.ifCond .ne 9, 3) := by decide +kernel
theorem dX11_hear_17 : decode cX11_hear 17 = .ok (.aload_n 0, 1) := by decide +kernel
theorem dX11_hear_18 : decode cX11_hear 18 = .ok (.iconst (-1), 1) := by decide +kernel
theorem dX11_hear_19 : decode cX11_hear 19 = .ok (.invokevirtual 168, 3) := by decide +kernel
theorem dX11_hear_22 : decode cX11_hear 22 = .ok (.ireturn, 1) := by decide +kernel
theorem dX11_hear_23 : decode cX11_hear 23 = .ok (.aload_n 0, 1) := by decide +kernel
theorem dX11_hear_24 : decode cX11_hear 24 = .ok (.getfield 13, 3) := by decide +kernel
theorem dX11_hear_27 : decode cX11_hear 27 = .ok (.iconst 2, 1) := by decide +kernel
theorem dX11_hear_28 : decode cX11_hear 28 = .ok (.iaload, 1) := by decide +kernel
theorem dX11_hear_29 : decode cX11_hear 29 = .ok (.istore_n 2, 1) := by decide +kernel
theorem dX11_hear_30 : decode cX11_hear 30 = .ok (.iload_n 2, 1) := by decide +kernel
theorem dX11_hear_31 : decode cX11_hear 31 = .ok (.bipush 6, 2) := by decide +kernel
theorem dX11_hear_33 : decode cX11_hear 33 = .ok (.if_icmp .ne 10, 3) := by decide +kernel
theorem dX11_hear_36 : decode cX11_hear 36 = .ok (.aload_n 0, 1) := by decide +kernel
theorem dX11_hear_37 : decode cX11_hear 37 = .ok (.bipush (-5), 2) := by decide +kernel
theorem dX11_hear_39 : decode cX11_hear 39 = .ok (.invokevirtual 168, 3) := by decide +kernel
theorem dX11_hear_42 : decode cX11_hear 42 = .ok (.ireturn, 1) := by decide +kernel
theorem dX11_hear_43 : decode cX11_hear 43 = .ok (.aload_n 0, 1) := by decide +kernel
theorem dX11_hear_44 : decode cX11_hear 44 = .ok (.getfield 13, 3) := by decide +kernel
theorem dX11_hear_47 : decode cX11_hear 47 = .ok (.bipush 70, 2) := by decide +kernel
theorem dX11_hear_49 : decode cX11_hear 49 = .ok (.iload_n 2, 1) := by decide +kernel
theorem dX11_hear_50 : decode cX11_hear 50 = .ok (.iadd, 1) := by decide +kernel
theorem dX11_hear_51 : decode cX11_hear 51 = .ok (.iload_n 1, 1) := by decide +kernel
theorem dX11_hear_52 : decode cX11_hear 52 = .ok (.iastore, 1) := by decide +kernel
theorem dX11_hear_53 : decode cX11_hear 53 = .ok (.aload_n 0, 1) := by decide +kernel
theorem dX11_hear_54 : decode cX11_hear 54 = .ok (.getfield 13, 3) := by decide +kernel
theorem dX11_hear_57 : decode cX11_hear 57 = .ok (.iconst 2, 1) := by decide +kernel
theorem dX11_hear_58 : decode cX11_hear 58 = .ok (.dup2, 1) := by decide +kernel
theorem dX11_hear_59 : decode cX11_hear 59 = .ok (.iaload, 1) := by decide +kernel
theorem dX11_hear_60 : decode cX11_hear 60 = .ok (.iconst 1, 1) := by decide +kernel
theorem dX11_hear_61 : decode cX11_hear 61 = .ok (.iadd, 1) := by decide +kernel
theorem dX11_hear_62 : decode cX11_hear 62 = .ok (.iastore, 1) := by decide +kernel
theorem dX11_hear_63 : decode cX11_hear 63 = .ok (.aload_n 0, 1) := by decide +kernel
theorem dX11_hear_64 : decode cX11_hear 64 = .ok (.iload_n 2, 1) := by decide +kernel
theorem dX11_hear_65 : decode cX11_hear 65 = .ok (.iconst 1, 1) := by decide +kernel
theorem dX11_hear_66 : decode cX11_hear 66 = .ok (.iadd, 1) := by decide +kernel
theorem dX11_hear_67 : decode cX11_hear 67 = .ok (.invokevirtual 168, 3) := by decide +kernel
theorem dX11_hear_70 : decode cX11_hear 70 = .ok (.ireturn, 1) := by decide +kernel
theorem dX11_forget_0 : decode cX11_forget 0 = .ok (.aload_n 0, 1) := by decide +kernel
theorem dX11_forget_1 : decode cX11_forget 1 = .ok (.iconst 0, 1) := by decide +kernel
theorem dX11_forget_2 : decode cX11_forget 2 = .ok (.putfield 159, 3) := by decide +kernel
theorem dX11_forget_5 : decode cX11_forget 5 = .ok (.aload_n 0, 1) := by decide +kernel
theorem dX11_forget_6 : decode cX11_forget 6 = .ok (.getfield 13, 3) := by decide +kernel
theorem dX11_forget_9 : decode cX11_forget 9 = .ok (.iconst 2, 1) := by decide +kernel
theorem dX11_forget_10 : decode cX11_forget 10 = .ok (.iaload, 1) := by decide +kernel
theorem dX11_forget_11 : decode cX11_forget 11 = .ok (.istore_n 1, 1) := by decide +kernel
theorem dX11_forget_12 : decode cX11_forget 12 = .ok (.aload_n 0, 1) := by decide +kernel
theorem dX11_forget_13 : decode cX11_forget 13 = .ok (.getfield 13, 3) := by decide +kernel
theorem dX11_forget_16 : decode cX11_forget 16 = .ok (.iconst 2, 1) := by decide +kernel
theorem dX11_forget_17 : decode cX11_forget 17 = .ok (.iconst 0, 1) := by decide +kernel
theorem dX11_forget_18 : decode cX11_forget 18 = .ok (.iastore, 1) := by decide +kernel
theorem dX11_forget_19 : decode cX11_forget 19 = .ok (.iload_n 1, 1) := by decide +kernel
theorem dX11_forget_20 : decode cX11_forget 20 = .ok (.ireturn, 1) := by decide +kernel
theorem dX11_goneFrom_0 : decode cX11_goneFrom 0 = .ok (.iconst 0, 1) := by decide +kernel
theorem dX11_goneFrom_1 : decode cX11_goneFrom 1 = .ok (.istore_n 2, 1) := by decide +kernel
theorem dX11_goneFrom_2 : decode cX11_goneFrom 2 = .ok (.iload_n 2, 1) := by decide +kernel
theorem dX11_goneFrom_3 : decode cX11_goneFrom 3 = .ok (.bipush 8, 2) := by decide +kernel
theorem dX11_goneFrom_5 : decode cX11_goneFrom 5 = .ok (.if_icmp .ge 25, 3) := by decide +kernel
theorem dX11_goneFrom_8 : decode cX11_goneFrom 8 = .ok (.aload_n 0, 1) := by decide +kernel
theorem dX11_goneFrom_9 : decode cX11_goneFrom 9 = .ok (.getfield 118, 3) := by decide +kernel
theorem dX11_goneFrom_12 : decode cX11_goneFrom 12 = .ok (.iload_n 2, 1) := by decide +kernel
theorem dX11_goneFrom_13 : decode cX11_goneFrom 13 = .ok (.iload_n 2, 1) := by decide +kernel
theorem dX11_goneFrom_14 : decode cX11_goneFrom 14 = .ok (.iload_n 1, 1) := by decide +kernel
theorem dX11_goneFrom_15 : decode cX11_goneFrom 15 = .ok (.if_icmp .ne 7, 3) := by decide +kernel
theorem dX11_goneFrom_18 : decode cX11_goneFrom 18 = .ok (.iconst 1, 1) := by decide +kernel
theorem dX11_goneFrom_19 : decode cX11_goneFrom 19 = .ok (.goto 4, 3) := by decide +kernel
theorem dX11_goneFrom_22 : decode cX11_goneFrom 22 = .ok (.iconst 0, 1) := by decide +kernel
theorem dX11_goneFrom_23 : decode cX11_goneFrom 23 = .ok (.iastore, 1) := by decide +kernel
theorem dX11_goneFrom_24 : decode cX11_goneFrom 24 = .ok (.iinc 2 1, 3) := by decide +kernel
theorem dX11_goneFrom_27 : decode cX11_goneFrom 27 = .ok (.goto (-25), 3) := by decide +kernel
theorem dX11_goneFrom_30 : decode cX11_goneFrom 30 = .ok (.iconst 0, 1) := by decide +kernel
theorem dX11_goneFrom_31 : decode cX11_goneFrom 31 = .ok (.istore_n 2, 1) := by decide +kernel
theorem dX11_goneFrom_32 : decode cX11_goneFrom 32 = .ok (.iload_n 2, 1) := by decide +kernel
theorem dX11_goneFrom_33 : decode cX11_goneFrom 33 = .ok (.aload_n 0, 1) := by decide +kernel
theorem dX11_goneFrom_34 : decode cX11_goneFrom 34 = .ok (.getfield 13, 3) := by decide +kernel
theorem dX11_goneFrom_37 : decode cX11_goneFrom 37 = .ok (.iconst 2, 1) := by decide +kernel
theorem dX11_goneFrom_38 : decode cX11_goneFrom 38 = .ok (.iaload, 1) := by decide +kernel
theorem dX11_goneFrom_39 : decode cX11_goneFrom 39 = .ok (.if_icmp .ge 157, 3) := by decide +kernel
theorem dX11_goneFrom_42 : decode cX11_goneFrom 42 = .ok (.iconst 0, 1) := by decide +kernel
theorem dX11_goneFrom_43 : decode cX11_goneFrom 43 = .ok (.istore_n 3, 1) := by decide +kernel
theorem dX11_goneFrom_44 : decode cX11_goneFrom 44 = .ok (.iload_n 3, 1) := by decide +kernel
theorem dX11_goneFrom_45 : decode cX11_goneFrom 45 = .ok (.bipush 8, 2) := by decide +kernel
theorem dX11_goneFrom_47 : decode cX11_goneFrom 47 = .ok (.if_icmp .ge 16, 3) := by decide +kernel
theorem dX11_goneFrom_50 : decode cX11_goneFrom 50 = .ok (.aload_n 0, 1) := by decide +kernel
theorem dX11_goneFrom_51 : decode cX11_goneFrom 51 = .ok (.getfield 121, 3) := by decide +kernel
theorem dX11_goneFrom_54 : decode cX11_goneFrom 54 = .ok (.iload_n 3, 1) := by decide +kernel
theorem dX11_goneFrom_55 : decode cX11_goneFrom 55 = .ok (.iconst 0, 1) := by decide +kernel
theorem dX11_goneFrom_56 : decode cX11_goneFrom 56 = .ok (.iastore, 1) := by decide +kernel
theorem dX11_goneFrom_57 : decode cX11_goneFrom 57 = .ok (.iinc 3 1, 3) := by decide +kernel
theorem dX11_goneFrom_60 : decode cX11_goneFrom 60 = .ok (.goto (-16), 3) := by decide +kernel
theorem dX11_goneFrom_63 : decode cX11_goneFrom 63 = .ok (.iconst 0, 1) := by decide +kernel
theorem dX11_goneFrom_64 : decode cX11_goneFrom 64 = .ok (.istore_n 3, 1) := by decide +kernel
theorem dX11_goneFrom_65 : decode cX11_goneFrom 65 = .ok (.iload_n 3, 1) := by decide +kernel
theorem dX11_goneFrom_66 : decode cX11_goneFrom 66 = .ok (.aload_n 0, 1) := by decide +kernel
theorem dX11_goneFrom_67 : decode cX11_goneFrom 67 = .ok (.getfield 13, 3) := by decide +kernel
theorem dX11_goneFrom_70 : decode cX11_goneFrom 70 = .ok (.iconst 0, 1) := by decide +kernel
theorem dX11_goneFrom_71 : decode cX11_goneFrom 71 = .ok (.iaload, 1) := by decide +kernel
theorem dX11_goneFrom_72 : decode cX11_goneFrom 72 = .ok (.if_icmp .ge 92, 3) := by decide +kernel
theorem dX11_goneFrom_75 : decode cX11_goneFrom 75 = .ok (.aload_n 0, 1) := by decide +kernel
theorem dX11_goneFrom_76 : decode cX11_goneFrom 76 = .ok (.getfield 13, 3) := by decide +kernel
theorem dX11_goneFrom_79 : decode cX11_goneFrom 79 = .ok (.bipush 8, 2) := by decide +kernel
theorem dX11_goneFrom_81 : decode cX11_goneFrom 81 = .ok (.iload_n 3, 1) := by decide +kernel
theorem dX11_goneFrom_82 : decode cX11_goneFrom 82 = .ok (.iadd, 1) := by decide +kernel
theorem dX11_goneFrom_83 : decode cX11_goneFrom 83 = .ok (.iaload, 1) := by decide +kernel
theorem dX11_goneFrom_84 : decode cX11_goneFrom 84 = .ok (.aload_n 0, 1) := by decide +kernel
theorem dX11_goneFrom_85 : decode cX11_goneFrom 85 = .ok (.getfield 13, 3) := by decide +kernel
theorem dX11_goneFrom_88 : decode cX11_goneFrom 88 = .ok (.bipush 70, 2) := by decide +kernel
theorem dX11_goneFrom_90 : decode cX11_goneFrom 90 = .ok (.iload_n 2, 1) := by decide +kernel
theorem dX11_goneFrom_91 : decode cX11_goneFrom 91 = .ok (.iadd, 1) := by decide +kernel
theorem dX11_goneFrom_92 : decode cX11_goneFrom 92 = .ok (.iaload, 1) := by decide +kernel
theorem dX11_goneFrom_93 : decode cX11_goneFrom 93 = .ok (.if_icmp .ne 65, 3) := by decide +kernel
theorem dX11_goneFrom_96 : decode cX11_goneFrom 96 = .ok (.aload_n 0, 1) := by decide +kernel
theorem dX11_goneFrom_97 : decode cX11_goneFrom 97 = .ok (.getfield 121, 3) := by decide +kernel
theorem dX11_goneFrom_100 : decode cX11_goneFrom 100 = .ok (.aload_n 0, 1) := by decide +kernel
theorem dX11_goneFrom_101 : decode cX11_goneFrom 101 = .ok (.getfield 13, 3) := by decide +kernel
theorem dX11_goneFrom_104 : decode cX11_goneFrom 104 = .ok (.bipush 36, 2) := by decide +kernel
theorem dX11_goneFrom_106 : decode cX11_goneFrom 106 = .ok (.iload_n 3, 1) := by decide +kernel
theorem dX11_goneFrom_107 : decode cX11_goneFrom 107 = .ok (.iadd, 1) := by decide +kernel
theorem dX11_goneFrom_108 : decode cX11_goneFrom 108 = .ok (.iaload, 1) := by decide +kernel
theorem dX11_goneFrom_109 : decode cX11_goneFrom 109 = .ok (.dup2, 1) := by decide +kernel
theorem dX11_goneFrom_110 : decode cX11_goneFrom 110 = .ok (.iaload, 1) := by decide +kernel
theorem dX11_goneFrom_111 : decode cX11_goneFrom 111 = .ok (.aload_n 0, 1) := by decide +kernel
theorem dX11_goneFrom_112 : decode cX11_goneFrom 112 = .ok (.getfield 118, 3) := by decide +kernel
theorem dX11_goneFrom_115 : decode cX11_goneFrom 115 = .ok (.aload_n 0, 1) := by decide +kernel
theorem dX11_goneFrom_116 : decode cX11_goneFrom 116 = .ok (.getfield 13, 3) := by decide +kernel
theorem dX11_goneFrom_119 : decode cX11_goneFrom 119 = .ok (.bipush 26, 2) := by decide +kernel
theorem dX11_goneFrom_121 : decode cX11_goneFrom 121 = .ok (.iload_n 3, 1) := by decide +kernel
theorem dX11_goneFrom_122 : decode cX11_goneFrom 122 = .ok (.iadd, 1) := by decide +kernel
theorem dX11_goneFrom_123 : decode cX11_goneFrom 123 = .ok (.iaload, 1) := by decide +kernel
theorem dX11_goneFrom_124 : decode cX11_goneFrom 124 = .ok (.iaload, 1) := by decide +kernel
theorem dX11_goneFrom_125 : decode cX11_goneFrom 125 = .ok (.iadd, 1) := by decide +kernel
theorem dX11_goneFrom_126 : decode cX11_goneFrom 126 = .ok (.iastore, 1) := by decide +kernel
theorem dX11_goneFrom_127 : decode cX11_goneFrom 127 = .ok (.aload_n 0, 1) := by decide +kernel
theorem dX11_goneFrom_128 : decode cX11_goneFrom 128 = .ok (.getfield 121, 3) := by decide +kernel
theorem dX11_goneFrom_131 : decode cX11_goneFrom 131 = .ok (.aload_n 0, 1) := by decide +kernel
theorem dX11_goneFrom_132 : decode cX11_goneFrom 132 = .ok (.getfield 13, 3) := by decide +kernel
theorem dX11_goneFrom_135 : decode cX11_goneFrom 135 = .ok (.bipush 26, 2) := by decide +kernel
theorem dX11_goneFrom_137 : decode cX11_goneFrom 137 = .ok (.iload_n 3, 1) := by decide +kernel
theorem dX11_goneFrom_138 : decode cX11_goneFrom 138 = .ok (.iadd, 1) := by decide +kernel
theorem dX11_goneFrom_139 : decode cX11_goneFrom 139 = .ok (.iaload, 1) := by decide +kernel
theorem dX11_goneFrom_140 : decode cX11_goneFrom 140 = .ok (.dup2, 1) := by decide +kernel
theorem dX11_goneFrom_141 : decode cX11_goneFrom 141 = .ok (.iaload, 1) := by decide +kernel
theorem dX11_goneFrom_142 : decode cX11_goneFrom 142 = .ok (.aload_n 0, 1) := by decide +kernel
theorem dX11_goneFrom_143 : decode cX11_goneFrom 143 = .ok (.getfield 118, 3) := by decide +kernel
theorem dX11_goneFrom_146 : decode cX11_goneFrom 146 = .ok (.aload_n 0, 1) := by decide +kernel
theorem dX11_goneFrom_147 : decode cX11_goneFrom 147 = .ok (.getfield 13, 3) := by decide +kernel
theorem dX11_goneFrom_150 : decode cX11_goneFrom 150 = .ok (.bipush 36, 2) := by decide +kernel
theorem dX11_goneFrom_152 : decode cX11_goneFrom 152 = .ok (.iload_n 3, 1) := by decide +kernel
theorem dX11_goneFrom_153 : decode cX11_goneFrom 153 = .ok (.iadd, 1) := by decide +kernel
theorem dX11_goneFrom_154 : decode cX11_goneFrom 154 = .ok (.iaload, 1) := by decide +kernel
theorem dX11_goneFrom_155 : decode cX11_goneFrom 155 = .ok (.iaload, 1) := by decide +kernel
theorem dX11_goneFrom_156 : decode cX11_goneFrom 156 = .ok (.iadd, 1) := by decide +kernel
theorem dX11_goneFrom_157 : decode cX11_goneFrom 157 = .ok (.iastore, 1) := by decide +kernel
theorem dX11_goneFrom_158 : decode cX11_goneFrom 158 = .ok (.iinc 3 1, 3) := by decide +kernel
theorem dX11_goneFrom_161 : decode cX11_goneFrom 161 = .ok (.goto (-96), 3) := by decide +kernel
theorem dX11_goneFrom_164 : decode cX11_goneFrom 164 = .ok (.iconst 0, 1) := by decide +kernel
theorem dX11_goneFrom_165 : decode cX11_goneFrom 165 = .ok (.istore_n 3, 1) := by decide +kernel
theorem dX11_goneFrom_166 : decode cX11_goneFrom 166 = .ok (.iload_n 3, 1) := by decide +kernel
theorem dX11_goneFrom_167 : decode cX11_goneFrom 167 = .ok (.bipush 8, 2) := by decide +kernel
theorem dX11_goneFrom_169 : decode cX11_goneFrom 169 = .ok (.if_icmp .ge 21, 3) := by decide +kernel
theorem dX11_goneFrom_172 : decode cX11_goneFrom 172 = .ok (.aload_n 0, 1) := by decide +kernel
theorem dX11_goneFrom_173 : decode cX11_goneFrom 173 = .ok (.getfield 118, 3) := by decide +kernel
theorem dX11_goneFrom_176 : decode cX11_goneFrom 176 = .ok (.iload_n 3, 1) := by decide +kernel
theorem dX11_goneFrom_177 : decode cX11_goneFrom 177 = .ok (.aload_n 0, 1) := by decide +kernel
theorem dX11_goneFrom_178 : decode cX11_goneFrom 178 = .ok (.getfield 121, 3) := by decide +kernel
theorem dX11_goneFrom_181 : decode cX11_goneFrom 181 = .ok (.iload_n 3, 1) := by decide +kernel
theorem dX11_goneFrom_182 : decode cX11_goneFrom 182 = .ok (.iaload, 1) := by decide +kernel
theorem dX11_goneFrom_183 : decode cX11_goneFrom 183 = .ok (.iastore, 1) := by decide +kernel
theorem dX11_goneFrom_184 : decode cX11_goneFrom 184 = .ok (.iinc 3 1, 3) := by decide +kernel
theorem dX11_goneFrom_187 : decode cX11_goneFrom 187 = .ok (.goto (-21), 3) := by decide +kernel
theorem dX11_goneFrom_190 : decode cX11_goneFrom 190 = .ok (.iinc 2 1, 3) := by decide +kernel
theorem dX11_goneFrom_193 : decode cX11_goneFrom 193 = .ok (.goto (-161), 3) := by decide +kernel
theorem dX11_goneFrom_196 : decode cX11_goneFrom 196 = .ok (.iconst 0, 1) := by decide +kernel
theorem dX11_goneFrom_197 : decode cX11_goneFrom 197 = .ok (.istore_n 2, 1) := by decide +kernel
theorem dX11_goneFrom_198 : decode cX11_goneFrom 198 = .ok (.iconst 0, 1) := by decide +kernel
theorem dX11_goneFrom_199 : decode cX11_goneFrom 199 = .ok (.istore_n 3, 1) := by decide +kernel
theorem dX11_goneFrom_200 : decode cX11_goneFrom 200 = .ok (.iload_n 3, 1) := by decide +kernel
theorem dX11_goneFrom_201 : decode cX11_goneFrom 201 = .ok (.bipush 8, 2) := by decide +kernel
theorem dX11_goneFrom_203 : decode cX11_goneFrom 203 = .ok (.if_icmp .ge 18, 3) := by decide +kernel
theorem dX11_goneFrom_206 : decode cX11_goneFrom 206 = .ok (.iload_n 2, 1) := by decide +kernel
theorem dX11_goneFrom_207 : decode cX11_goneFrom 207 = .ok (.aload_n 0, 1) := by decide +kernel
theorem dX11_goneFrom_208 : decode cX11_goneFrom 208 = .ok (.getfield 118, 3) := by decide +kernel
theorem dX11_goneFrom_211 : decode cX11_goneFrom 211 = .ok (.iload_n 3, 1) := by decide +kernel
theorem dX11_goneFrom_212 : decode cX11_goneFrom 212 = .ok (.iaload, 1) := by decide +kernel
theorem dX11_goneFrom_213 : decode cX11_goneFrom 213 = .ok (.iadd, 1) := by decide +kernel
theorem dX11_goneFrom_214 : decode cX11_goneFrom 214 = .ok (.istore_n 2, 1) := by decide +kernel
theorem dX11_goneFrom_215 : decode cX11_goneFrom 215 = .ok (.iinc 3 1, 3) := by decide +kernel
theorem dX11_goneFrom_218 : decode cX11_goneFrom 218 = .ok (.goto (-18), 3) := by decide +kernel
theorem dX11_goneFrom_221 : decode cX11_goneFrom 221 = .ok (.iload_n 2, 1) := by decide +kernel
theorem dX11_goneFrom_222 : decode cX11_goneFrom 222 = .ok (.ireturn, 1) := by decide +kernel
theorem dX11_gone_0 : decode cX11_gone 0 = .ok (.aload_n 0, 1) := by decide +kernel
theorem dX11_gone_1 : decode cX11_gone 1 = .ok (.iconst 0, 1) := by decide +kernel
theorem dX11_gone_2 : decode cX11_gone 2 = .ok (.putfield 159, 3) := by decide +kernel
theorem dX11_gone_5 : decode cX11_gone 5 = .ok (.iload_n 1, 1) := by decide +kernel
theorem dX11_gone_6 : decode cX11_gone 6 = .ok (.i2l, 1) := by decide +kernel
theorem dX11_gone_7 : decode cX11_gone 7 = .ok (.lconst 0, 1) := by decide +kernel
theorem dX11_gone_8 : decode cX11_gone 8 = .ok (.ldc2_w 485, 3) := by decide +kernel
theorem dX11_gone_11 : decode cX11_gone 11 = .ok (.invokestatic 179, 3) := by decide +kernel
theorem dX11_gone_14 : decode cX11_gone 14 = .ok (.ifCond .ne 5, 3) := by decide +kernel
theorem dX11_gone_17 : decode cX11_gone 17 = .ok (.iconst (-1), 1) := by decide +kernel
theorem dX11_gone_18 : decode cX11_gone 18 = .ok (.ireturn, 1) := by decide +kernel
theorem dX11_gone_19 : decode cX11_gone 19 = .ok (.iconst 0, 1) := by decide +kernel
theorem dX11_gone_20 : decode cX11_gone 20 = .ok (.istore_n 2, 1) := by decide +kernel
theorem dX11_gone_21 : decode cX11_gone 21 = .ok (.iconst 0, 1) := by decide +kernel
theorem dX11_gone_22 : decode cX11_gone 22 = .ok (.istore_n 3, 1) := by decide +kernel
theorem dX11_gone_23 : decode cX11_gone 23 = .ok (.iconst 0, 1) := by decide +kernel
theorem dX11_gone_24 : decode cX11_gone 24 = .ok (.istore 4, 2) := by decide +kernel
theorem dX11_gone_26 : decode cX11_gone 26 = .ok (.iconst 0, 1) := by decide +kernel
theorem dX11_gone_27 : decode cX11_gone 27 = .ok (.istore 5, 2) := by decide +kernel
theorem dX11_gone_29 : decode cX11_gone 29 = .ok (.iload 5, 2) := by decide +kernel
theorem dX11_gone_31 : decode cX11_gone 31 = .ok (.bipush 8, 2) := by decide +kernel
theorem dX11_gone_33 : decode cX11_gone 33 = .ok (.if_icmp .ge 77, 3) := by decide +kernel
theorem dX11_gone_36 : decode cX11_gone 36 = .ok (.aload_n 0, 1) := by decide +kernel
theorem dX11_gone_37 : decode cX11_gone 37 = .ok (.iload 5, 2) := by decide +kernel
theorem dX11_gone_39 : decode cX11_gone 39 = .ok (.invokevirtual 487, 3) := by decide +kernel
theorem dX11_gone_42 : decode cX11_gone 42 = .ok (.istore 6, 2) := by decide +kernel
theorem dX11_gone_44 : decode cX11_gone 44 = .ok (.iload_n 2, 1) := by decide +kernel
theorem dX11_gone_45 : decode cX11_gone 45 = .ok (.iload 6, 2) := by decide +kernel
theorem dX11_gone_47 : decode cX11_gone 47 = .ok (.iadd, 1) := by decide +kernel
theorem dX11_gone_48 : decode cX11_gone 48 = .ok (.istore_n 2, 1) := by decide +kernel
theorem dX11_gone_49 : decode cX11_gone 49 = .ok (.iload_n 3, 1) := by decide +kernel
theorem dX11_gone_50 : decode cX11_gone 50 = .ok (.iload 6, 2) := by decide +kernel
theorem dX11_gone_52 : decode cX11_gone 52 = .ok (.ifCond .le 10, 3) := by decide +kernel
theorem dX11_gone_55 : decode cX11_gone 55 = .ok (.iconst 1, 1) := by decide +kernel
theorem dX11_gone_56 : decode cX11_gone 56 = .ok (.iload 5, 2) := by decide +kernel
theorem dX11_gone_58 : decode cX11_gone 58 = .ok (.ishl, 1) := by decide +kernel
theorem dX11_gone_59 : decode cX11_gone 59 = .ok (.goto 4, 3) := by decide +kernel
theorem dX11_gone_62 : decode cX11_gone 62 = .ok (.iconst 0, 1) := by decide +kernel
theorem dX11_gone_63 : decode cX11_gone 63 = .ok (.ior, 1) := by decide +kernel
theorem dX11_gone_64 : decode cX11_gone 64 = .ok (.istore_n 3, 1) := by decide +kernel
theorem dX11_gone_65 : decode cX11_gone 65 = .ok (.iconst 0, 1) := by decide +kernel
theorem dX11_gone_66 : decode cX11_gone 66 = .ok (.istore 7, 2) := by decide +kernel
theorem dX11_gone_68 : decode cX11_gone 68 = .ok (.iload 7, 2) := by decide +kernel
theorem dX11_gone_70 : decode cX11_gone 70 = .ok (.bipush 8, 2) := by decide +kernel
theorem dX11_gone_72 : decode cX11_gone 72 = .ok (.if_icmp .ge 32, 3) := by decide +kernel
theorem dX11_gone_75 : decode cX11_gone 75 = .ok (.iload 4, 2) := by decide +kernel
theorem dX11_gone_77 : decode cX11_gone 77 = .ok (.aload_n 0, 1) := by decide +kernel
theorem dX11_gone_78 : decode cX11_gone 78 = .ok (.getfield 118, 3) := by decide +kernel
theorem dX11_gone_81 : decode cX11_gone 81 = .ok (.iload 7, 2) := by decide +kernel
theorem dX11_gone_83 : decode cX11_gone 83 = .ok (.iaload, 1) := by decide +kernel
theorem dX11_gone_84 : decode cX11_gone 84 = .ok (.ifCond .le 10, 3) := by decide +kernel
theorem dX11_gone_87 : decode cX11_gone 87 = .ok (.iconst 1, 1) := by decide +kernel
theorem dX11_gone_88 : decode cX11_gone 88 = .ok (.iload 7, 2) := by decide +kernel
theorem dX11_gone_90 : decode cX11_gone 90 = .ok (.ishl, 1) := by decide +kernel
theorem dX11_gone_91 : decode cX11_gone 91 = .ok (.goto 4, 3) := by decide +kernel
theorem dX11_gone_94 : decode cX11_gone 94 = .ok (.iconst 0, 1) := by decide +kernel
theorem dX11_gone_95 : decode cX11_gone 95 = .ok (.ior, 1) := by decide +kernel
theorem dX11_gone_96 : decode cX11_gone 96 = .ok (.istore 4, 2) := by decide +kernel
theorem dX11_gone_98 : decode cX11_gone 98 = .ok (.iinc 7 1, 3) := by decide +kernel
theorem dX11_gone_101 : decode cX11_gone 101 = .ok (.goto (-33), 3) := by decide +kernel
theorem dX11_gone_104 : decode cX11_gone 104 = .ok (.iinc 5 1, 3) := by decide +kernel
theorem dX11_gone_107 : decode cX11_gone 107 = .ok (.goto (-78), 3) := by decide +kernel
theorem dX11_gone_110 : decode cX11_gone 110 = .ok (.iload_n 1, 1) := by decide +kernel
theorem dX11_gone_111 : decode cX11_gone 111 = .ok (.ifCond .ne 7, 3) := by decide +kernel
theorem dX11_gone_114 : decode cX11_gone 114 = .ok (.iload_n 2, 1) := by decide +kernel
theorem dX11_gone_115 : decode cX11_gone 115 = .ok (.goto 14, 3) := by decide +kernel
theorem dX11_gone_118 : decode cX11_gone 118 = .ok (.iload_n 1, 1) := by decide +kernel
theorem dX11_gone_119 : decode cX11_gone 119 = .ok (.iconst 1, 1) := by decide +kernel
theorem dX11_gone_120 : decode cX11_gone 120 = .ok (.if_icmp .ne 7, 3) := by decide +kernel
theorem dX11_gone_123 : decode cX11_gone 123 = .ok (.iload_n 3, 1) := by decide +kernel
theorem dX11_gone_124 : decode cX11_gone 124 = .ok (.goto 5, 3) := by decide +kernel
theorem dX11_gone_127 : decode cX11_gone 127 = .ok (.iload 4, 2) := by decide +kernel
theorem dX11_gone_129 : decode cX11_gone 129 = .ok (.ireturn, 1) := by decide +kernel
theorem dX11_named_0 : decode cX11_named 0 = .ok (.aload_n 0, 1) := by decide +kernel
theorem dX11_named_1 : decode cX11_named 1 = .ok (.iconst 0, 1) := by decide +kernel
theorem dX11_named_2 : decode cX11_named 2 = .ok (.putfield 159, 3) := by decide +kernel
theorem dX11_named_5 : decode cX11_named 5 = .ok (.iconst (-1), 1) := by decide +kernel
theorem dX11_named_6 : decode cX11_named 6 = .ok (.istore_n 2, 1) := by decide +kernel
theorem dX11_named_7 : decode cX11_named 7 = .ok (.aload_n 0, 1) := by decide +kernel
theorem dX11_named_8 : decode cX11_named 8 = .ok (.getfield 13, 3) := by decide +kernel
theorem dX11_named_11 : decode cX11_named 11 = .ok (.iconst 0, 1) := by decide +kernel
theorem dX11_named_12 : decode cX11_named 12 = .ok (.iaload, 1) := by decide +kernel
theorem dX11_named_13 : decode cX11_named 13 = .ok (.iconst 1, 1) := by decide +kernel
theorem dX11_named_14 : decode cX11_named 14 = .ok (.isub, 1) := by decide +kernel
theorem dX11_named_15 : decode cX11_named 15 = .ok (.istore_n 3, 1) := by decide +kernel
theorem dX11_named_16 : decode cX11_named 16 = .ok (.iload_n 3, 1) := by decide +kernel
theorem dX11_named_17 : decode cX11_named 17 = .ok (.ifCond .lt 40, 3) := by decide +kernel
theorem dX11_named_20 : decode cX11_named 20 = .ok (.iload_n 1, 1) := by decide +kernel
theorem dX11_named_21 : decode cX11_named 21 = .ok (.i2l, 1) := by decide +kernel
theorem dX11_named_22 : decode cX11_named 22 = .ok (.lconst 0, 1) := by decide +kernel
theorem dX11_named_23 : decode cX11_named 23 = .ok (.ldc2_w 483, 3) := by decide +kernel
theorem dX11_named_26 : decode cX11_named 26 = .ok (.invokestatic 179, 3) := by decide +kernel
theorem dX11_named_29 : decode cX11_named 29 = .ok (.ifCond .eq 20, 3) := by decide +kernel
theorem dX11_named_32 : decode cX11_named 32 = .ok (.aload_n 0, 1) := by decide +kernel
theorem dX11_named_33 : decode cX11_named 33 = .ok (.getfield 13, 3) := by decide +kernel
theorem dX11_named_36 : decode cX11_named 36 = .ok (.bipush 8, 2) := by decide +kernel
theorem dX11_named_38 : decode cX11_named 38 = .ok (.iload_n 3, 1) := by decide +kernel
theorem dX11_named_39 : decode cX11_named 39 = .ok (.iadd, 1) := by decide +kernel
theorem dX11_named_40 : decode cX11_named 40 = .ok (.iaload, 1) := by decide +kernel
theorem dX11_named_41 : decode cX11_named 41 = .ok (.iload_n 1, 1) := by decide +kernel
theorem dX11_named_42 : decode cX11_named 42 = .ok (.if_icmp .ne 7, 3) := by decide +kernel
theorem dX11_named_45 : decode cX11_named 45 = .ok (.iload_n 3, 1) := by decide +kernel
theorem dX11_named_46 : decode cX11_named 46 = .ok (.goto 4, 3) := by decide +kernel
theorem dX11_named_49 : decode cX11_named 49 = .ok (.iload_n 2, 1) := by decide +kernel
theorem dX11_named_50 : decode cX11_named 50 = .ok (.istore_n 2, 1) := by decide +kernel
theorem dX11_named_51 : decode cX11_named 51 = .ok (.iinc 3 (-1), 3) := by decide +kernel
theorem dX11_named_54 : decode cX11_named 54 = .ok (.goto (-38), 3) := by decide +kernel
theorem dX11_named_57 : decode cX11_named 57 = .ok (.iload_n 2, 1) := by decide +kernel
theorem dX11_named_58 : decode cX11_named 58 = .ok (.ireturn, 1) := by decide +kernel
theorem dX11_nearEnd_0 : decode cX11_nearEnd 0 = .ok (.aload_n 0, 1) := by decide +kernel
theorem dX11_nearEnd_1 : decode cX11_nearEnd 1 = .ok (.getfield 13, 3) := by decide +kernel
theorem dX11_nearEnd_4 : decode cX11_nearEnd 4 = .ok (.bipush 26, 2) := by decide +kernel
theorem dX11_nearEnd_6 : decode cX11_nearEnd 6 = .ok (.iload_n 2, 1) := by decide +kernel
theorem dX11_nearEnd_7 : decode cX11_nearEnd 7 = .ok (.iadd, 1) := by decide +kernel
theorem dX11_nearEnd_8 : decode cX11_nearEnd 8 = .ok (.iaload, 1) := by decide +kernel
theorem dX11_nearEnd_9 : decode cX11_nearEnd 9 = .ok (.istore_n 3, 1) := by decide +kernel
theorem dX11_nearEnd_10 : decode cX11_nearEnd 10 = .ok (.aload_n 0, 1) := by decide +kernel
theorem dX11_nearEnd_11 : decode cX11_nearEnd 11 = .ok (.getfield 13, 3) := by decide +kernel
theorem dX11_nearEnd_14 : decode cX11_nearEnd 14 = .ok (.bipush 36, 2) := by decide +kernel
theorem dX11_nearEnd_16 : decode cX11_nearEnd 16 = .ok (.iload_n 2, 1) := by decide +kernel
theorem dX11_nearEnd_17 : decode cX11_nearEnd 17 = .ok (.iadd, 1) := by decide +kernel
theorem dX11_nearEnd_18 : decode cX11_nearEnd 18 = .ok (.iaload, 1) := by decide +kernel
theorem dX11_nearEnd_19 : decode cX11_nearEnd 19 = .ok (.istore 4, 2) := by decide +kernel
theorem dX11_nearEnd_21 : decode cX11_nearEnd 21 = .ok (.aload_n 0, 1) := by decide +kernel
theorem dX11_nearEnd_22 : decode cX11_nearEnd 22 = .ok (.iload_n 1, 1) := by decide +kernel
theorem dX11_nearEnd_23 : decode cX11_nearEnd 23 = .ok (.iload_n 3, 1) := by decide +kernel
theorem dX11_nearEnd_24 : decode cX11_nearEnd 24 = .ok (.invokevirtual 463, 3) := by decide +kernel
theorem dX11_nearEnd_27 : decode cX11_nearEnd 27 = .ok (.aload_n 0, 1) := by decide +kernel
theorem dX11_nearEnd_28 : decode cX11_nearEnd 28 = .ok (.iload_n 1, 1) := by decide +kernel
theorem dX11_nearEnd_29 : decode cX11_nearEnd 29 = .ok (.iload 4, 2) := by decide +kernel
theorem dX11_nearEnd_31 : decode cX11_nearEnd 31 = .ok (.invokevirtual 463, 3) := by decide +kernel
theorem dX11_nearEnd_34 : decode cX11_nearEnd 34 = .ok (.isub, 1) := by decide +kernel
theorem dX11_nearEnd_35 : decode cX11_nearEnd 35 = .ok (.istore 5, 2) := by decide +kernel
theorem dX11_nearEnd_37 : decode cX11_nearEnd 37 = .ok (.iload 5, 2) := by decide +kernel
theorem dX11_nearEnd_39 : decode cX11_nearEnd 39 = .ok (.ifCond .lt 14, 3) := by decide +kernel
theorem dX11_nearEnd_42 : decode cX11_nearEnd 42 = .ok (.iload 5, 2) := by decide +kernel
theorem dX11_nearEnd_44 : decode cX11_nearEnd 44 = .ok (.ifCond .ne 13, 3) := by decide +kernel
theorem dX11_nearEnd_47 : decode cX11_nearEnd 47 = .ok (.iload_n 3, 1) := by decide +kernel
theorem dX11_nearEnd_48 : decode cX11_nearEnd 48 = .ok (.iload 4, 2) := by decide +kernel
theorem dX11_nearEnd_50 : decode cX11_nearEnd 50 = .ok (.if_icmp .ge 7, 3) := by decide +kernel
theorem dX11_nearEnd_53 : decode cX11_nearEnd 53 = .ok (.iload_n 3, 1) := by decide +kernel
theorem dX11_nearEnd_54 : decode cX11_nearEnd 54 = .ok (.goto 5, 3) := by decide +kernel
theorem dX11_nearEnd_57 : decode cX11_nearEnd 57 = .ok (.iload 4, 2) := by decide +kernel
theorem dX11_nearEnd_59 : decode cX11_nearEnd 59 = .ok (.ireturn, 1) := by decide +kernel
theorem dX11_laneBetween_0 : decode cX11_laneBetween 0 = .ok (.ldc_w 459, 3) := by decide +kernel
theorem dX11_laneBetween_3 : decode cX11_laneBetween 3 = .ok (.istore_n 3, 1) := by decide +kernel
theorem dX11_laneBetween_4 : decode cX11_laneBetween 4 = .ok (.iconst 0, 1) := by decide +kernel
theorem dX11_laneBetween_5 : decode cX11_laneBetween 5 = .ok (.istore 4, 2) := by decide +kernel
theorem dX11_laneBetween_7 : decode cX11_laneBetween 7 = .ok (.iload 4, 2) := by decide +kernel
theorem dX11_laneBetween_9 : decode cX11_laneBetween 9 = .ok (.aload_n 0, 1) := by decide +kernel
theorem dX11_laneBetween_10 : decode cX11_laneBetween 10 = .ok (.getfield 13, 3) := by decide +kernel
theorem dX11_laneBetween_13 : decode cX11_laneBetween 13 = .ok (.iconst 0, 1) := by decide +kernel
theorem dX11_laneBetween_14 : decode cX11_laneBetween 14 = .ok (.iaload, 1) := by decide +kernel
theorem dX11_laneBetween_15 : decode cX11_laneBetween 15 = .ok (.if_icmp .ge 75, 3) := by decide +kernel
theorem dX11_laneBetween_18 : decode cX11_laneBetween 18 = .ok (.aload_n 0, 1) := by decide +kernel
theorem dX11_laneBetween_19 : decode cX11_laneBetween 19 = .ok (.iload 4, 2) := by decide +kernel
theorem dX11_laneBetween_21 : decode cX11_laneBetween 21 = .ok (.iload_n 1, 1) := by decide +kernel
theorem dX11_laneBetween_22 : decode cX11_laneBetween 22 = .ok (.invokevirtual 424, 3) := by decide +kernel
theorem dX11_laneBetween_25 : decode cX11_laneBetween 25 = .ok (.ifCond .eq 22, 3) := by decide +kernel
theorem dX11_laneBetween_28 : decode cX11_laneBetween 28 = .ok (.aload_n 0, 1) := by decide +kernel
theorem dX11_laneBetween_29 : decode cX11_laneBetween 29 = .ok (.iload 4, 2) := by decide +kernel
theorem dX11_laneBetween_31 : decode cX11_laneBetween 31 = .ok (.iload_n 2, 1) := by decide +kernel
theorem dX11_laneBetween_32 : decode cX11_laneBetween 32 = .ok (.invokevirtual 424, 3) := by decide +kernel
theorem dX11_laneBetween_35 : decode cX11_laneBetween 35 = .ok (.ifCond .eq 12, 3) := by decide +kernel
theorem dX11_laneBetween_38 : decode cX11_laneBetween 38 = .ok (.iload_n 1, 1) := by decide +kernel
theorem dX11_laneBetween_39 : decode cX11_laneBetween 39 = .ok (.iload_n 2, 1) := by decide +kernel
theorem dX11_laneBetween_40 : decode cX11_laneBetween 40 = .ok (.if_icmp .eq 7, 3) := by decide +kernel
theorem dX11_laneBetween_43 : decode cX11_laneBetween 43 = .ok (.iconst 1, 1) := by decide +kernel
theorem dX11_laneBetween_44 : decode cX11_laneBetween 44 = .ok (.goto 4, 3) := by decide +kernel
theorem dX11_laneBetween_47 : decode cX11_laneBetween 47 = .ok (.iconst 0, 1) := by decide +kernel
theorem dX11_laneBetween_48 : decode cX11_laneBetween 48 = .ok (.istore 5, 2) := by decide +kernel
theorem dX11_laneBetween_50 : decode cX11_laneBetween 50 = .ok (.iload 5, 2) := by decide +kernel
theorem dX11_laneBetween_52 : decode cX11_laneBetween 52 = .ok (.ifCond .eq 30, 3) := by decide +kernel
theorem dX11_laneBetween_55 : decode cX11_laneBetween 55 = .ok (.aload_n 0, 1) := by decide +kernel
theorem dX11_laneBetween_56 : decode cX11_laneBetween 56 = .ok (.getfield 13, 3) := by decide +kernel
theorem dX11_laneBetween_59 : decode cX11_laneBetween 59 = .ok (.bipush 46, 2) := by decide +kernel
theorem dX11_laneBetween_61 : decode cX11_laneBetween 61 = .ok (.iload 4, 2) := by decide +kernel
theorem dX11_laneBetween_63 : decode cX11_laneBetween 63 = .ok (.iadd, 1) := by decide +kernel
theorem dX11_laneBetween_64 : decode cX11_laneBetween 64 = .ok (.iaload, 1) := by decide +kernel
theorem dX11_laneBetween_65 : decode cX11_laneBetween 65 = .ok (.iload_n 3, 1) := by decide +kernel
theorem dX11_laneBetween_66 : decode cX11_laneBetween 66 = .ok (.if_icmp .ge 16, 3) := by decide +kernel
theorem dX11_laneBetween_69 : decode cX11_laneBetween 69 = .ok (.aload_n 0, 1) := by decide +kernel
theorem dX11_laneBetween_70 : decode cX11_laneBetween 70 = .ok (.getfield 13, 3) := by decide +kernel
theorem dX11_laneBetween_73 : decode cX11_laneBetween 73 = .ok (.bipush 46, 2) := by decide +kernel
theorem dX11_laneBetween_75 : decode cX11_laneBetween 75 = .ok (.iload 4, 2) := by decide +kernel
theorem dX11_laneBetween_77 : decode cX11_laneBetween 77 = .ok (.iadd, 1) := by decide +kernel
theorem dX11_laneBetween_78 : decode cX11_laneBetween 78 = .ok (.iaload, 1) := by decide +kernel
theorem dX11_laneBetween_79 : decode cX11_laneBetween 79 = .ok (.goto 4, 3) := by decide +kernel
theorem dX11_laneBetween_82 : decode cX11_laneBetween 82 = .ok (.iload_n 3, 1) := by decide +kernel
theorem dX11_laneBetween_83 : decode cX11_laneBetween 83 = .ok (.istore_n 3, 1) := by decide +kernel
theorem dX11_laneBetween_84 : decode cX11_laneBetween 84 = .ok (.iinc 4 1, 3) := by decide +kernel
theorem dX11_laneBetween_87 : decode cX11_laneBetween 87 = .ok (.goto (-80), 3) := by decide +kernel
theorem dX11_laneBetween_90 : decode cX11_laneBetween 90 = .ok (.iload_n 3, 1) := by decide +kernel
theorem dX11_laneBetween_91 : decode cX11_laneBetween 91 = .ok (.ireturn, 1) := by decide +kernel
theorem dX11_letter_0 : decode cX11_letter 0 = .ok (.aload_n 0, 1) := by decide +kernel
theorem dX11_letter_1 : decode cX11_letter 1 = .ok (.iconst 0, 1) := by decide +kernel
theorem dX11_letter_2 : decode cX11_letter 2 = .ok (.putfield 159, 3) := by decide +kernel
theorem dX11_letter_5 : decode cX11_letter 5 = .ok (.iload_n 1, 1) := by decide +kernel
theorem dX11_letter_6 : decode cX11_letter 6 = .ok (.invokestatic 188, 3) := by decide +kernel
theorem dX11_letter_9 : decode cX11_letter 9 = .ok (.ifCond .eq 21, 3) := by decide +kernel
theorem dX11_letter_12 : decode cX11_letter 12 = .ok (.iload_n 2, 1) := by decide +kernel
theorem dX11_letter_13 : decode cX11_letter 13 = .ok (.i2l, 1) := by decide +kernel
theorem dX11_letter_14 : decode cX11_letter 14 = .ok (.lconst 0, 1) := by decide +kernel
theorem dX11_letter_15 : decode cX11_letter 15 = .ok (.ldc2_w 483, 3) := by decide +kernel
theorem dX11_letter_18 : decode cX11_letter 18 = .ok (.invokestatic 179, 3) := by decide +kernel
theorem dX11_letter_21 : decode cX11_letter 21 = .ok (.ifCond .eq 9, 3) := by decide +kernel
theorem dX11_letter_24 : decode cX11_letter 24 = .ok (.iload_n 3, 1) := by decide +kernel
theorem dX11_letter_25 : decode cX11_letter 25 = .ok (.bipush (-2), 2) := by decide +kernel
theorem dX11_letter_27 : decode cX11_letter 27 = .ok (.if_icmp .ge 5, 3) := by decide +kernel
theorem dX11_letter_30 : decode cX11_letter 30 = .ok (.iconst (-1), 1) := by decide +kernel
theorem dX11_letter_31 : decode cX11_letter 31 = .ok (.ireturn, 1) := by decide +kernel
theorem dX11_letter_32 : decode cX11_letter 32 = .ok (.aload_n 0, 1) := by decide +kernel
theorem dX11_letter_33 : decode cX11_letter 33 = .ok (.invokevirtual 460, 3) := by decide +kernel
theorem dX11_letter_36 : decode cX11_letter 36 = .ok (.ldc_w 459, 3) := by decide +kernel
theorem dX11_letter_39 : decode cX11_letter 39 = .ok (.istore 4, 2) := by decide +kernel
theorem dX11_letter_41 : decode cX11_letter 41 = .ok (.iconst (-1), 1) := by decide +kernel
theorem dX11_letter_42 : decode cX11_letter 42 = .ok (.istore 5, 2) := by decide +kernel
theorem dX11_letter_44 : decode cX11_letter 44 = .ok (.iconst 0, 1) := by decide +kernel
theorem dX11_letter_45 : decode cX11_letter 45 = .ok (.istore 6, 2) := by decide +kernel
theorem dX11_letter_47 : decode cX11_letter 47 = .ok (.iload 6, 2) := by decide +kernel
theorem dX11_letter_49 : decode cX11_letter 49 = .ok (.aload_n 0, 1) := by decide +kernel
theorem dX11_letter_50 : decode cX11_letter 50 = .ok (.getfield 13, 3) := by decide +kernel
theorem dX11_letter_53 : decode cX11_letter 53 = .ok (.iconst 0, 1) := by decide +kernel
theorem dX11_letter_54 : decode cX11_letter 54 = .ok (.iaload, 1) := by decide +kernel
theorem dX11_letter_55 : decode cX11_letter 55 = .ok (.if_icmp .ge 69, 3) := by decide +kernel
theorem dX11_letter_58 : decode cX11_letter 58 = .ok (.aload_n 0, 1) := by decide +kernel
theorem dX11_letter_59 : decode cX11_letter 59 = .ok (.getfield 13, 3) := by decide +kernel
theorem dX11_letter_62 : decode cX11_letter 62 = .ok (.bipush 8, 2) := by decide +kernel
theorem dX11_letter_64 : decode cX11_letter 64 = .ok (.iload 6, 2) := by decide +kernel
theorem dX11_letter_66 : decode cX11_letter 66 = .ok (.iadd, 1) := by decide +kernel
theorem dX11_letter_67 : decode cX11_letter 67 = .ok (.iaload, 1) := by decide +kernel
theorem dX11_letter_68 : decode cX11_letter 68 = .ok (.iload_n 2, 1) := by decide +kernel
theorem dX11_letter_69 : decode cX11_letter 69 = .ok (.if_icmp .ne 49, 3) := by decide +kernel
theorem dX11_letter_72 : decode cX11_letter 72 = .ok (.aload_n 0, 1) := by decide +kernel
theorem dX11_letter_73 : decode cX11_letter 73 = .ok (.iload_n 1, 1) := by decide +kernel
theorem dX11_letter_74 : decode cX11_letter 74 = .ok (.aload_n 0, 1) := by decide +kernel
theorem dX11_letter_75 : decode cX11_letter 75 = .ok (.iload_n 1, 1) := by decide +kernel
theorem dX11_letter_76 : decode cX11_letter 76 = .ok (.iload 6, 2) := by decide +kernel
theorem dX11_letter_78 : decode cX11_letter 78 = .ok (.invokevirtual 490, 3) := by decide +kernel
theorem dX11_letter_81 : decode cX11_letter 81 = .ok (.invokevirtual 463, 3) := by decide +kernel
theorem dX11_letter_84 : decode cX11_letter 84 = .ok (.istore 7, 2) := by decide +kernel
theorem dX11_letter_86 : decode cX11_letter 86 = .ok (.iload 7, 2) := by decide +kernel
theorem dX11_letter_88 : decode cX11_letter 88 = .ok (.iload 4, 2) := by decide +kernel
theorem dX11_letter_90 : decode cX11_letter 90 = .ok (.if_icmp .ge 8, 3) := by decide +kernel
theorem dX11_letter_93 : decode cX11_letter 93 = .ok (.iload 6, 2) := by decide +kernel
theorem dX11_letter_95 : decode cX11_letter 95 = .ok (.goto 5, 3) := by decide +kernel
theorem dX11_letter_98 : decode cX11_letter 98 = .ok (.iload 5, 2) := by decide +kernel
theorem dX11_letter_100 : decode cX11_letter 100 = .ok (.istore 5, 2) := by decide +kernel
theorem dX11_letter_102 : decode cX11_letter 102 = .ok (.iload 7, 2) := by decide +kernel
theorem dX11_letter_104 : decode cX11_letter 104 = .ok (.iload 4, 2) := by decide +kernel
theorem dX11_letter_106 : decode cX11_letter 106 = .ok (.if_icmp .ge 8, 3) := by decide +kernel
theorem dX11_letter_109 : decode cX11_letter 109 = .ok (.iload 7, 2) := by decide +kernel
theorem dX11_letter_111 : decode cX11_letter 111 = .ok (.goto 5, 3) := by decide +kernel
theorem dX11_letter_114 : decode cX11_letter 114 = .ok (.iload 4, 2) := by decide +kernel
theorem dX11_letter_116 : decode cX11_letter 116 = .ok (.istore 4, 2) := by decide +kernel
theorem dX11_letter_118 : decode cX11_letter 118 = .ok (.iinc 6 1, 3) := by decide +kernel
theorem dX11_letter_121 : decode cX11_letter 121 = .ok (.goto (-74), 3) := by decide +kernel
theorem dX11_letter_124 : decode cX11_letter 124 = .ok (.iload 5, 2) := by decide +kernel
theorem dX11_letter_126 : decode cX11_letter 126 = .ok (.iconst (-1), 1) := by decide +kernel
theorem dX11_letter_127 : decode cX11_letter 127 = .ok (.if_icmp .eq 7, 3) := by decide +kernel
theorem dX11_letter_130 : decode cX11_letter 130 = .ok (.iload_n 3, 1) := by decide +kernel
theorem dX11_letter_131 : decode cX11_letter 131 = .ok (.ifCond .ge 23, 3) := by decide +kernel
theorem dX11_letter_134 : decode cX11_letter 134 = .ok (.iload 5, 2) := by decide +kernel
theorem dX11_letter_136 : decode cX11_letter 136 = .ok (.iconst (-1), 1) := by decide +kernel
theorem dX11_letter_137 : decode cX11_letter 137 = .ok (.if_icmp .eq 9, 3) := by decide +kernel
theorem dX11_letter_140 : decode cX11_letter 140 = .ok (.iload_n 3, 1) := by decide +kernel
theorem dX11_letter_141 : decode cX11_letter 141 = .ok (.bipush (-2), 2) := by decide +kernel
theorem dX11_letter_143 : decode cX11_letter 143 = .ok (.if_icmp .ne 8, 3) := by decide +kernel
theorem dX11_letter_146 : decode cX11_letter 146 = .ok (.iload 5, 2) := by decide +kernel
theorem dX11_letter_148 : decode cX11_letter 148 = .ok (.goto 5, 3) := by decide +kernel
theorem dX11_letter_151 : decode cX11_letter 151 = .ok (.iload 4, 2) := by decide +kernel
theorem dX11_letter_153 : decode cX11_letter 153 = .ok (.ireturn, 1) := by decide +kernel
theorem dX11_letter_154 : decode cX11_letter 154 = .ok (.aload_n 0, 1) := by decide +kernel
theorem dX11_letter_155 : decode cX11_letter 155 = .ok (.iload_n 1, 1) := by decide +kernel
theorem dX11_letter_156 : decode cX11_letter 156 = .ok (.iload 5, 2) := by decide +kernel
theorem dX11_letter_158 : decode cX11_letter 158 = .ok (.invokevirtual 490, 3) := by decide +kernel
theorem dX11_letter_161 : decode cX11_letter 161 = .ok (.istore 6, 2) := by decide +kernel
theorem dX11_letter_163 : decode cX11_letter 163 = .ok (.iload_n 1, 1) := by decide +kernel
theorem dX11_letter_164 : decode cX11_letter 164 = .ok (.istore 7, 2) := by decide +kernel
theorem dX11_letter_166 : decode cX11_letter 166 = .ok (.iconst 0, 1) := by decide +kernel
theorem dX11_letter_167 : decode cX11_letter 167 = .ok (.istore 8, 2) := by decide +kernel
theorem dX11_letter_169 : decode cX11_letter 169 = .ok (.iload 8, 2) := by decide +kernel
theorem dX11_letter_171 : decode cX11_letter 171 = .ok (.iload_n 3, 1) := by decide +kernel
theorem dX11_letter_172 : decode cX11_letter 172 = .ok (.if_icmp .gt 73, 3) := by decide +kernel
theorem dX11_letter_175 : decode cX11_letter 175 = .ok (.iload 7, 2) := by decide +kernel
theorem dX11_letter_177 : decode cX11_letter 177 = .ok (.iload 6, 2) := by decide +kernel
theorem dX11_letter_179 : decode cX11_letter 179 = .ok (.if_icmp .ne 5, 3) := by decide +kernel
theorem dX11_letter_182 : decode cX11_letter 182 = .ok (.iconst (-1), 1) := by decide +kernel
theorem dX11_letter_183 : decode cX11_letter 183 = .ok (.ireturn, 1) := by decide +kernel
theorem dX11_letter_184 : decode cX11_letter 184 = .ok (.iconst 0, 1) := by decide +kernel
theorem dX11_letter_185 : decode cX11_letter 185 = .ok (.istore 9, 2) := by decide +kernel
theorem dX11_letter_187 : decode cX11_letter 187 = .ok (.aload_n 0, 1) := by decide +kernel
theorem dX11_letter_188 : decode cX11_letter 188 = .ok (.iload 7, 2) := by decide +kernel
theorem dX11_letter_190 : decode cX11_letter 190 = .ok (.iload 9, 2) := by decide +kernel
theorem dX11_letter_192 : decode cX11_letter 192 = .ok (.invokevirtual 493, 3) := by decide +kernel
theorem dX11_letter_195 : decode cX11_letter 195 = .ok (.ldc_w 459, 3) := by decide +kernel
theorem dX11_letter_198 : decode cX11_letter 198 = .ok (.if_icmp .eq 31, 3) := by decide +kernel
theorem dX11_letter_201 : decode cX11_letter 201 = .ok (.aload_n 0, 1) := by decide +kernel
theorem dX11_letter_202 : decode cX11_letter 202 = .ok (.iload 7, 2) := by decide +kernel
theorem dX11_letter_204 : decode cX11_letter 204 = .ok (.iload 9, 2) := by decide +kernel
theorem dX11_letter_206 : decode cX11_letter 206 = .ok (.invokevirtual 493, 3) := by decide +kernel
theorem dX11_letter_209 : decode cX11_letter 209 = .ok (.aload_n 0, 1) := by decide +kernel
theorem dX11_letter_210 : decode cX11_letter 210 = .ok (.iload 9, 2) := by decide +kernel
theorem dX11_letter_212 : decode cX11_letter 212 = .ok (.iload 6, 2) := by decide +kernel
theorem dX11_letter_214 : decode cX11_letter 214 = .ok (.invokevirtual 463, 3) := by decide +kernel
theorem dX11_letter_217 : decode cX11_letter 217 = .ok (.iadd, 1) := by decide +kernel
theorem dX11_letter_218 : decode cX11_letter 218 = .ok (.aload_n 0, 1) := by decide +kernel
theorem dX11_letter_219 : decode cX11_letter 219 = .ok (.iload 7, 2) := by decide +kernel
theorem dX11_letter_221 : decode cX11_letter 221 = .ok (.iload 6, 2) := by decide +kernel
theorem dX11_letter_223 : decode cX11_letter 223 = .ok (.invokevirtual 463, 3) := by decide +kernel
theorem dX11_letter_226 : decode cX11_letter 226 = .ok (.if_icmp .eq 9, 3) := by decide +kernel
theorem dX11_letter_229 : decode cX11_letter 229 = .ok (.iinc 9 1, 3) := by decide +kernel
theorem dX11_letter_232 : decode cX11_letter 232 = .ok (.goto (-45), 3) := by decide +kernel
theorem dX11_letter_235 : decode cX11_letter 235 = .ok (.iload 9, 2) := by decide +kernel
theorem dX11_letter_237 : decode cX11_letter 237 = .ok (.istore 7, 2) := by decide +kernel
theorem dX11_letter_239 : decode cX11_letter 239 = .ok (.iinc 8 1, 3) := by decide +kernel
theorem dX11_letter_242 : decode cX11_letter 242 = .ok (.goto (-73), 3) := by decide +kernel
theorem dX11_letter_245 : decode cX11_letter 245 = .ok (.iload 7, 2) := by decide +kernel
theorem dX11_letter_247 : decode cX11_letter 247 = .ok (.ireturn, 1) := by decide +kernel
theorem dX11_haveCorner_0 : decode cX11_haveCorner 0 = .ok (.aload_n 0, 1) := by decide +kernel
theorem dX11_haveCorner_1 : decode cX11_haveCorner 1 = .ok (.iload_n 1, 1) := by decide +kernel
theorem dX11_haveCorner_2 : decode cX11_haveCorner 2 = .ok (.aload_n 0, 1) := by decide +kernel
theorem dX11_haveCorner_3 : decode cX11_haveCorner 3 = .ok (.getfield 13, 3) := by decide +kernel
theorem dX11_haveCorner_6 : decode cX11_haveCorner 6 = .ok (.bipush 26, 2) := by decide +kernel
theorem dX11_haveCorner_8 : decode cX11_haveCorner 8 = .ok (.iload_n 2, 1) := by decide +kernel
theorem dX11_haveCorner_9 : decode cX11_haveCorner 9 = .ok (.iadd, 1) := by decide +kernel
theorem dX11_haveCorner_10 : decode cX11_haveCorner 10 = .ok (.iaload, 1) := by decide +kernel
theorem dX11_haveCorner_11 : decode cX11_haveCorner 11 = .ok (.invokevirtual 424, 3) := by decide +kernel
theorem dX11_haveCorner_14 : decode cX11_haveCorner 14 = .ok (.ifCond .ne 20, 3) := by decide +kernel
theorem dX11_haveCorner_17 : decode cX11_haveCorner 17 = .ok (.aload_n 0, 1) := by decide +kernel
theorem dX11_haveCorner_18 : decode cX11_haveCorner 18 = .ok (.iload_n 1, 1) := by decide +kernel
theorem dX11_haveCorner_19 : decode cX11_haveCorner 19 = .ok (.aload_n 0, 1) := by decide +kernel
theorem dX11_haveCorner_20 : decode cX11_haveCorner 20 = .ok (.getfield 13, 3) := by decide +kernel
theorem dX11_haveCorner_23 : decode cX11_haveCorner 23 = .ok (.bipush 36, 2) := by decide +kernel
theorem dX11_haveCorner_25 : decode cX11_haveCorner 25 = .ok (.iload_n 2, 1) := by decide +kernel
theorem dX11_haveCorner_26 : decode cX11_haveCorner 26 = .ok (.iadd, 1) := by decide +kernel
theorem dX11_haveCorner_27 : decode cX11_haveCorner 27 = .ok (.iaload, 1) := by decide +kernel
theorem dX11_haveCorner_28 : decode cX11_haveCorner 28 = .ok (.invokevirtual 424, 3) := by decide +kernel
theorem dX11_haveCorner_31 : decode cX11_haveCorner 31 = .ok (.ifCond .eq 7, 3) := by decide +kernel
theorem dX11_haveCorner_34 : decode cX11_haveCorner 34 = .ok (.iconst 1, 1) := by decide +kernel
theorem dX11_haveCorner_35 : decode cX11_haveCorner 35 = .ok (.goto 4, 3) := by decide +kernel
theorem dX11_haveCorner_38 : decode cX11_haveCorner 38 = .ok (.iconst 0, 1) := by decide +kernel
theorem dX11_haveCorner_39 : decode cX11_haveCorner 39 = .ok (.ireturn, 1) := by decide +kernel
theorem dX11_fitsName_0 : decode cX11_fitsName 0 = .ok (.iconst 1, 1) := by decide +kernel
theorem dX11_fitsName_1 : decode cX11_fitsName 1 = .ok (.istore_n 2, 1) := by decide +kernel
theorem dX11_fitsName_2 : decode cX11_fitsName 2 = .ok (.iconst 0, 1) := by decide +kernel
theorem dX11_fitsName_3 : decode cX11_fitsName 3 = .ok (.istore_n 3, 1) := by decide +kernel
theorem dX11_fitsName_4 : decode cX11_fitsName 4 = .ok (.iload_n 3, 1) := by decide +kernel
theorem dX11_fitsName_5 : decode cX11_fitsName 5 = .ok (.iload_n 1, 1) := by decide +kernel
theorem dX11_fitsName_6 : decode cX11_fitsName 6 = .ok (.if_icmp .ge 43, 3) := by decide +kernel
theorem dX11_fitsName_9 : decode cX11_fitsName 9 = .ok (.iload_n 2, 1) := by decide +kernel
theorem dX11_fitsName_10 : decode cX11_fitsName 10 = .ok (.ifCond .eq 31, 3) := by decide +kernel
theorem dX11_fitsName_13 : decode cX11_fitsName 13 = .ok (.aload_n 0, 1) := by decide +kernel
theorem dX11_fitsName_14 : decode cX11_fitsName 14 = .ok (.getfield 124, 3) := by decide +kernel
theorem dX11_fitsName_17 : decode cX11_fitsName 17 = .ok (.iload_n 3, 1) := by decide +kernel
theorem dX11_fitsName_18 : decode cX11_fitsName 18 = .ok (.iaload, 1) := by decide +kernel
theorem dX11_fitsName_19 : decode cX11_fitsName 19 = .ok (.aload_n 0, 1) := by decide +kernel
theorem dX11_fitsName_20 : decode cX11_fitsName 20 = .ok (.getfield 124, 3) := by decide +kernel
theorem dX11_fitsName_23 : decode cX11_fitsName 23 = .ok (.iload_n 1, 1) := by decide +kernel
theorem dX11_fitsName_24 : decode cX11_fitsName 24 = .ok (.iaload, 1) := by decide +kernel
theorem dX11_fitsName_25 : decode cX11_fitsName 25 = .ok (.if_icmp .ne 12, 3) := by decide +kernel
theorem dX11_fitsName_28 : decode cX11_fitsName 28 = .ok (.aload_n 0, 1) := by decide +kernel
theorem dX11_fitsName_29 : decode cX11_fitsName 29 = .ok (.iload_n 3, 1) := by decide +kernel
theorem dX11_fitsName_30 : decode cX11_fitsName 30 = .ok (.iload_n 1, 1) := by decide +kernel
theorem dX11_fitsName_31 : decode cX11_fitsName 31 = .ok (.invokevirtual 496, 3) := by decide +kernel
theorem dX11_fitsName_34 : decode cX11_fitsName 34 = .ok (.ifCond .ne 7, 3) := by decide +kernel
theorem dX11_fitsName_37 : decode cX11_fitsName 37 = .ok (.iconst 1, 1) := by decide +kernel
theorem dX11_fitsName_38 : decode cX11_fitsName 38 = .ok (.goto 4, 3) := by decide +kernel
theorem dX11_fitsName_41 : decode cX11_fitsName 41 = .ok (.iconst 0, 1) := by decide +kernel
theorem dX11_fitsName_42 : decode cX11_fitsName 42 = .ok (.istore_n 2, 1) := by decide +kernel
theorem dX11_fitsName_43 : decode cX11_fitsName 43 = .ok (.iinc 3 1, 3) := by decide +kernel
theorem dX11_fitsName_46 : decode cX11_fitsName 46 = .ok (.goto (-42), 3) := by decide +kernel
theorem dX11_fitsName_49 : decode cX11_fitsName 49 = .ok (.iload_n 2, 1) := by decide +kernel
theorem dX11_fitsName_50 : decode cX11_fitsName 50 = .ok (.ireturn, 1) := by decide +kernel
theorem dX11_nameAhead_0 : decode cX11_nameAhead 0 = .ok (.iconst 0, 1) := by decide +kernel
theorem dX11_nameAhead_1 : decode cX11_nameAhead 1 = .ok (.istore_n 2, 1) := by decide +kernel
theorem dX11_nameAhead_2 : decode cX11_nameAhead 2 = .ok (.iconst 0, 1) := by decide +kernel
theorem dX11_nameAhead_3 : decode cX11_nameAhead 3 = .ok (.istore_n 3, 1) := by decide +kernel
theorem dX11_nameAhead_4 : decode cX11_nameAhead 4 = .ok (.iload_n 3, 1) := by decide +kernel
theorem dX11_nameAhead_5 : decode cX11_nameAhead 5 = .ok (.iload_n 1, 1) := by decide +kernel
theorem dX11_nameAhead_6 : decode cX11_nameAhead 6 = .ok (.if_icmp .ge 32, 3) := by decide +kernel
theorem dX11_nameAhead_9 : decode cX11_nameAhead 9 = .ok (.aload_n 0, 1) := by decide +kernel
theorem dX11_nameAhead_10 : decode cX11_nameAhead 10 = .ok (.getfield 124, 3) := by decide +kernel
theorem dX11_nameAhead_13 : decode cX11_nameAhead 13 = .ok (.iload_n 3, 1) := by decide +kernel
theorem dX11_nameAhead_14 : decode cX11_nameAhead 14 = .ok (.iaload, 1) := by decide +kernel
theorem dX11_nameAhead_15 : decode cX11_nameAhead 15 = .ok (.iload_n 2, 1) := by decide +kernel
theorem dX11_nameAhead_16 : decode cX11_nameAhead 16 = .ok (.if_icmp .lt 14, 3) := by decide +kernel
theorem dX11_nameAhead_19 : decode cX11_nameAhead 19 = .ok (.aload_n 0, 1) := by decide +kernel
theorem dX11_nameAhead_20 : decode cX11_nameAhead 20 = .ok (.getfield 124, 3) := by decide +kernel
theorem dX11_nameAhead_23 : decode cX11_nameAhead 23 = .ok (.iload_n 3, 1) := by decide +kernel
theorem dX11_nameAhead_24 : decode cX11_nameAhead 24 = .ok (.iaload, 1) := by decide +kernel
theorem dX11_nameAhead_25 : decode cX11_nameAhead 25 = .ok (.iconst 1, 1) := by decide +kernel
theorem dX11_nameAhead_26 : decode cX11_nameAhead 26 = .ok (.iadd, 1) := by decide +kernel
theorem dX11_nameAhead_27 : decode cX11_nameAhead 27 = .ok (.goto 4, 3) := by decide +kernel
theorem dX11_nameAhead_30 : decode cX11_nameAhead 30 = .ok (.iload_n 2, 1) := by decide +kernel
theorem dX11_nameAhead_31 : decode cX11_nameAhead 31 = .ok (.istore_n 2, 1) := by decide +kernel
theorem dX11_nameAhead_32 : decode cX11_nameAhead 32 = .ok (.iinc 3 1, 3) := by decide +kernel
theorem dX11_nameAhead_35 : decode cX11_nameAhead 35 = .ok (.goto (-31), 3) := by decide +kernel
theorem dX11_nameAhead_38 : decode cX11_nameAhead 38 = .ok (.iload_n 2, 1) := by decide +kernel
theorem dX11_nameAhead_39 : decode cX11_nameAhead 39 = .ok (.ireturn, 1) := by decide +kernel
theorem dX11_findNames_0 : decode cX11_findNames 0 = .ok (.aload_n 0, 1) := by decide +kernel
theorem dX11_findNames_1 : decode cX11_findNames 1 = .ok (.getfield 13, 3) := by decide +kernel
theorem dX11_findNames_4 : decode cX11_findNames 4 = .ok (.iconst 0, 1) := by decide +kernel
theorem dX11_findNames_5 : decode cX11_findNames 5 = .ok (.iaload, 1) := by decide +kernel
theorem dX11_findNames_6 : decode cX11_findNames 6 = .ok (.istore_n 2, 1) := by decide +kernel
theorem dX11_findNames_7 : decode cX11_findNames 7 = .ok (.iconst 0, 1) := by decide +kernel
theorem dX11_findNames_8 : decode cX11_findNames 8 = .ok (.istore_n 3, 1) := by decide +kernel
theorem dX11_findNames_9 : decode cX11_findNames 9 = .ok (.aload_n 0, 1) := by decide +kernel
theorem dX11_findNames_10 : decode cX11_findNames 10 = .ok (.getfield 124, 3) := by decide +kernel
theorem dX11_findNames_13 : decode cX11_findNames 13 = .ok (.iconst 0, 1) := by decide +kernel
theorem dX11_findNames_14 : decode cX11_findNames 14 = .ok (.iconst (-1), 1) := by decide +kernel
theorem dX11_findNames_15 : decode cX11_findNames 15 = .ok (.iastore, 1) := by decide +kernel
theorem dX11_findNames_16 : decode cX11_findNames 16 = .ok (.iload_n 3, 1) := by decide +kernel
theorem dX11_findNames_17 : decode cX11_findNames 17 = .ok (.ifCond .lt 69, 3) := by decide +kernel
theorem dX11_findNames_20 : decode cX11_findNames 20 = .ok (.iload_n 3, 1) := by decide +kernel
theorem dX11_findNames_21 : decode cX11_findNames 21 = .ok (.iload_n 2, 1) := by decide +kernel
theorem dX11_findNames_22 : decode cX11_findNames 22 = .ok (.if_icmp .ge 64, 3) := by decide +kernel
theorem dX11_findNames_25 : decode cX11_findNames 25 = .ok (.aload_n 0, 1) := by decide +kernel
theorem dX11_findNames_26 : decode cX11_findNames 26 = .ok (.getfield 124, 3) := by decide +kernel
theorem dX11_findNames_29 : decode cX11_findNames 29 = .ok (.iload_n 3, 1) := by decide +kernel
theorem dX11_findNames_30 : decode cX11_findNames 30 = .ok (.dup2, 1) := by decide +kernel
theorem dX11_findNames_31 : decode cX11_findNames 31 = .ok (.iaload, 1) := by decide +kernel
theorem dX11_findNames_32 : decode cX11_findNames 32 = .ok (.iconst 1, 1) := by decide +kernel
theorem dX11_findNames_33 : decode cX11_findNames 33 = .ok (.iadd, 1) := by decide +kernel
theorem dX11_findNames_34 : decode cX11_findNames 34 = .ok (.iastore, 1) := by decide +kernel
theorem dX11_findNames_35 : decode cX11_findNames 35 = .ok (.aload_n 0, 1) := by decide +kernel
theorem dX11_findNames_36 : decode cX11_findNames 36 = .ok (.getfield 124, 3) := by decide +kernel
theorem dX11_findNames_39 : decode cX11_findNames 39 = .ok (.iload_n 3, 1) := by decide +kernel
theorem dX11_findNames_40 : decode cX11_findNames 40 = .ok (.iaload, 1) := by decide +kernel
theorem dX11_findNames_41 : decode cX11_findNames 41 = .ok (.iload_n 1, 1) := by decide +kernel
theorem dX11_findNames_42 : decode cX11_findNames 42 = .ok (.if_icmp .ge 17, 3) := by decide +kernel
theorem dX11_findNames_45 : decode cX11_findNames 45 = .ok (.aload_n 0, 1) := by decide +kernel
theorem dX11_findNames_46 : decode cX11_findNames 46 = .ok (.getfield 124, 3) := by decide +kernel
theorem dX11_findNames_49 : decode cX11_findNames 49 = .ok (.iload_n 3, 1) := by decide +kernel
theorem dX11_findNames_50 : decode cX11_findNames 50 = .ok (.iaload, 1) := by decide +kernel
theorem dX11_findNames_51 : decode cX11_findNames 51 = .ok (.aload_n 0, 1) := by decide +kernel
theorem dX11_findNames_52 : decode cX11_findNames 52 = .ok (.iload_n 3, 1) := by decide +kernel
theorem dX11_findNames_53 : decode cX11_findNames 53 = .ok (.invokevirtual 499, 3) := by decide +kernel
theorem dX11_findNames_56 : decode cX11_findNames 56 = .ok (.if_icmp .le 9, 3) := by decide +kernel
theorem dX11_findNames_59 : decode cX11_findNames 59 = .ok (.iinc 3 (-1), 3) := by decide +kernel
theorem dX11_findNames_62 : decode cX11_findNames 62 = .ok (.goto (-46), 3) := by decide +kernel
theorem dX11_findNames_65 : decode cX11_findNames 65 = .ok (.aload_n 0, 1) := by decide +kernel
theorem dX11_findNames_66 : decode cX11_findNames 66 = .ok (.iload_n 3, 1) := by decide +kernel
theorem dX11_findNames_67 : decode cX11_findNames 67 = .ok (.invokevirtual 502, 3) := by decide +kernel
theorem dX11_findNames_70 : decode cX11_findNames 70 = .ok (.ifCond .eq (-54), 3) := by decide +kernel
theorem dX11_findNames_73 : decode cX11_findNames 73 = .ok (.iinc 3 1, 3) := by decide +kernel
theorem dX11_findNames_76 : decode cX11_findNames 76 = .ok (.aload_n 0, 1) := by decide +kernel
theorem dX11_findNames_77 : decode cX11_findNames 77 = .ok (.getfield 124, 3) := by decide +kernel
theorem dX11_findNames_80 : decode cX11_findNames 80 = .ok (.iload_n 3, 1) := by decide +kernel
theorem dX11_findNames_81 : decode cX11_findNames 81 = .ok (.iconst (-1), 1) := by decide +kernel
theorem dX11_findNames_82 : decode cX11_findNames 82 = .ok (.iastore, 1) := by decide +kernel
theorem dX11_findNames_83 : decode cX11_findNames 83 = .ok (.goto (-67), 3) := by decide +kernel
theorem dX11_findNames_86 : decode cX11_findNames 86 = .ok (.iload_n 3, 1) := by decide +kernel
theorem dX11_findNames_87 : decode cX11_findNames 87 = .ok (.iload_n 2, 1) := by decide +kernel
theorem dX11_findNames_88 : decode cX11_findNames 88 = .ok (.if_icmp .ne 7, 3) := by decide +kernel
theorem dX11_findNames_91 : decode cX11_findNames 91 = .ok (.iconst 1, 1) := by decide +kernel
theorem dX11_findNames_92 : decode cX11_findNames 92 = .ok (.goto 4, 3) := by decide +kernel
theorem dX11_findNames_95 : decode cX11_findNames 95 = .ok (.iconst 0, 1) := by decide +kernel
theorem dX11_findNames_96 : decode cX11_findNames 96 = .ok (.ireturn, 1) := by decide +kernel
theorem dX11_apart_0 : decode cX11_apart 0 = .ok (.aload_n 0, 1) := by decide +kernel
theorem dX11_apart_1 : decode cX11_apart 1 = .ok (.iconst 0, 1) := by decide +kernel
theorem dX11_apart_2 : decode cX11_apart 2 = .ok (.putfield 159, 3) := by decide +kernel
theorem dX11_apart_5 : decode cX11_apart 5 = .ok (.iload_n 1, 1) := by decide +kernel
theorem dX11_apart_6 : decode cX11_apart 6 = .ok (.i2l, 1) := by decide +kernel
theorem dX11_apart_7 : decode cX11_apart 7 = .ok (.lconst 0, 1) := by decide +kernel
theorem dX11_apart_8 : decode cX11_apart 8 = .ok (.aload_n 0, 1) := by decide +kernel
theorem dX11_apart_9 : decode cX11_apart 9 = .ok (.getfield 13, 3) := by decide +kernel
theorem dX11_apart_12 : decode cX11_apart 12 = .ok (.iconst 0, 1) := by decide +kernel
theorem dX11_apart_13 : decode cX11_apart 13 = .ok (.iaload, 1) := by decide +kernel
theorem dX11_apart_14 : decode cX11_apart 14 = .ok (.i2l, 1) := by decide +kernel
theorem dX11_apart_15 : decode cX11_apart 15 = .ok (.invokestatic 179, 3) := by decide +kernel
theorem dX11_apart_18 : decode cX11_apart 18 = .ok (.ifCond .ne 5, 3) := by decide +kernel
theorem dX11_apart_21 : decode cX11_apart 21 = .ok (.iconst (-1), 1) := by decide +kernel
theorem dX11_apart_22 : decode cX11_apart 22 = .ok (.ireturn, 1) := by decide +kernel
theorem dX11_apart_23 : decode cX11_apart 23 = .ok (.iconst 0, 1) := by decide +kernel
theorem dX11_apart_24 : decode cX11_apart 24 = .ok (.istore_n 2, 1) := by decide +kernel
theorem dX11_apart_25 : decode cX11_apart 25 = .ok (.aload_n 0, 1) := by decide +kernel
theorem dX11_apart_26 : decode cX11_apart 26 = .ok (.iload_n 2, 1) := by decide +kernel
theorem dX11_apart_27 : decode cX11_apart 27 = .ok (.invokevirtual 505, 3) := by decide +kernel
theorem dX11_apart_30 : decode cX11_apart 30 = .ok (.ifCond .ne 9, 3) := by decide +kernel
theorem dX11_apart_33 : decode cX11_apart 33 = .ok (.iinc 2 1, 3) := by decide +kernel
theorem dX11_apart_36 : decode cX11_apart 36 = .ok (.goto (-11), 3) := by decide +kernel
theorem dX11_apart_39 : decode cX11_apart 39 = .ok (.iload_n 1, 1) := by decide +kernel
theorem dX11_apart_40 : decode cX11_apart 40 = .ok (.ifCond .ne 7, 3) := by decide +kernel
theorem dX11_apart_43 : decode cX11_apart 43 = .ok (.iload_n 2, 1) := by decide +kernel
theorem dX11_apart_44 : decode cX11_apart 44 = .ok (.goto 11, 3) := by decide +kernel
theorem dX11_apart_47 : decode cX11_apart 47 = .ok (.aload_n 0, 1) := by decide +kernel
theorem dX11_apart_48 : decode cX11_apart 48 = .ok (.getfield 124, 3) := by decide +kernel
theorem dX11_apart_51 : decode cX11_apart 51 = .ok (.iload_n 1, 1) := by decide +kernel
theorem dX11_apart_52 : decode cX11_apart 52 = .ok (.iconst 1, 1) := by decide +kernel
theorem dX11_apart_53 : decode cX11_apart 53 = .ok (.isub, 1) := by decide +kernel
theorem dX11_apart_54 : decode cX11_apart 54 = .ok (.iaload, 1) := by decide +kernel
theorem dX11_apart_55 : decode cX11_apart 55 = .ok (.ireturn, 1) := by decide +kernel
theorem dX11_alike_0 : decode cX11_alike 0 = .ok (.aload_n 0, 1) := by decide +kernel
theorem dX11_alike_1 : decode cX11_alike 1 = .ok (.iconst 0, 1) := by decide +kernel
theorem dX11_alike_2 : decode cX11_alike 2 = .ok (.putfield 159, 3) := by decide +kernel
theorem dX11_alike_5 : decode cX11_alike 5 = .ok (.iconst 0, 1) := by decide +kernel
theorem dX11_alike_6 : decode cX11_alike 6 = .ok (.istore_n 1, 1) := by decide +kernel
theorem dX11_alike_7 : decode cX11_alike 7 = .ok (.iconst 0, 1) := by decide +kernel
theorem dX11_alike_8 : decode cX11_alike 8 = .ok (.istore_n 2, 1) := by decide +kernel
theorem dX11_alike_9 : decode cX11_alike 9 = .ok (.iload_n 2, 1) := by decide +kernel
theorem dX11_alike_10 : decode cX11_alike 10 = .ok (.aload_n 0, 1) := by decide +kernel
theorem dX11_alike_11 : decode cX11_alike 11 = .ok (.getfield 13, 3) := by decide +kernel
theorem dX11_alike_14 : decode cX11_alike 14 = .ok (.iconst 0, 1) := by decide +kernel
theorem dX11_alike_15 : decode cX11_alike 15 = .ok (.iaload, 1) := by decide +kernel
theorem dX11_alike_16 : decode cX11_alike 16 = .ok (.if_icmp .ge 80, 3) := by decide +kernel
theorem dX11_alike_19 : decode cX11_alike 19 = .ok (.iload_n 2, 1) := by decide +kernel
theorem dX11_alike_20 : decode cX11_alike 20 = .ok (.iconst 1, 1) := by decide +kernel
theorem dX11_alike_21 : decode cX11_alike 21 = .ok (.iadd, 1) := by decide +kernel
theorem dX11_alike_22 : decode cX11_alike 22 = .ok (.istore_n 3, 1) := by decide +kernel
theorem dX11_alike_23 : decode cX11_alike 23 = .ok (.iload_n 3, 1) := by decide +kernel
theorem dX11_alike_24 : decode cX11_alike 24 = .ok (.aload_n 0, 1) := by decide +kernel
theorem dX11_alike_25 : decode cX11_alike 25 = .ok (.getfield 13, 3) := by decide +kernel
theorem dX11_alike_28 : decode cX11_alike 28 = .ok (.iconst 0, 1) := by decide +kernel
theorem dX11_alike_29 : decode cX11_alike 29 = .ok (.iaload, 1) := by decide +kernel
theorem dX11_alike_30 : decode cX11_alike 30 = .ok (.if_icmp .ge 60, 3) := by decide +kernel
theorem dX11_alike_33 : decode cX11_alike 33 = .ok (.iload_n 1, 1) := by decide +kernel
theorem dX11_alike_34 : decode cX11_alike 34 = .ok (.aload_n 0, 1) := by decide +kernel
theorem dX11_alike_35 : decode cX11_alike 35 = .ok (.getfield 13, 3) := by decide +kernel
theorem dX11_alike_38 : decode cX11_alike 38 = .ok (.bipush 8, 2) := by decide +kernel
theorem dX11_alike_40 : decode cX11_alike 40 = .ok (.iload_n 2, 1) := by decide +kernel
theorem dX11_alike_41 : decode cX11_alike 41 = .ok (.iadd, 1) := by decide +kernel
theorem dX11_alike_42 : decode cX11_alike 42 = .ok (.iaload, 1) := by decide +kernel
theorem dX11_alike_43 : decode cX11_alike 43 = .ok (.iconst (-1), 1) := by decide +kernel
theorem dX11_alike_44 : decode cX11_alike 44 = .ok (.if_icmp .eq 37, 3) := by decide +kernel
theorem dX11_alike_47 : decode cX11_alike 47 = .ok (.aload_n 0, 1) := by decide +kernel
theorem dX11_alike_48 : decode cX11_alike 48 = .ok (.getfield 13, 3) := by decide +kernel
theorem dX11_alike_51 : decode cX11_alike 51 = .ok (.bipush 8, 2) := by decide +kernel
theorem dX11_alike_53 : decode cX11_alike 53 = .ok (.iload_n 2, 1) := by decide +kernel
theorem dX11_alike_54 : decode cX11_alike 54 = .ok (.iadd, 1) := by decide +kernel
theorem dX11_alike_55 : decode cX11_alike 55 = .ok (.iaload, 1) := by decide +kernel
theorem dX11_alike_56 : decode cX11_alike 56 = .ok (.aload_n 0, 1) := by decide +kernel
theorem dX11_alike_57 : decode cX11_alike 57 = .ok (.getfield 13, 3) := by decide +kernel
theorem dX11_alike_60 : decode cX11_alike 60 = .ok (.bipush 8, 2) := by decide +kernel
theorem dX11_alike_62 : decode cX11_alike 62 = .ok (.iload_n 3, 1) := by decide +kernel
theorem dX11_alike_63 : decode cX11_alike 63 = .ok (.iadd, 1) := by decide +kernel
theorem dX11_alike_64 : decode cX11_alike 64 = .ok (.iaload, 1) := by decide +kernel
theorem dX11_alike_65 : decode cX11_alike 65 = .ok (.if_icmp .ne 16, 3) := by decide +kernel
theorem dX11_alike_68 : decode cX11_alike 68 = .ok (.aload_n 0, 1) := by decide +kernel
theorem dX11_alike_69 : decode cX11_alike 69 = .ok (.iload_n 2, 1) := by decide +kernel
theorem dX11_alike_70 : decode cX11_alike 70 = .ok (.iload_n 3, 1) := by decide +kernel
theorem dX11_alike_71 : decode cX11_alike 71 = .ok (.invokevirtual 496, 3) := by decide +kernel
theorem dX11_alike_74 : decode cX11_alike 74 = .ok (.ifCond .eq 7, 3) := by decide +kernel
theorem dX11_alike_77 : decode cX11_alike 77 = .ok (.iconst 1, 1) := by decide +kernel
theorem dX11_alike_78 : decode cX11_alike 78 = .ok (.goto 4, 3) := by decide +kernel
theorem dX11_alike_81 : decode cX11_alike 81 = .ok (.iconst 0, 1) := by decide +kernel
theorem dX11_alike_82 : decode cX11_alike 82 = .ok (.iadd, 1) := by decide +kernel
theorem dX11_alike_83 : decode cX11_alike 83 = .ok (.istore_n 1, 1) := by decide +kernel
theorem dX11_alike_84 : decode cX11_alike 84 = .ok (.iinc 3 1, 3) := by decide +kernel
theorem dX11_alike_87 : decode cX11_alike 87 = .ok (.goto (-64), 3) := by decide +kernel
theorem dX11_alike_90 : decode cX11_alike 90 = .ok (.iinc 2 1, 3) := by decide +kernel
theorem dX11_alike_93 : decode cX11_alike 93 = .ok (.goto (-84), 3) := by decide +kernel
theorem dX11_alike_96 : decode cX11_alike 96 = .ok (.iload_n 1, 1) := by decide +kernel
theorem dX11_alike_97 : decode cX11_alike 97 = .ok (.ireturn, 1) := by decide +kernel
theorem dX11_layPaired_0 : decode cX11_layPaired 0 = .ok (.iconst 0, 1) := by decide +kernel
theorem dX11_layPaired_1 : decode cX11_layPaired 1 = .ok (.istore_n 1, 1) := by decide +kernel
theorem dX11_layPaired_2 : decode cX11_layPaired 2 = .ok (.iload_n 1, 1) := by decide +kernel
theorem dX11_layPaired_3 : decode cX11_layPaired 3 = .ok (.sipush 256, 3) := by decide +kernel
theorem dX11_layPaired_6 : decode cX11_layPaired 6 = .ok (.if_icmp .ge 136, 3) := by decide +kernel
theorem dX11_layPaired_9 : decode cX11_layPaired 9 = .ok (.aload_n 0, 1) := by decide +kernel
theorem dX11_layPaired_10 : decode cX11_layPaired 10 = .ok (.getfield 127, 3) := by decide +kernel
theorem dX11_layPaired_13 : decode cX11_layPaired 13 = .ok (.iload_n 1, 1) := by decide +kernel
theorem dX11_layPaired_14 : decode cX11_layPaired 14 = .ok (.iload_n 1, 1) := by decide +kernel
theorem dX11_layPaired_15 : decode cX11_layPaired 15 = .ok (.ifCond .ne 7, 3) := by decide +kernel
theorem dX11_layPaired_18 : decode cX11_layPaired 18 = .ok (.iconst 0, 1) := by decide +kernel
theorem dX11_layPaired_19 : decode cX11_layPaired 19 = .ok (.goto 6, 3) := by decide +kernel
theorem dX11_layPaired_22 : decode cX11_layPaired 22 = .ok (.ldc_w 459, 3) := by decide +kernel
theorem dX11_layPaired_25 : decode cX11_layPaired 25 = .ok (.iastore, 1) := by decide +kernel
theorem dX11_layPaired_26 : decode cX11_layPaired 26 = .ok (.iconst 0, 1) := by decide +kernel
theorem dX11_layPaired_27 : decode cX11_layPaired 27 = .ok (.istore_n 2, 1) := by decide +kernel
theorem dX11_layPaired_28 : decode cX11_layPaired 28 = .ok (.iload_n 2, 1) := by decide +kernel
theorem dX11_layPaired_29 : decode cX11_layPaired 29 = .ok (.bipush 8, 2) := by decide +kernel
theorem dX11_layPaired_31 : decode cX11_layPaired 31 = .ok (.if_icmp .ge 105, 3) := by decide +kernel
theorem dX11_layPaired_34 : decode cX11_layPaired 34 = .ok (.iconst 0, 1) := by decide +kernel
theorem dX11_layPaired_35 : decode cX11_layPaired 35 = .ok (.istore_n 3, 1) := by decide +kernel
theorem dX11_layPaired_36 : decode cX11_layPaired 36 = .ok (.iload_n 3, 1) := by decide +kernel
theorem dX11_layPaired_37 : decode cX11_layPaired 37 = .ok (.iload_n 2, 1) := by decide +kernel
theorem dX11_layPaired_38 : decode cX11_layPaired 38 = .ok (.if_icmp .ge 92, 3) := by decide +kernel
theorem dX11_layPaired_41 : decode cX11_layPaired 41 = .ok (.iload_n 1, 1) := by decide +kernel
theorem dX11_layPaired_42 : decode cX11_layPaired 42 = .ok (.iload_n 2, 1) := by decide +kernel
theorem dX11_layPaired_43 : decode cX11_layPaired 43 = .ok (.invokestatic 472, 3) := by decide +kernel
theorem dX11_layPaired_46 : decode cX11_layPaired 46 = .ok (.ifCond .eq 78, 3) := by decide +kernel
theorem dX11_layPaired_49 : decode cX11_layPaired 49 = .ok (.iload_n 1, 1) := by decide +kernel
theorem dX11_layPaired_50 : decode cX11_layPaired 50 = .ok (.iload_n 3, 1) := by decide +kernel
theorem dX11_layPaired_51 : decode cX11_layPaired 51 = .ok (.invokestatic 472, 3) := by decide +kernel
theorem dX11_layPaired_54 : decode cX11_layPaired 54 = .ok (.ifCond .eq 70, 3) := by decide +kernel
theorem dX11_layPaired_57 : decode cX11_layPaired 57 = .ok (.aload_n 0, 1) := by decide +kernel
theorem dX11_layPaired_58 : decode cX11_layPaired 58 = .ok (.iload_n 2, 1) := by decide +kernel
theorem dX11_layPaired_59 : decode cX11_layPaired 59 = .ok (.iload_n 3, 1) := by decide +kernel
theorem dX11_layPaired_60 : decode cX11_layPaired 60 = .ok (.invokevirtual 463, 3) := by decide +kernel
theorem dX11_layPaired_63 : decode cX11_layPaired 63 = .ok (.ldc_w 459, 3) := by decide +kernel
theorem dX11_layPaired_66 : decode cX11_layPaired 66 = .ok (.if_icmp .ge 58, 3) := by decide +kernel
theorem dX11_layPaired_69 : decode cX11_layPaired 69 = .ok (.aload_n 0, 1) := by decide +kernel
theorem dX11_layPaired_70 : decode cX11_layPaired 70 = .ok (.getfield 127, 3) := by decide +kernel
theorem dX11_layPaired_73 : decode cX11_layPaired 73 = .ok (.iload_n 1, 1) := by decide +kernel
theorem dX11_layPaired_74 : decode cX11_layPaired 74 = .ok (.iconst 1, 1) := by decide +kernel
theorem dX11_layPaired_75 : decode cX11_layPaired 75 = .ok (.iload_n 2, 1) := by decide +kernel
theorem dX11_layPaired_76 : decode cX11_layPaired 76 = .ok (.ishl, 1) := by decide +kernel
theorem dX11_layPaired_77 : decode cX11_layPaired 77 = .ok (.iconst (-1), 1) := by decide +kernel
theorem dX11_layPaired_78 : decode cX11_layPaired 78 = .ok (.ixor, 1) := by decide +kernel
theorem dX11_layPaired_79 : decode cX11_layPaired 79 = .ok (.iand, 1) := by decide +kernel
theorem dX11_layPaired_80 : decode cX11_layPaired 80 = .ok (.iconst 1, 1) := by decide +kernel
theorem dX11_layPaired_81 : decode cX11_layPaired 81 = .ok (.iload_n 3, 1) := by decide +kernel
theorem dX11_layPaired_82 : decode cX11_layPaired 82 = .ok (.ishl, 1) := by decide +kernel
theorem dX11_layPaired_83 : decode cX11_layPaired 83 = .ok (.iconst (-1), 1) := by decide +kernel
theorem dX11_layPaired_84 : decode cX11_layPaired 84 = .ok (.ixor, 1) := by decide +kernel
theorem dX11_layPaired_85 : decode cX11_layPaired 85 = .ok (.iand, 1) := by decide +kernel
theorem dX11_layPaired_86 : decode cX11_layPaired 86 = .ok (.iaload, 1) := by decide +kernel
theorem dX11_layPaired_87 : decode cX11_layPaired 87 = .ok (.aload_n 0, 1) := by decide +kernel
theorem dX11_layPaired_88 : decode cX11_layPaired 88 = .ok (.iload_n 2, 1) := by decide +kernel
theorem dX11_layPaired_89 : decode cX11_layPaired 89 = .ok (.iload_n 3, 1) := by decide +kernel
theorem dX11_layPaired_90 : decode cX11_layPaired 90 = .ok (.invokevirtual 463, 3) := by decide +kernel
theorem dX11_layPaired_93 : decode cX11_layPaired 93 = .ok (.iadd, 1) := by decide +kernel
theorem dX11_layPaired_94 : decode cX11_layPaired 94 = .ok (.istore 4, 2) := by decide +kernel
theorem dX11_layPaired_96 : decode cX11_layPaired 96 = .ok (.aload_n 0, 1) := by decide +kernel
theorem dX11_layPaired_97 : decode cX11_layPaired 97 = .ok (.getfield 127, 3) := by decide +kernel
theorem dX11_layPaired_100 : decode cX11_layPaired 100 = .ok (.iload_n 1, 1) := by decide +kernel
theorem dX11_layPaired_101 : decode cX11_layPaired 101 = .ok (.iload 4, 2) := by decide +kernel
theorem dX11_layPaired_103 : decode cX11_layPaired 103 = .ok (.aload_n 0, 1) := by decide +kernel
theorem dX11_layPaired_104 : decode cX11_layPaired 104 = .ok (.getfield 127, 3) := by decide +kernel
theorem dX11_layPaired_107 : decode cX11_layPaired 107 = .ok (.iload_n 1, 1) := by decide +kernel
theorem dX11_layPaired_108 : decode cX11_layPaired 108 = .ok (.iaload, 1) := by decide +kernel
theorem dX11_layPaired_109 : decode cX11_layPaired 109 = .ok (.if_icmp .ge 8, 3) := by decide +kernel
theorem dX11_layPaired_112 : decode cX11_layPaired 112 = .ok (.iload 4, 2) := by decide +kernel
theorem dX11_layPaired_114 : decode cX11_layPaired 114 = .ok (.goto 9, 3) := by decide +kernel
theorem dX11_layPaired_117 : decode cX11_layPaired 117 = .ok (.aload_n 0, 1) := by decide +kernel
theorem dX11_layPaired_118 : decode cX11_layPaired 118 = .ok (.getfield 127, 3) := by decide +kernel
theorem dX11_layPaired_121 : decode cX11_layPaired 121 = .ok (.iload_n 1, 1) := by decide +kernel
theorem dX11_layPaired_122 : decode cX11_layPaired 122 = .ok (.iaload, 1) := by decide +kernel
theorem dX11_layPaired_123 : decode cX11_layPaired 123 = .ok (.iastore, 1) := by decide +kernel
theorem dX11_layPaired_124 : decode cX11_layPaired 124 = .ok (.iinc 3 1, 3) := by decide +kernel
theorem dX11_layPaired_127 : decode cX11_layPaired 127 = .ok (.goto (-91), 3) := by decide +kernel
theorem dX11_layPaired_130 : decode cX11_layPaired 130 = .ok (.iinc 2 1, 3) := by decide +kernel
theorem dX11_layPaired_133 : decode cX11_layPaired 133 = .ok (.goto (-105), 3) := by decide +kernel
theorem dX11_layPaired_136 : decode cX11_layPaired 136 = .ok (.iinc 1 1, 3) := by decide +kernel
theorem dX11_layPaired_139 : decode cX11_layPaired 139 = .ok (.goto (-137), 3) := by decide +kernel
theorem dX11_layPaired_142 : decode cX11_layPaired 142 = .ok (.return_, 1) := by decide +kernel
theorem dX11_round_0 : decode cX11_round 0 = .ok (.aload_n 0, 1) := by decide +kernel
theorem dX11_round_1 : decode cX11_round 1 = .ok (.iconst 0, 1) := by decide +kernel
theorem dX11_round_2 : decode cX11_round 2 = .ok (.putfield 159, 3) := by decide +kernel
theorem dX11_round_5 : decode cX11_round 5 = .ok (.aload_n 0, 1) := by decide +kernel
theorem dX11_round_6 : decode cX11_round 6 = .ok (.invokevirtual 460, 3) := by decide +kernel
theorem dX11_round_9 : decode cX11_round 9 = .ok (.iconst 0, 1) := by decide +kernel
theorem dX11_round_10 : decode cX11_round 10 = .ok (.istore_n 1, 1) := by decide +kernel
theorem dX11_round_11 : decode cX11_round 11 = .ok (.iconst 0, 1) := by decide +kernel
theorem dX11_round_12 : decode cX11_round 12 = .ok (.istore_n 2, 1) := by decide +kernel
theorem dX11_round_13 : decode cX11_round 13 = .ok (.iconst 0, 1) := by decide +kernel
theorem dX11_round_14 : decode cX11_round 14 = .ok (.istore_n 3, 1) := by decide +kernel
theorem dX11_round_15 : decode cX11_round 15 = .ok (.iload_n 3, 1) := by decide +kernel
theorem dX11_round_16 : decode cX11_round 16 = .ok (.bipush 8, 2) := by decide +kernel
theorem dX11_round_18 : decode cX11_round 18 = .ok (.if_icmp .ge 30, 3) := by decide +kernel
theorem dX11_round_21 : decode cX11_round 21 = .ok (.iload_n 1, 1) := by decide +kernel
theorem dX11_round_22 : decode cX11_round 22 = .ok (.aload_n 0, 1) := by decide +kernel
theorem dX11_round_23 : decode cX11_round 23 = .ok (.iload_n 3, 1) := by decide +kernel
theorem dX11_round_24 : decode cX11_round 24 = .ok (.invokevirtual 469, 3) := by decide +kernel
theorem dX11_round_27 : decode cX11_round 27 = .ok (.iconst 2, 1) := by decide +kernel
theorem dX11_round_28 : decode cX11_round 28 = .ok (.irem, 1) := by decide +kernel
theorem dX11_round_29 : decode cX11_round 29 = .ok (.iconst 1, 1) := by decide +kernel
theorem dX11_round_30 : decode cX11_round 30 = .ok (.if_icmp .ne 9, 3) := by decide +kernel
theorem dX11_round_33 : decode cX11_round 33 = .ok (.iconst 1, 1) := by decide +kernel
theorem dX11_round_34 : decode cX11_round 34 = .ok (.iload_n 3, 1) := by decide +kernel
theorem dX11_round_35 : decode cX11_round 35 = .ok (.ishl, 1) := by decide +kernel
theorem dX11_round_36 : decode cX11_round 36 = .ok (.goto 4, 3) := by decide +kernel
theorem dX11_round_39 : decode cX11_round 39 = .ok (.iconst 0, 1) := by decide +kernel
theorem dX11_round_40 : decode cX11_round 40 = .ok (.ior, 1) := by decide +kernel
theorem dX11_round_41 : decode cX11_round 41 = .ok (.istore_n 1, 1) := by decide +kernel
theorem dX11_round_42 : decode cX11_round 42 = .ok (.iinc 3 1, 3) := by decide +kernel
theorem dX11_round_45 : decode cX11_round 45 = .ok (.goto (-30), 3) := by decide +kernel
theorem dX11_round_48 : decode cX11_round 48 = .ok (.iconst 0, 1) := by decide +kernel
theorem dX11_round_49 : decode cX11_round 49 = .ok (.istore_n 3, 1) := by decide +kernel
theorem dX11_round_50 : decode cX11_round 50 = .ok (.iload_n 3, 1) := by decide +kernel
theorem dX11_round_51 : decode cX11_round 51 = .ok (.aload_n 0, 1) := by decide +kernel
theorem dX11_round_52 : decode cX11_round 52 = .ok (.getfield 13, 3) := by decide +kernel
theorem dX11_round_55 : decode cX11_round 55 = .ok (.iconst 0, 1) := by decide +kernel
theorem dX11_round_56 : decode cX11_round 56 = .ok (.iaload, 1) := by decide +kernel
theorem dX11_round_57 : decode cX11_round 57 = .ok (.if_icmp .ge 49, 3) := by decide +kernel
theorem dX11_round_60 : decode cX11_round 60 = .ok (.iload_n 2, 1) := by decide +kernel
theorem dX11_round_61 : decode cX11_round 61 = .ok (.aload_n 0, 1) := by decide +kernel
theorem dX11_round_62 : decode cX11_round 62 = .ok (.getfield 13, 3) := by decide +kernel
theorem dX11_round_65 : decode cX11_round 65 = .ok (.bipush 46, 2) := by decide +kernel
theorem dX11_round_67 : decode cX11_round 67 = .ok (.iload_n 3, 1) := by decide +kernel
theorem dX11_round_68 : decode cX11_round 68 = .ok (.iadd, 1) := by decide +kernel
theorem dX11_round_69 : decode cX11_round 69 = .ok (.iaload, 1) := by decide +kernel
theorem dX11_round_70 : decode cX11_round 70 = .ok (.iadd, 1) := by decide +kernel
theorem dX11_round_71 : decode cX11_round 71 = .ok (.istore_n 2, 1) := by decide +kernel
theorem dX11_round_72 : decode cX11_round 72 = .ok (.aload_n 0, 1) := by decide +kernel
theorem dX11_round_73 : decode cX11_round 73 = .ok (.aload_n 0, 1) := by decide +kernel
theorem dX11_round_74 : decode cX11_round 74 = .ok (.getfield 13, 3) := by decide +kernel
theorem dX11_round_77 : decode cX11_round 77 = .ok (.bipush 26, 2) := by decide +kernel
theorem dX11_round_79 : decode cX11_round 79 = .ok (.iaload, 1) := by decide +kernel
theorem dX11_round_80 : decode cX11_round 80 = .ok (.aload_n 0, 1) := by decide +kernel
theorem dX11_round_81 : decode cX11_round 81 = .ok (.getfield 13, 3) := by decide +kernel
theorem dX11_round_84 : decode cX11_round 84 = .ok (.bipush 26, 2) := by decide +kernel
theorem dX11_round_86 : decode cX11_round 86 = .ok (.iload_n 3, 1) := by decide +kernel
theorem dX11_round_87 : decode cX11_round 87 = .ok (.iadd, 1) := by decide +kernel
theorem dX11_round_88 : decode cX11_round 88 = .ok (.iaload, 1) := by decide +kernel
theorem dX11_round_89 : decode cX11_round 89 = .ok (.invokevirtual 463, 3) := by decide +kernel
theorem dX11_round_92 : decode cX11_round 92 = .ok (.ldc_w 459, 3) := by decide +kernel
theorem dX11_round_95 : decode cX11_round 95 = .ok (.if_icmp .ne 5, 3) := by decide +kernel
theorem dX11_round_98 : decode cX11_round 98 = .ok (.iconst (-1), 1) := by decide +kernel
theorem dX11_round_99 : decode cX11_round 99 = .ok (.ireturn, 1) := by decide +kernel
theorem dX11_round_100 : decode cX11_round 100 = .ok (.iinc 3 1, 3) := by decide +kernel
theorem dX11_round_103 : decode cX11_round 103 = .ok (.goto (-53), 3) := by decide +kernel
theorem dX11_round_106 : decode cX11_round 106 = .ok (.aload_n 0, 1) := by decide +kernel
theorem dX11_round_107 : decode cX11_round 107 = .ok (.invokevirtual 508, 3) := by decide +kernel
theorem dX11_round_110 : decode cX11_round 110 = .ok (.iload_n 2, 1) := by decide +kernel
theorem dX11_round_111 : decode cX11_round 111 = .ok (.aload_n 0, 1) := by decide +kernel
theorem dX11_round_112 : decode cX11_round 112 = .ok (.getfield 127, 3) := by decide +kernel
theorem dX11_round_115 : decode cX11_round 115 = .ok (.iload_n 1, 1) := by decide +kernel
theorem dX11_round_116 : decode cX11_round 116 = .ok (.iaload, 1) := by decide +kernel
theorem dX11_round_117 : decode cX11_round 117 = .ok (.iadd, 1) := by decide +kernel
theorem dX11_round_118 : decode cX11_round 118 = .ok (.ireturn, 1) := by decide +kernel
theorem dX11_dead_0 : decode cX11_dead 0 = .ok (.aload_n 0, 1) := by decide +kernel
theorem dX11_dead_1 : decode cX11_dead 1 = .ok (.iconst 0, 1) := by decide +kernel
theorem dX11_dead_2 : decode cX11_dead 2 = .ok (.putfield 159, 3) := by decide +kernel
theorem dX11_dead_5 : decode cX11_dead 5 = .ok (.iconst 0, 1) := by decide +kernel
theorem dX11_dead_6 : decode cX11_dead 6 = .ok (.istore_n 1, 1) := by decide +kernel
theorem dX11_dead_7 : decode cX11_dead 7 = .ok (.iconst 0, 1) := by decide +kernel
theorem dX11_dead_8 : decode cX11_dead 8 = .ok (.istore_n 2, 1) := by decide +kernel
theorem dX11_dead_9 : decode cX11_dead 9 = .ok (.iload_n 2, 1) := by decide +kernel
theorem dX11_dead_10 : decode cX11_dead 10 = .ok (.bipush 8, 2) := by decide +kernel
theorem dX11_dead_12 : decode cX11_dead 12 = .ok (.if_icmp .ge 28, 3) := by decide +kernel
theorem dX11_dead_15 : decode cX11_dead 15 = .ok (.iload_n 1, 1) := by decide +kernel
theorem dX11_dead_16 : decode cX11_dead 16 = .ok (.aload_n 0, 1) := by decide +kernel
theorem dX11_dead_17 : decode cX11_dead 17 = .ok (.iload_n 2, 1) := by decide +kernel
theorem dX11_dead_18 : decode cX11_dead 18 = .ok (.invokevirtual 469, 3) := by decide +kernel
theorem dX11_dead_21 : decode cX11_dead 21 = .ok (.iconst 1, 1) := by decide +kernel
theorem dX11_dead_22 : decode cX11_dead 22 = .ok (.if_icmp .ne 9, 3) := by decide +kernel
theorem dX11_dead_25 : decode cX11_dead 25 = .ok (.iconst 1, 1) := by decide +kernel
theorem dX11_dead_26 : decode cX11_dead 26 = .ok (.iload_n 2, 1) := by decide +kernel
theorem dX11_dead_27 : decode cX11_dead 27 = .ok (.ishl, 1) := by decide +kernel
theorem dX11_dead_28 : decode cX11_dead 28 = .ok (.goto 4, 3) := by decide +kernel
theorem dX11_dead_31 : decode cX11_dead 31 = .ok (.iconst 0, 1) := by decide +kernel
theorem dX11_dead_32 : decode cX11_dead 32 = .ok (.ior, 1) := by decide +kernel
theorem dX11_dead_33 : decode cX11_dead 33 = .ok (.istore_n 1, 1) := by decide +kernel
theorem dX11_dead_34 : decode cX11_dead 34 = .ok (.iinc 2 1, 3) := by decide +kernel
theorem dX11_dead_37 : decode cX11_dead 37 = .ok (.goto (-28), 3) := by decide +kernel
theorem dX11_dead_40 : decode cX11_dead 40 = .ok (.iload_n 1, 1) := by decide +kernel
theorem dX11_dead_41 : decode cX11_dead 41 = .ok (.ireturn, 1) := by decide +kernel
theorem dX11_few_0 : decode cX11_few 0 = .ok (.aload_n 0, 1) := by decide +kernel
theorem dX11_few_1 : decode cX11_few 1 = .ok (.iconst 0, 1) := by decide +kernel
theorem dX11_few_2 : decode cX11_few 2 = .ok (.putfield 159, 3) := by decide +kernel
theorem dX11_few_5 : decode cX11_few 5 = .ok (.iload_n 1, 1) := by decide +kernel
theorem dX11_few_6 : decode cX11_few 6 = .ok (.i2l, 1) := by decide +kernel
theorem dX11_few_7 : decode cX11_few 7 = .ok (.lconst 1, 1) := by decide +kernel
theorem dX11_few_8 : decode cX11_few 8 = .ok (.ldc2_w 289, 3) := by decide +kernel
theorem dX11_few_11 : decode cX11_few 11 = .ok (.invokestatic 179, 3) := by decide +kernel
theorem dX11_few_14 : decode cX11_few 14 = .ok (.ifCond .eq 15, 3) := by decide +kernel
theorem dX11_few_17 : decode cX11_few 17 = .ok (.iload_n 2, 1) := by decide +kernel
theorem dX11_few_18 : decode cX11_few 18 = .ok (.i2l, 1) := by decide +kernel
theorem dX11_few_19 : decode cX11_few 19 = .ok (.lconst 0, 1) := by decide +kernel
theorem dX11_few_20 : decode cX11_few 20 = .ok (.ldc2_w 511, 3) := by decide +kernel
theorem dX11_few_23 : decode cX11_few 23 = .ok (.invokestatic 179, 3) := by decide +kernel
theorem dX11_few_26 : decode cX11_few 26 = .ok (.ifCond .ne 7, 3) := by decide +kernel
theorem dX11_few_29 : decode cX11_few 29 = .ok (.ldc2_w 266, 3) := by decide +kernel
theorem dX11_few_32 : decode cX11_few 32 = .ok (.lreturn, 1) := by decide +kernel
theorem dX11_few_33 : decode cX11_few 33 = .ok (.iconst 0, 1) := by decide +kernel
theorem dX11_few_34 : decode cX11_few 34 = .ok (.istore_n 3, 1) := by decide +kernel
theorem dX11_few_35 : decode cX11_few 35 = .ok (.iload_n 3, 1) := by decide +kernel
theorem dX11_few_36 : decode cX11_few 36 = .ok (.bipush 21, 2) := by decide +kernel
theorem dX11_few_38 : decode cX11_few 38 = .ok (.if_icmp .ge 26, 3) := by decide +kernel
theorem dX11_few_41 : decode cX11_few 41 = .ok (.aload_n 0, 1) := by decide +kernel
theorem dX11_few_42 : decode cX11_few 42 = .ok (.getfield 130, 3) := by decide +kernel
theorem dX11_few_45 : decode cX11_few 45 = .ok (.iload_n 3, 1) := by decide +kernel
theorem dX11_few_46 : decode cX11_few 46 = .ok (.iload_n 3, 1) := by decide +kernel
theorem dX11_few_47 : decode cX11_few 47 = .ok (.ifCond .ne 9, 3) := by decide +kernel
theorem dX11_few_50 : decode cX11_few 50 = .ok (.ldc2_w 513, 3) := by decide +kernel
theorem dX11_few_53 : decode cX11_few 53 = .ok (.goto 4, 3) := by decide +kernel
theorem dX11_few_56 : decode cX11_few 56 = .ok (.lconst 0, 1) := by decide +kernel
theorem dX11_few_57 : decode cX11_few 57 = .ok (.lastore, 1) := by decide +kernel
theorem dX11_few_58 : decode cX11_few 58 = .ok (.iinc 3 1, 3) := by decide +kernel
theorem dX11_few_61 : decode cX11_few 61 = .ok (.goto (-26), 3) := by decide +kernel
theorem dX11_few_64 : decode cX11_few 64 = .ok (.aload_n 0, 1) := by decide +kernel
theorem dX11_few_65 : decode cX11_few 65 = .ok (.getfield 13, 3) := by decide +kernel
theorem dX11_few_68 : decode cX11_few 68 = .ok (.bipush 6, 2) := by decide +kernel
theorem dX11_few_70 : decode cX11_few 70 = .ok (.iaload, 1) := by decide +kernel
theorem dX11_few_71 : decode cX11_few 71 = .ok (.istore_n 3, 1) := by decide +kernel
theorem dX11_few_72 : decode cX11_few 72 = .ok (.iconst 0, 1) := by decide +kernel
theorem dX11_few_73 : decode cX11_few 73 = .ok (.istore 4, 2) := by decide +kernel
theorem dX11_few_75 : decode cX11_few 75 = .ok (.iload 4, 2) := by decide +kernel
theorem dX11_few_77 : decode cX11_few 77 = .ok (.iload_n 2, 1) := by decide +kernel
theorem dX11_few_78 : decode cX11_few 78 = .ok (.if_icmp .ge 74, 3) := by decide +kernel
theorem dX11_few_81 : decode cX11_few 81 = .ok (.iload_n 1, 1) := by decide +kernel
theorem dX11_few_82 : decode cX11_few 82 = .ok (.iconst 1, 1) := by decide +kernel
theorem dX11_few_83 : decode cX11_few 83 = .ok (.isub, 1) := by decide +kernel
theorem dX11_few_84 : decode cX11_few 84 = .ok (.istore 5, 2) := by decide +kernel
theorem dX11_few_86 : decode cX11_few 86 = .ok (.iload 5, 2) := by decide +kernel
theorem dX11_few_88 : decode cX11_few 88 = .ok (.ifCond .lt 58, 3) := by decide +kernel
theorem dX11_few_91 : decode cX11_few 91 = .ok (.aload_n 0, 1) := by decide +kernel
theorem dX11_few_92 : decode cX11_few 92 = .ok (.getfield 130, 3) := by decide +kernel
theorem dX11_few_95 : decode cX11_few 95 = .ok (.iload 5, 2) := by decide +kernel
theorem dX11_few_97 : decode cX11_few 97 = .ok (.laload, 1) := by decide +kernel
theorem dX11_few_98 : decode cX11_few 98 = .ok (.lstore 6, 2) := by decide +kernel
theorem dX11_few_100 : decode cX11_few 100 = .ok (.aload_n 0, 1) := by decide +kernel
theorem dX11_few_101 : decode cX11_few 101 = .ok (.getfield 130, 3) := by decide +kernel
theorem dX11_few_104 : decode cX11_few 104 = .ok (.iload 5, 2) := by decide +kernel
theorem dX11_few_106 : decode cX11_few 106 = .ok (.lload 6, 2) := by decide +kernel
theorem dX11_few_108 : decode cX11_few 108 = .ok (.bipush 10, 2) := by decide +kernel
theorem dX11_few_110 : decode cX11_few 110 = .ok (.iload_n 3, 1) := by decide +kernel
theorem dX11_few_111 : decode cX11_few 111 = .ok (.isub, 1) := by decide +kernel
theorem dX11_few_112 : decode cX11_few 112 = .ok (.i2l, 1) := by decide +kernel
theorem dX11_few_113 : decode cX11_few 113 = .ok (.lmul, 1) := by decide +kernel
theorem dX11_few_114 : decode cX11_few 114 = .ok (.ldc2_w 222, 3) := by decide +kernel
theorem dX11_few_117 : decode cX11_few 117 = .ok (.ldiv, 1) := by decide +kernel
theorem dX11_few_118 : decode cX11_few 118 = .ok (.lastore, 1) := by decide +kernel
theorem dX11_few_119 : decode cX11_few 119 = .ok (.aload_n 0, 1) := by decide +kernel
theorem dX11_few_120 : decode cX11_few 120 = .ok (.getfield 130, 3) := by decide +kernel
theorem dX11_few_123 : decode cX11_few 123 = .ok (.iload 5, 2) := by decide +kernel
theorem dX11_few_125 : decode cX11_few 125 = .ok (.iconst 1, 1) := by decide +kernel
theorem dX11_few_126 : decode cX11_few 126 = .ok (.iadd, 1) := by decide +kernel
theorem dX11_few_127 : decode cX11_few 127 = .ok (.dup2, 1) := by decide +kernel
theorem dX11_few_128 : decode cX11_few 128 = .ok (.laload, 1) := by decide +kernel
theorem dX11_few_129 : decode cX11_few 129 = .ok (.lload 6, 2) := by decide +kernel
theorem dX11_few_131 : decode cX11_few 131 = .ok (.iload_n 3, 1) := by decide +kernel
theorem dX11_few_132 : decode cX11_few 132 = .ok (.i2l, 1) := by decide +kernel
theorem dX11_few_133 : decode cX11_few 133 = .ok (.lmul, 1) := by decide +kernel
theorem dX11_few_134 : decode cX11_few 134 = .ok (.ldc2_w 222, 3) := by decide +kernel
theorem dX11_few_137 : decode cX11_few 137 = .ok (.ldiv, 1) := by decide +kernel
theorem dX11_few_138 : decode cX11_few 138 = .ok (.ladd, 1) := by decide +kernel
theorem dX11_few_139 : decode cX11_few 139 = .ok (.lastore, 1) := by decide +kernel
theorem dX11_few_140 : decode cX11_few 140 = .ok (.iinc 5 (-1), 3) := by decide +kernel
theorem dX11_few_143 : decode cX11_few 143 = .ok (.goto (-57), 3) := by decide +kernel
theorem dX11_few_146 : decode cX11_few 146 = .ok (.iinc 4 1, 3) := by decide +kernel
theorem dX11_few_149 : decode cX11_few 149 = .ok (.goto (-74), 3) := by decide +kernel
theorem dX11_few_152 : decode cX11_few 152 = .ok (.lconst 0, 1) := by decide +kernel
theorem dX11_few_153 : decode cX11_few 153 = .ok (.lstore 4, 2) := by decide +kernel
theorem dX11_few_155 : decode cX11_few 155 = .ok (.iconst 0, 1) := by decide +kernel
theorem dX11_few_156 : decode cX11_few 156 = .ok (.istore 6, 2) := by decide +kernel
theorem dX11_few_158 : decode cX11_few 158 = .ok (.iload 6, 2) := by decide +kernel
theorem dX11_few_160 : decode cX11_few 160 = .ok (.iload_n 1, 1) := by decide +kernel
theorem dX11_few_161 : decode cX11_few 161 = .ok (.if_icmp .ge 21, 3) := by decide +kernel
theorem dX11_few_164 : decode cX11_few 164 = .ok (.lload 4, 2) := by decide +kernel
theorem dX11_few_166 : decode cX11_few 166 = .ok (.aload_n 0, 1) := by decide +kernel
theorem dX11_few_167 : decode cX11_few 167 = .ok (.getfield 130, 3) := by decide +kernel
theorem dX11_few_170 : decode cX11_few 170 = .ok (.iload 6, 2) := by decide +kernel
theorem dX11_few_172 : decode cX11_few 172 = .ok (.laload, 1) := by decide +kernel
theorem dX11_few_173 : decode cX11_few 173 = .ok (.ladd, 1) := by decide +kernel
theorem dX11_few_174 : decode cX11_few 174 = .ok (.lstore 4, 2) := by decide +kernel
theorem dX11_few_176 : decode cX11_few 176 = .ok (.iinc 6 1, 3) := by decide +kernel
theorem dX11_few_179 : decode cX11_few 179 = .ok (.goto (-21), 3) := by decide +kernel
theorem dX11_few_182 : decode cX11_few 182 = .ok (.lload 4, 2) := by decide +kernel
theorem dX11_few_184 : decode cX11_few 184 = .ok (.lreturn, 1) := by decide +kernel
theorem dX11_compare_0 : decode cX11_compare 0 = .ok (.aload_n 0, 1) := by decide +kernel
theorem dX11_compare_1 : decode cX11_compare 1 = .ok (.iconst 0, 1) := by decide +kernel
theorem dX11_compare_2 : decode cX11_compare 2 = .ok (.putfield 159, 3) := by decide +kernel
theorem dX11_compare_5 : decode cX11_compare 5 = .ok (.aload_n 0, 1) := by decide +kernel
theorem dX11_compare_6 : decode cX11_compare 6 = .ok (.iload_n 1, 1) := by decide +kernel
theorem dX11_compare_7 : decode cX11_compare 7 = .ok (.invokevirtual 387, 3) := by decide +kernel
theorem dX11_compare_10 : decode cX11_compare 10 = .ok (.ifCond .eq 11, 3) := by decide +kernel
theorem dX11_compare_13 : decode cX11_compare 13 = .ok (.aload_n 0, 1) := by decide +kernel
theorem dX11_compare_14 : decode cX11_compare 14 = .ok (.iload_n 2, 1) := by decide +kernel
theorem dX11_compare_15 : decode cX11_compare 15 = .ok (.invokevirtual 203, 3) := by decide +kernel
theorem dX11_compare_18 : decode cX11_compare 18 = .ok (.ifCond .ne 5, 3) := by decide +kernel
theorem dX11_compare_21 : decode cX11_compare 21 = .ok (.iconst (-1), 1) := by decide +kernel
theorem dX11_compare_22 : decode cX11_compare 22 = .ok (.ireturn, 1) := by decide +kernel
theorem dX11_compare_23 : decode cX11_compare 23 = .ok (.aload_n 0, 1) := by decide +kernel
theorem dX11_compare_24 : decode cX11_compare 24 = .ok (.getfield 13, 3) := by decide +kernel
theorem dX11_compare_27 : decode cX11_compare 27 = .ok (.iconst 4, 1) := by decide +kernel
theorem dX11_compare_28 : decode cX11_compare 28 = .ok (.iaload, 1) := by decide +kernel
theorem dX11_compare_29 : decode cX11_compare 29 = .ok (.istore_n 3, 1) := by decide +kernel
theorem dX11_compare_30 : decode cX11_compare 30 = .ok (.aload_n 0, 1) := by decide +kernel
theorem dX11_compare_31 : decode cX11_compare 31 = .ok (.getfield 13, 3) := by decide +kernel
theorem dX11_compare_34 : decode cX11_compare 34 = .ok (.iconst 4, 1) := by decide +kernel
theorem dX11_compare_35 : decode cX11_compare 35 = .ok (.iload_n 1, 1) := by decide +kernel
theorem dX11_compare_36 : decode cX11_compare 36 = .ok (.iastore, 1) := by decide +kernel
theorem dX11_compare_37 : decode cX11_compare 37 = .ok (.aload_n 0, 1) := by decide +kernel
theorem dX11_compare_38 : decode cX11_compare 38 = .ok (.iload_n 2, 1) := by decide +kernel
theorem dX11_compare_39 : decode cX11_compare 39 = .ok (.invokevirtual 209, 3) := by decide +kernel
theorem dX11_compare_42 : decode cX11_compare 42 = .ok (.istore 4, 2) := by decide +kernel
theorem dX11_compare_44 : decode cX11_compare 44 = .ok (.aload_n 0, 1) := by decide +kernel
theorem dX11_compare_45 : decode cX11_compare 45 = .ok (.getfield 13, 3) := by decide +kernel
theorem dX11_compare_48 : decode cX11_compare 48 = .ok (.iconst 4, 1) := by decide +kernel
theorem dX11_compare_49 : decode cX11_compare 49 = .ok (.iload_n 3, 1) := by decide +kernel
theorem dX11_compare_50 : decode cX11_compare 50 = .ok (.iastore, 1) := by decide +kernel
theorem dX11_compare_51 : decode cX11_compare 51 = .ok (.iload 4, 2) := by decide +kernel
theorem dX11_compare_53 : decode cX11_compare 53 = .ok (.iconst (-1), 1) := by decide +kernel
theorem dX11_compare_54 : decode cX11_compare 54 = .ok (.if_icmp .ne 15, 3) := by decide +kernel
theorem dX11_compare_57 : decode cX11_compare 57 = .ok (.aload_n 0, 1) := by decide +kernel
theorem dX11_compare_58 : decode cX11_compare 58 = .ok (.getfield 13, 3) := by decide +kernel
theorem dX11_compare_61 : decode cX11_compare 61 = .ok (.bipush 18, 2) := by decide +kernel
theorem dX11_compare_63 : decode cX11_compare 63 = .ok (.iload_n 2, 1) := by decide +kernel
theorem dX11_compare_64 : decode cX11_compare 64 = .ok (.iadd, 1) := by decide +kernel
theorem dX11_compare_65 : decode cX11_compare 65 = .ok (.iaload, 1) := by decide +kernel
theorem dX11_compare_66 : decode cX11_compare 66 = .ok (.goto 18, 3) := by decide +kernel
theorem dX11_compare_69 : decode cX11_compare 69 = .ok (.aload_n 0, 1) := by decide +kernel
theorem dX11_compare_70 : decode cX11_compare 70 = .ok (.iload 4, 2) := by decide +kernel
theorem dX11_compare_72 : decode cX11_compare 72 = .ok (.aload_n 0, 1) := by decide +kernel
theorem dX11_compare_73 : decode cX11_compare 73 = .ok (.getfield 13, 3) := by decide +kernel
theorem dX11_compare_76 : decode cX11_compare 76 = .ok (.bipush 18, 2) := by decide +kernel
theorem dX11_compare_78 : decode cX11_compare 78 = .ok (.iload_n 2, 1) := by decide +kernel
theorem dX11_compare_79 : decode cX11_compare 79 = .ok (.iadd, 1) := by decide +kernel
theorem dX11_compare_80 : decode cX11_compare 80 = .ok (.iaload, 1) := by decide +kernel
theorem dX11_compare_81 : decode cX11_compare 81 = .ok (.invokevirtual 430, 3) := by decide +kernel
theorem dX11_compare_84 : decode cX11_compare 84 = .ok (.ireturn, 1) := by decide +kernel
theorem dX11_readSum_0 : decode cX11_readSum 0 = .ok (.aload_n 0, 1) := by decide +kernel
theorem dX11_readSum_1 : decode cX11_readSum 1 = .ok (.getfield 144, 3) := by decide +kernel
theorem dX11_readSum_4 : decode cX11_readSum 4 = .ok (.iload_n 1, 1) := by decide +kernel
theorem dX11_readSum_5 : decode cX11_readSum 5 = .ok (.aload_n 0, 1) := by decide +kernel
theorem dX11_readSum_6 : decode cX11_readSum 6 = .ok (.getfield 276, 3) := by decide +kernel
theorem dX11_readSum_9 : decode cX11_readSum 9 = .ok (.iastore, 1) := by decide +kernel
theorem dX11_readSum_10 : decode cX11_readSum 10 = .ok (.aload_n 0, 1) := by decide +kernel
theorem dX11_readSum_11 : decode cX11_readSum 11 = .ok (.getfield 239, 3) := by decide +kernel
theorem dX11_readSum_14 : decode cX11_readSum 14 = .ok (.ifCond .ne 8, 3) := by decide +kernel
theorem dX11_readSum_17 : decode cX11_readSum 17 = .ok (.aload_n 0, 1) := by decide +kernel
theorem dX11_readSum_18 : decode cX11_readSum 18 = .ok (.iconst 0, 1) := by decide +kernel
theorem dX11_readSum_19 : decode cX11_readSum 19 = .ok (.invokevirtual 373, 3) := by decide +kernel
theorem dX11_readSum_22 : decode cX11_readSum 22 = .ok (.aload_n 0, 1) := by decide +kernel
theorem dX11_readSum_23 : decode cX11_readSum 23 = .ok (.getfield 144, 3) := by decide +kernel
theorem dX11_readSum_26 : decode cX11_readSum 26 = .ok (.iload_n 1, 1) := by decide +kernel
theorem dX11_readSum_27 : decode cX11_readSum 27 = .ok (.iconst 1, 1) := by decide +kernel
theorem dX11_readSum_28 : decode cX11_readSum 28 = .ok (.iadd, 1) := by decide +kernel
theorem dX11_readSum_29 : decode cX11_readSum 29 = .ok (.aload_n 0, 1) := by decide +kernel
theorem dX11_readSum_30 : decode cX11_readSum 30 = .ok (.getfield 276, 3) := by decide +kernel
theorem dX11_readSum_33 : decode cX11_readSum 33 = .ok (.iastore, 1) := by decide +kernel
theorem dX11_readSum_34 : decode cX11_readSum 34 = .ok (.return_, 1) := by decide +kernel
theorem dX11_readOrder_0 : decode cX11_readOrder 0 = .ok (.iconst (-1), 1) := by decide +kernel
theorem dX11_readOrder_1 : decode cX11_readOrder 1 = .ok (.istore_n 1, 1) := by decide +kernel
theorem dX11_readOrder_2 : decode cX11_readOrder 2 = .ok (.iconst 0, 1) := by decide +kernel
theorem dX11_readOrder_3 : decode cX11_readOrder 3 = .ok (.istore_n 2, 1) := by decide +kernel
theorem dX11_readOrder_4 : decode cX11_readOrder 4 = .ok (.iload_n 2, 1) := by decide +kernel
theorem dX11_readOrder_5 : decode cX11_readOrder 5 = .ok (.iconst 4, 1) := by decide +kernel
theorem dX11_readOrder_6 : decode cX11_readOrder 6 = .ok (.if_icmp .ge 28, 3) := by decide +kernel
theorem dX11_readOrder_9 : decode cX11_readOrder 9 = .ok (.aload_n 0, 1) := by decide +kernel
theorem dX11_readOrder_10 : decode cX11_readOrder 10 = .ok (.aload_n 0, 1) := by decide +kernel
theorem dX11_readOrder_11 : decode cX11_readOrder 11 = .ok (.getfield 141, 3) := by decide +kernel
theorem dX11_readOrder_14 : decode cX11_readOrder 14 = .ok (.iload_n 2, 1) := by decide +kernel
theorem dX11_readOrder_15 : decode cX11_readOrder 15 = .ok (.laload, 1) := by decide +kernel
theorem dX11_readOrder_16 : decode cX11_readOrder 16 = .ok (.invokevirtual 297, 3) := by decide +kernel
theorem dX11_readOrder_19 : decode cX11_readOrder 19 = .ok (.ifCond .eq 7, 3) := by decide +kernel
theorem dX11_readOrder_22 : decode cX11_readOrder 22 = .ok (.iload_n 2, 1) := by decide +kernel
theorem dX11_readOrder_23 : decode cX11_readOrder 23 = .ok (.goto 4, 3) := by decide +kernel
theorem dX11_readOrder_26 : decode cX11_readOrder 26 = .ok (.iload_n 1, 1) := by decide +kernel
theorem dX11_readOrder_27 : decode cX11_readOrder 27 = .ok (.istore_n 1, 1) := by decide +kernel
theorem dX11_readOrder_28 : decode cX11_readOrder 28 = .ok (.iinc 2 1, 3) := by decide +kernel
theorem dX11_readOrder_31 : decode cX11_readOrder 31 = .ok (.goto (-27), 3) := by decide +kernel
theorem dX11_readOrder_34 : decode cX11_readOrder 34 = .ok (.aload_n 0, 1) := by decide +kernel
theorem dX11_readOrder_35 : decode cX11_readOrder 35 = .ok (.iload_n 1, 1) := by decide +kernel
theorem dX11_readOrder_36 : decode cX11_readOrder 36 = .ok (.iconst (-1), 1) := by decide +kernel
theorem dX11_readOrder_37 : decode cX11_readOrder 37 = .ok (.if_icmp .eq 16, 3) := by decide +kernel
theorem dX11_readOrder_40 : decode cX11_readOrder 40 = .ok (.aload_n 0, 1) := by decide +kernel
theorem dX11_readOrder_41 : decode cX11_readOrder 41 = .ok (.getfield 370, 3) := by decide +kernel
theorem dX11_readOrder_44 : decode cX11_readOrder 44 = .ok (.bipush 12, 2) := by decide +kernel
theorem dX11_readOrder_46 : decode cX11_readOrder 46 = .ok (.if_icmp .ge 7, 3) := by decide +kernel
theorem dX11_readOrder_49 : decode cX11_readOrder 49 = .ok (.iconst 1, 1) := by decide +kernel
theorem dX11_readOrder_50 : decode cX11_readOrder 50 = .ok (.goto 4, 3) := by decide +kernel
theorem dX11_readOrder_53 : decode cX11_readOrder 53 = .ok (.iconst 0, 1) := by decide +kernel
theorem dX11_readOrder_54 : decode cX11_readOrder 54 = .ok (.invokevirtual 272, 3) := by decide +kernel
theorem dX11_readOrder_57 : decode cX11_readOrder 57 = .ok (.aload_n 0, 1) := by decide +kernel
theorem dX11_readOrder_58 : decode cX11_readOrder 58 = .ok (.getfield 239, 3) := by decide +kernel
theorem dX11_readOrder_61 : decode cX11_readOrder 61 = .ok (.ifCond .eq 4, 3) := by decide +kernel
theorem dX11_readOrder_64 : decode cX11_readOrder 64 = .ok (.return_, 1) := by decide +kernel
theorem dX11_readOrder_65 : decode cX11_readOrder 65 = .ok (.bipush 8, 2) := by decide +kernel
theorem dX11_readOrder_67 : decode cX11_readOrder 67 = .ok (.aload_n 0, 1) := by decide +kernel
theorem dX11_readOrder_68 : decode cX11_readOrder 68 = .ok (.getfield 370, 3) := by decide +kernel
theorem dX11_readOrder_71 : decode cX11_readOrder 71 = .ok (.imul, 1) := by decide +kernel
theorem dX11_readOrder_72 : decode cX11_readOrder 72 = .ok (.istore_n 2, 1) := by decide +kernel
theorem dX11_readOrder_73 : decode cX11_readOrder 73 = .ok (.aload_n 0, 1) := by decide +kernel
theorem dX11_readOrder_74 : decode cX11_readOrder 74 = .ok (.dup, 1) := by decide +kernel
theorem dX11_readOrder_75 : decode cX11_readOrder 75 = .ok (.getfield 370, 3) := by decide +kernel
theorem dX11_readOrder_78 : decode cX11_readOrder 78 = .ok (.iconst 1, 1) := by decide +kernel
theorem dX11_readOrder_79 : decode cX11_readOrder 79 = .ok (.iadd, 1) := by decide +kernel
theorem dX11_readOrder_80 : decode cX11_readOrder 80 = .ok (.putfield 370, 3) := by decide +kernel
theorem dX11_readOrder_83 : decode cX11_readOrder 83 = .ok (.iconst 0, 1) := by decide +kernel
theorem dX11_readOrder_84 : decode cX11_readOrder 84 = .ok (.istore_n 3, 1) := by decide +kernel
theorem dX11_readOrder_85 : decode cX11_readOrder 85 = .ok (.iload_n 3, 1) := by decide +kernel
theorem dX11_readOrder_86 : decode cX11_readOrder 86 = .ok (.bipush 8, 2) := by decide +kernel
theorem dX11_readOrder_88 : decode cX11_readOrder 88 = .ok (.if_icmp .ge 18, 3) := by decide +kernel
theorem dX11_readOrder_91 : decode cX11_readOrder 91 = .ok (.aload_n 0, 1) := by decide +kernel
theorem dX11_readOrder_92 : decode cX11_readOrder 92 = .ok (.getfield 144, 3) := by decide +kernel
theorem dX11_readOrder_95 : decode cX11_readOrder 95 = .ok (.iload_n 2, 1) := by decide +kernel
theorem dX11_readOrder_96 : decode cX11_readOrder 96 = .ok (.iload_n 3, 1) := by decide +kernel
theorem dX11_readOrder_97 : decode cX11_readOrder 97 = .ok (.iadd, 1) := by decide +kernel
theorem dX11_readOrder_98 : decode cX11_readOrder 98 = .ok (.iconst 0, 1) := by decide +kernel
theorem dX11_readOrder_99 : decode cX11_readOrder 99 = .ok (.iastore, 1) := by decide +kernel
theorem dX11_readOrder_100 : decode cX11_readOrder 100 = .ok (.iinc 3 1, 3) := by decide +kernel
theorem dX11_readOrder_103 : decode cX11_readOrder 103 = .ok (.goto (-18), 3) := by decide +kernel
theorem dX11_readOrder_106 : decode cX11_readOrder 106 = .ok (.aload_n 0, 1) := by decide +kernel
theorem dX11_readOrder_107 : decode cX11_readOrder 107 = .ok (.getfield 144, 3) := by decide +kernel
theorem dX11_readOrder_110 : decode cX11_readOrder 110 = .ok (.iload_n 2, 1) := by decide +kernel
theorem dX11_readOrder_111 : decode cX11_readOrder 111 = .ok (.iload_n 1, 1) := by decide +kernel
theorem dX11_readOrder_112 : decode cX11_readOrder 112 = .ok (.iastore, 1) := by decide +kernel
theorem dX11_readOrder_113 : decode cX11_readOrder 113 = .ok (.iload_n 1, 1) := by decide +kernel
theorem dX11_readOrder_114 : decode cX11_readOrder 114 = .ok (.iconst 3, 1) := by decide +kernel
theorem dX11_readOrder_115 : decode cX11_readOrder 115 = .ok (.if_icmp .eq 10, 3) := by decide +kernel
theorem dX11_readOrder_118 : decode cX11_readOrder 118 = .ok (.aload_n 0, 1) := by decide +kernel
theorem dX11_readOrder_119 : decode cX11_readOrder 119 = .ok (.iload_n 2, 1) := by decide +kernel
theorem dX11_readOrder_120 : decode cX11_readOrder 120 = .ok (.iconst 1, 1) := by decide +kernel
theorem dX11_readOrder_121 : decode cX11_readOrder 121 = .ok (.iadd, 1) := by decide +kernel
theorem dX11_readOrder_122 : decode cX11_readOrder 122 = .ok (.invokevirtual 515, 3) := by decide +kernel
theorem dX11_readOrder_125 : decode cX11_readOrder 125 = .ok (.iload_n 1, 1) := by decide +kernel
theorem dX11_readOrder_126 : decode cX11_readOrder 126 = .ok (.iconst 2, 1) := by decide +kernel
theorem dX11_readOrder_127 : decode cX11_readOrder 127 = .ok (.if_icmp .ne 28, 3) := by decide +kernel
theorem dX11_readOrder_130 : decode cX11_readOrder 130 = .ok (.aload_n 0, 1) := by decide +kernel
theorem dX11_readOrder_131 : decode cX11_readOrder 131 = .ok (.getfield 239, 3) := by decide +kernel
theorem dX11_readOrder_134 : decode cX11_readOrder 134 = .ok (.ifCond .ne 14, 3) := by decide +kernel
theorem dX11_readOrder_137 : decode cX11_readOrder 137 = .ok (.aload_n 0, 1) := by decide +kernel
theorem dX11_readOrder_138 : decode cX11_readOrder 138 = .ok (.aload_n 0, 1) := by decide +kernel
theorem dX11_readOrder_139 : decode cX11_readOrder 139 = .ok (.ldc2_w 518, 3) := by decide +kernel
theorem dX11_readOrder_142 : decode cX11_readOrder 142 = .ok (.invokevirtual 297, 3) := by decide +kernel
theorem dX11_readOrder_145 : decode cX11_readOrder 145 = .ok (.invokevirtual 272, 3) := by decide +kernel
theorem dX11_readOrder_148 : decode cX11_readOrder 148 = .ok (.aload_n 0, 1) := by decide +kernel
theorem dX11_readOrder_149 : decode cX11_readOrder 149 = .ok (.iload_n 2, 1) := by decide +kernel
theorem dX11_readOrder_150 : decode cX11_readOrder 150 = .ok (.iconst 3, 1) := by decide +kernel
theorem dX11_readOrder_151 : decode cX11_readOrder 151 = .ok (.iadd, 1) := by decide +kernel
theorem dX11_readOrder_152 : decode cX11_readOrder 152 = .ok (.invokevirtual 515, 3) := by decide +kernel
theorem dX11_readOrder_155 : decode cX11_readOrder 155 = .ok (.aload_n 0, 1) := by decide +kernel
theorem dX11_readOrder_156 : decode cX11_readOrder 156 = .ok (.getfield 144, 3) := by decide +kernel
theorem dX11_readOrder_159 : decode cX11_readOrder 159 = .ok (.iload_n 2, 1) := by decide +kernel
theorem dX11_readOrder_160 : decode cX11_readOrder 160 = .ok (.bipush 7, 2) := by decide +kernel
theorem dX11_readOrder_162 : decode cX11_readOrder 162 = .ok (.iadd, 1) := by decide +kernel
theorem dX11_readOrder_163 : decode cX11_readOrder 163 = .ok (.iconst 1, 1) := by decide +kernel
theorem dX11_readOrder_164 : decode cX11_readOrder 164 = .ok (.iastore, 1) := by decide +kernel
theorem dX11_readOrder_165 : decode cX11_readOrder 165 = .ok (.aload_n 0, 1) := by decide +kernel
theorem dX11_readOrder_166 : decode cX11_readOrder 166 = .ok (.getfield 239, 3) := by decide +kernel
theorem dX11_readOrder_169 : decode cX11_readOrder 169 = .ok (.ifCond .ne 34, 3) := by decide +kernel
theorem dX11_readOrder_172 : decode cX11_readOrder 172 = .ok (.aload_n 0, 1) := by decide +kernel
theorem dX11_readOrder_173 : decode cX11_readOrder 173 = .ok (.ldc2_w 520, 3) := by decide +kernel
theorem dX11_readOrder_176 : decode cX11_readOrder 176 = .ok (.invokevirtual 297, 3) := by decide +kernel
theorem dX11_readOrder_179 : decode cX11_readOrder 179 = .ok (.ifCond .eq 24, 3) := by decide +kernel
theorem dX11_readOrder_182 : decode cX11_readOrder 182 = .ok (.aload_n 0, 1) := by decide +kernel
theorem dX11_readOrder_183 : decode cX11_readOrder 183 = .ok (.invokevirtual 243, 3) := by decide +kernel
theorem dX11_readOrder_186 : decode cX11_readOrder 186 = .ok (.aload_n 0, 1) := by decide +kernel
theorem dX11_readOrder_187 : decode cX11_readOrder 187 = .ok (.getfield 144, 3) := by decide +kernel
theorem dX11_readOrder_190 : decode cX11_readOrder 190 = .ok (.iload_n 2, 1) := by decide +kernel
theorem dX11_readOrder_191 : decode cX11_readOrder 191 = .ok (.bipush 7, 2) := by decide +kernel
theorem dX11_readOrder_193 : decode cX11_readOrder 193 = .ok (.iadd, 1) := by decide +kernel
theorem dX11_readOrder_194 : decode cX11_readOrder 194 = .ok (.aload_n 0, 1) := by decide +kernel
theorem dX11_readOrder_195 : decode cX11_readOrder 195 = .ok (.lconst 1, 1) := by decide +kernel
theorem dX11_readOrder_196 : decode cX11_readOrder 196 = .ok (.ldc2_w 289, 3) := by decide +kernel
theorem dX11_readOrder_199 : decode cX11_readOrder 199 = .ok (.invokevirtual 334, 3) := by decide +kernel
theorem dX11_readOrder_202 : decode cX11_readOrder 202 = .ok (.iastore, 1) := by decide +kernel
theorem dX11_readOrder_203 : decode cX11_readOrder 203 = .ok (.aload_n 0, 1) := by decide +kernel
theorem dX11_readOrder_204 : decode cX11_readOrder 204 = .ok (.getfield 144, 3) := by decide +kernel
theorem dX11_readOrder_207 : decode cX11_readOrder 207 = .ok (.iload_n 2, 1) := by decide +kernel
theorem dX11_readOrder_208 : decode cX11_readOrder 208 = .ok (.iconst 5, 1) := by decide +kernel
theorem dX11_readOrder_209 : decode cX11_readOrder 209 = .ok (.iadd, 1) := by decide +kernel
theorem dX11_readOrder_210 : decode cX11_readOrder 210 = .ok (.aload_n 0, 1) := by decide +kernel
theorem dX11_readOrder_211 : decode cX11_readOrder 211 = .ok (.getfield 276, 3) := by decide +kernel
theorem dX11_readOrder_214 : decode cX11_readOrder 214 = .ok (.iastore, 1) := by decide +kernel
theorem dX11_readOrder_215 : decode cX11_readOrder 215 = .ok (.aload_n 0, 1) := by decide +kernel
theorem dX11_readOrder_216 : decode cX11_readOrder 216 = .ok (.getfield 239, 3) := by decide +kernel
theorem dX11_readOrder_219 : decode cX11_readOrder 219 = .ok (.ifCond .ne 22, 3) := by decide +kernel
theorem dX11_readOrder_222 : decode cX11_readOrder 222 = .ok (.aload_n 0, 1) := by decide +kernel
theorem dX11_readOrder_223 : decode cX11_readOrder 223 = .ok (.ldc2_w 376, 3) := by decide +kernel
theorem dX11_readOrder_226 : decode cX11_readOrder 226 = .ok (.invokevirtual 297, 3) := by decide +kernel
theorem dX11_readOrder_229 : decode cX11_readOrder 229 = .ok (.ifCond .eq 12, 3) := by decide +kernel
theorem dX11_readOrder_232 : decode cX11_readOrder 232 = .ok (.aload_n 0, 1) := by decide +kernel
theorem dX11_readOrder_233 : decode cX11_readOrder 233 = .ok (.invokevirtual 243, 3) := by decide +kernel
theorem dX11_readOrder_236 : decode cX11_readOrder 236 = .ok (.aload_n 0, 1) := by decide +kernel
theorem dX11_readOrder_237 : decode cX11_readOrder 237 = .ok (.iconst 1, 1) := by decide +kernel
theorem dX11_readOrder_238 : decode cX11_readOrder 238 = .ok (.invokevirtual 373, 3) := by decide +kernel
theorem dX11_readOrder_241 : decode cX11_readOrder 241 = .ok (.aload_n 0, 1) := by decide +kernel
theorem dX11_readOrder_242 : decode cX11_readOrder 242 = .ok (.getfield 144, 3) := by decide +kernel
theorem dX11_readOrder_245 : decode cX11_readOrder 245 = .ok (.iload_n 2, 1) := by decide +kernel
theorem dX11_readOrder_246 : decode cX11_readOrder 246 = .ok (.bipush 6, 2) := by decide +kernel
theorem dX11_readOrder_248 : decode cX11_readOrder 248 = .ok (.iadd, 1) := by decide +kernel
theorem dX11_readOrder_249 : decode cX11_readOrder 249 = .ok (.aload_n 0, 1) := by decide +kernel
theorem dX11_readOrder_250 : decode cX11_readOrder 250 = .ok (.getfield 276, 3) := by decide +kernel
theorem dX11_readOrder_253 : decode cX11_readOrder 253 = .ok (.iastore, 1) := by decide +kernel
theorem dX11_readOrder_254 : decode cX11_readOrder 254 = .ok (.return_, 1) := by decide +kernel
theorem dX11_sumOf_0 : decode cX11_sumOf 0 = .ok (.aload_n 0, 1) := by decide +kernel
theorem dX11_sumOf_1 : decode cX11_sumOf 1 = .ok (.getfield 522, 3) := by decide +kernel
theorem dX11_sumOf_4 : decode cX11_sumOf 4 = .ok (.ifCond .ne 20, 3) := by decide +kernel
theorem dX11_sumOf_7 : decode cX11_sumOf 7 = .ok (.aload_n 0, 1) := by decide +kernel
theorem dX11_sumOf_8 : decode cX11_sumOf 8 = .ok (.getfield 144, 3) := by decide +kernel
theorem dX11_sumOf_11 : decode cX11_sumOf 11 = .ok (.iload_n 1, 1) := by decide +kernel
theorem dX11_sumOf_12 : decode cX11_sumOf 12 = .ok (.iaload, 1) := by decide +kernel
theorem dX11_sumOf_13 : decode cX11_sumOf 13 = .ok (.aload_n 0, 1) := by decide +kernel
theorem dX11_sumOf_14 : decode cX11_sumOf 14 = .ok (.getfield 144, 3) := by decide +kernel
theorem dX11_sumOf_17 : decode cX11_sumOf 17 = .ok (.iload_n 1, 1) := by decide +kernel
theorem dX11_sumOf_18 : decode cX11_sumOf 18 = .ok (.iconst 1, 1) := by decide +kernel
theorem dX11_sumOf_19 : decode cX11_sumOf 19 = .ok (.iadd, 1) := by decide +kernel
theorem dX11_sumOf_20 : decode cX11_sumOf 20 = .ok (.iaload, 1) := by decide +kernel
theorem dX11_sumOf_21 : decode cX11_sumOf 21 = .ok (.if_icmp .ne 5, 3) := by decide +kernel
theorem dX11_sumOf_24 : decode cX11_sumOf 24 = .ok (.iconst (-1), 1) := by decide +kernel
theorem dX11_sumOf_25 : decode cX11_sumOf 25 = .ok (.ireturn, 1) := by decide +kernel
theorem dX11_sumOf_26 : decode cX11_sumOf 26 = .ok (.aload_n 0, 1) := by decide +kernel
theorem dX11_sumOf_27 : decode cX11_sumOf 27 = .ok (.iconst 1, 1) := by decide +kernel
theorem dX11_sumOf_28 : decode cX11_sumOf 28 = .ok (.putfield 316, 3) := by decide +kernel
theorem dX11_sumOf_31 : decode cX11_sumOf 31 = .ok (.aload_n 0, 1) := by decide +kernel
theorem dX11_sumOf_32 : decode cX11_sumOf 32 = .ok (.aload_n 0, 1) := by decide +kernel
theorem dX11_sumOf_33 : decode cX11_sumOf 33 = .ok (.getfield 144, 3) := by decide +kernel
theorem dX11_sumOf_36 : decode cX11_sumOf 36 = .ok (.iload_n 1, 1) := by decide +kernel
theorem dX11_sumOf_37 : decode cX11_sumOf 37 = .ok (.iaload, 1) := by decide +kernel
theorem dX11_sumOf_38 : decode cX11_sumOf 38 = .ok (.aload_n 0, 1) := by decide +kernel
theorem dX11_sumOf_39 : decode cX11_sumOf 39 = .ok (.getfield 144, 3) := by decide +kernel
theorem dX11_sumOf_42 : decode cX11_sumOf 42 = .ok (.iload_n 1, 1) := by decide +kernel
theorem dX11_sumOf_43 : decode cX11_sumOf 43 = .ok (.iconst 1, 1) := by decide +kernel
theorem dX11_sumOf_44 : decode cX11_sumOf 44 = .ok (.iadd, 1) := by decide +kernel
theorem dX11_sumOf_45 : decode cX11_sumOf 45 = .ok (.iaload, 1) := by decide +kernel
theorem dX11_sumOf_46 : decode cX11_sumOf 46 = .ok (.invokevirtual 407, 3) := by decide +kernel
theorem dX11_sumOf_49 : decode cX11_sumOf 49 = .ok (.aload_n 0, 1) := by decide +kernel
theorem dX11_sumOf_50 : decode cX11_sumOf 50 = .ok (.iconst 0, 1) := by decide +kernel
theorem dX11_sumOf_51 : decode cX11_sumOf 51 = .ok (.putfield 316, 3) := by decide +kernel
theorem dX11_sumOf_54 : decode cX11_sumOf 54 = .ok (.aload_n 0, 1) := by decide +kernel
theorem dX11_sumOf_55 : decode cX11_sumOf 55 = .ok (.aload_n 0, 1) := by decide +kernel
theorem dX11_sumOf_56 : decode cX11_sumOf 56 = .ok (.getfield 390, 3) := by decide +kernel
theorem dX11_sumOf_59 : decode cX11_sumOf 59 = .ok (.putfield 522, 3) := by decide +kernel
theorem dX11_sumOf_62 : decode cX11_sumOf 62 = .ok (.aload_n 0, 1) := by decide +kernel
theorem dX11_sumOf_63 : decode cX11_sumOf 63 = .ok (.getfield 404, 3) := by decide +kernel
theorem dX11_sumOf_66 : decode cX11_sumOf 66 = .ok (.l2i, 1) := by decide +kernel
theorem dX11_sumOf_67 : decode cX11_sumOf 67 = .ok (.ireturn, 1) := by decide +kernel
theorem dX11_act_0 : decode cX11_act 0 = .ok (.iload_n 1, 1) := by decide +kernel
theorem dX11_act_1 : decode cX11_act 1 = .ok (.tableswitch 46 0 2 #[27, 33, 39], 27) := by decide +kernel
theorem dX11_act_28 : decode cX11_act 28 = .ok (.aload_n 0, 1) := by decide +kernel
theorem dX11_act_29 : decode cX11_act 29 = .ok (.iload_n 2, 1) := by decide +kernel
theorem dX11_act_30 : decode cX11_act 30 = .ok (.invokevirtual 439, 3) := by decide +kernel
theorem dX11_act_33 : decode cX11_act 33 = .ok (.ireturn, 1) := by decide +kernel
theorem dX11_act_34 : decode cX11_act 34 = .ok (.aload_n 0, 1) := by decide +kernel
theorem dX11_act_35 : decode cX11_act 35 = .ok (.iload_n 2, 1) := by decide +kernel
theorem dX11_act_36 : decode cX11_act 36 = .ok (.invokevirtual 445, 3) := by decide +kernel
theorem dX11_act_39 : decode cX11_act 39 = .ok (.ireturn, 1) := by decide +kernel
theorem dX11_act_40 : decode cX11_act 40 = .ok (.aload_n 0, 1) := by decide +kernel
theorem dX11_act_41 : decode cX11_act 41 = .ok (.iload_n 2, 1) := by decide +kernel
theorem dX11_act_42 : decode cX11_act 42 = .ok (.iload_n 3, 1) := by decide +kernel
theorem dX11_act_43 : decode cX11_act 43 = .ok (.invokevirtual 448, 3) := by decide +kernel
theorem dX11_act_46 : decode cX11_act 46 = .ok (.ireturn, 1) := by decide +kernel
theorem dX11_act_47 : decode cX11_act 47 = .ok (.aload_n 0, 1) := by decide +kernel
theorem dX11_act_48 : decode cX11_act 48 = .ok (.invokevirtual 454, 3) := by decide +kernel
theorem dX11_act_51 : decode cX11_act 51 = .ok (.ireturn, 1) := by decide +kernel
theorem dX11_run_0 : decode cX11_run 0 = .ok (.aload_n 0, 1) := by decide +kernel
theorem dX11_run_1 : decode cX11_run 1 = .ok (.getfield 106, 3) := by decide +kernel
theorem dX11_run_4 : decode cX11_run 4 = .ok (.iconst 1, 1) := by decide +kernel
theorem dX11_run_5 : decode cX11_run 5 = .ok (.aload_n 0, 1) := by decide +kernel
theorem dX11_run_6 : decode cX11_run 6 = .ok (.getfield 13, 3) := by decide +kernel
theorem dX11_run_9 : decode cX11_run 9 = .ok (.iconst 5, 1) := by decide +kernel
theorem dX11_run_10 : decode cX11_run 10 = .ok (.iaload, 1) := by decide +kernel
theorem dX11_run_11 : decode cX11_run 11 = .ok (.i2l, 1) := by decide +kernel
theorem dX11_run_12 : decode cX11_run 12 = .ok (.lastore, 1) := by decide +kernel
theorem dX11_run_13 : decode cX11_run 13 = .ok (.aload_n 0, 1) := by decide +kernel
theorem dX11_run_14 : decode cX11_run 14 = .ok (.getfield 106, 3) := by decide +kernel
theorem dX11_run_17 : decode cX11_run 17 = .ok (.iconst 2, 1) := by decide +kernel
theorem dX11_run_18 : decode cX11_run 18 = .ok (.aload_n 0, 1) := by decide +kernel
theorem dX11_run_19 : decode cX11_run 19 = .ok (.getfield 525, 3) := by decide +kernel
theorem dX11_run_22 : decode cX11_run 22 = .ok (.i2l, 1) := by decide +kernel
theorem dX11_run_23 : decode cX11_run 23 = .ok (.lastore, 1) := by decide +kernel
theorem dX11_run_24 : decode cX11_run 24 = .ok (.aload_n 0, 1) := by decide +kernel
theorem dX11_run_25 : decode cX11_run 25 = .ok (.getfield 106, 3) := by decide +kernel
theorem dX11_run_28 : decode cX11_run 28 = .ok (.iconst 3, 1) := by decide +kernel
theorem dX11_run_29 : decode cX11_run 29 = .ok (.aload_n 0, 1) := by decide +kernel
theorem dX11_run_30 : decode cX11_run 30 = .ok (.getfield 528, 3) := by decide +kernel
theorem dX11_run_33 : decode cX11_run 33 = .ok (.i2l, 1) := by decide +kernel
theorem dX11_run_34 : decode cX11_run 34 = .ok (.lastore, 1) := by decide +kernel
theorem dX11_run_35 : decode cX11_run 35 = .ok (.aload_n 0, 1) := by decide +kernel
theorem dX11_run_36 : decode cX11_run 36 = .ok (.getfield 106, 3) := by decide +kernel
theorem dX11_run_39 : decode cX11_run 39 = .ok (.iconst 4, 1) := by decide +kernel
theorem dX11_run_40 : decode cX11_run 40 = .ok (.aload_n 0, 1) := by decide +kernel
theorem dX11_run_41 : decode cX11_run 41 = .ok (.invokevirtual 531, 3) := by decide +kernel
theorem dX11_run_44 : decode cX11_run 44 = .ok (.i2l, 1) := by decide +kernel
theorem dX11_run_45 : decode cX11_run 45 = .ok (.lastore, 1) := by decide +kernel
theorem dX11_run_46 : decode cX11_run 46 = .ok (.aload_n 0, 1) := by decide +kernel
theorem dX11_run_47 : decode cX11_run 47 = .ok (.getfield 106, 3) := by decide +kernel
theorem dX11_run_50 : decode cX11_run 50 = .ok (.iconst 5, 1) := by decide +kernel
theorem dX11_run_51 : decode cX11_run 51 = .ok (.aload_n 0, 1) := by decide +kernel
theorem dX11_run_52 : decode cX11_run 52 = .ok (.getfield 13, 3) := by decide +kernel
theorem dX11_run_55 : decode cX11_run 55 = .ok (.iconst 1, 1) := by decide +kernel
theorem dX11_run_56 : decode cX11_run 56 = .ok (.iaload, 1) := by decide +kernel
theorem dX11_run_57 : decode cX11_run 57 = .ok (.i2l, 1) := by decide +kernel
theorem dX11_run_58 : decode cX11_run 58 = .ok (.lastore, 1) := by decide +kernel
theorem dX11_run_59 : decode cX11_run 59 = .ok (.aload_n 0, 1) := by decide +kernel
theorem dX11_run_60 : decode cX11_run 60 = .ok (.iconst 0, 1) := by decide +kernel
theorem dX11_run_61 : decode cX11_run 61 = .ok (.putfield 522, 3) := by decide +kernel
theorem dX11_run_64 : decode cX11_run 64 = .ok (.aload_n 0, 1) := by decide +kernel
theorem dX11_run_65 : decode cX11_run 65 = .ok (.getfield 144, 3) := by decide +kernel
theorem dX11_run_68 : decode cX11_run 68 = .ok (.iload_n 1, 1) := by decide +kernel
theorem dX11_run_69 : decode cX11_run 69 = .ok (.iconst 5, 1) := by decide +kernel
theorem dX11_run_70 : decode cX11_run 70 = .ok (.iadd, 1) := by decide +kernel
theorem dX11_run_71 : decode cX11_run 71 = .ok (.iaload, 1) := by decide +kernel
theorem dX11_run_72 : decode cX11_run 72 = .ok (.aload_n 0, 1) := by decide +kernel
theorem dX11_run_73 : decode cX11_run 73 = .ok (.getfield 144, 3) := by decide +kernel
theorem dX11_run_76 : decode cX11_run 76 = .ok (.iload_n 1, 1) := by decide +kernel
theorem dX11_run_77 : decode cX11_run 77 = .ok (.bipush 6, 2) := by decide +kernel
theorem dX11_run_79 : decode cX11_run 79 = .ok (.iadd, 1) := by decide +kernel
theorem dX11_run_80 : decode cX11_run 80 = .ok (.iaload, 1) := by decide +kernel
theorem dX11_run_81 : decode cX11_run 81 = .ok (.if_icmp .ge 24, 3) := by decide +kernel
theorem dX11_run_84 : decode cX11_run 84 = .ok (.aload_n 0, 1) := by decide +kernel
theorem dX11_run_85 : decode cX11_run 85 = .ok (.iload_n 1, 1) := by decide +kernel
theorem dX11_run_86 : decode cX11_run 86 = .ok (.iconst 5, 1) := by decide +kernel
theorem dX11_run_87 : decode cX11_run 87 = .ok (.iadd, 1) := by decide +kernel
theorem dX11_run_88 : decode cX11_run 88 = .ok (.invokevirtual 534, 3) := by decide +kernel
theorem dX11_run_91 : decode cX11_run 91 = .ok (.istore_n 2, 1) := by decide +kernel
theorem dX11_run_92 : decode cX11_run 92 = .ok (.aload_n 0, 1) := by decide +kernel
theorem dX11_run_93 : decode cX11_run 93 = .ok (.getfield 522, 3) := by decide +kernel
theorem dX11_run_96 : decode cX11_run 96 = .ok (.ifCond .ne 7, 3) := by decide +kernel
theorem dX11_run_99 : decode cX11_run 99 = .ok (.iload_n 2, 1) := by decide +kernel
theorem dX11_run_100 : decode cX11_run 100 = .ok (.ifCond .ne 5, 3) := by decide +kernel
theorem dX11_run_103 : decode cX11_run 103 = .ok (.iconst 0, 1) := by decide +kernel
theorem dX11_run_104 : decode cX11_run 104 = .ok (.ireturn, 1) := by decide +kernel
theorem dX11_run_105 : decode cX11_run 105 = .ok (.aload_n 0, 1) := by decide +kernel
theorem dX11_run_106 : decode cX11_run 106 = .ok (.iload_n 1, 1) := by decide +kernel
theorem dX11_run_107 : decode cX11_run 107 = .ok (.iconst 1, 1) := by decide +kernel
theorem dX11_run_108 : decode cX11_run 108 = .ok (.iadd, 1) := by decide +kernel
theorem dX11_run_109 : decode cX11_run 109 = .ok (.invokevirtual 534, 3) := by decide +kernel
theorem dX11_run_112 : decode cX11_run 112 = .ok (.istore_n 2, 1) := by decide +kernel
theorem dX11_run_113 : decode cX11_run 113 = .ok (.aload_n 0, 1) := by decide +kernel
theorem dX11_run_114 : decode cX11_run 114 = .ok (.iload_n 1, 1) := by decide +kernel
theorem dX11_run_115 : decode cX11_run 115 = .ok (.iconst 3, 1) := by decide +kernel
theorem dX11_run_116 : decode cX11_run 116 = .ok (.iadd, 1) := by decide +kernel
theorem dX11_run_117 : decode cX11_run 117 = .ok (.invokevirtual 534, 3) := by decide +kernel
theorem dX11_run_120 : decode cX11_run 120 = .ok (.istore_n 3, 1) := by decide +kernel
theorem dX11_run_121 : decode cX11_run 121 = .ok (.aload_n 0, 1) := by decide +kernel
theorem dX11_run_122 : decode cX11_run 122 = .ok (.getfield 522, 3) := by decide +kernel
theorem dX11_run_125 : decode cX11_run 125 = .ok (.ifCond .eq 6, 3) := by decide +kernel
theorem dX11_run_128 : decode cX11_run 128 = .ok (.bipush (-3), 2) := by decide +kernel
theorem dX11_run_130 : decode cX11_run 130 = .ok (.ireturn, 1) := by decide +kernel
theorem dX11_run_131 : decode cX11_run 131 = .ok (.aload_n 0, 1) := by decide +kernel
theorem dX11_run_132 : decode cX11_run 132 = .ok (.aload_n 0, 1) := by decide +kernel
theorem dX11_run_133 : decode cX11_run 133 = .ok (.getfield 144, 3) := by decide +kernel
theorem dX11_run_136 : decode cX11_run 136 = .ok (.iload_n 1, 1) := by decide +kernel
theorem dX11_run_137 : decode cX11_run 137 = .ok (.iaload, 1) := by decide +kernel
theorem dX11_run_138 : decode cX11_run 138 = .ok (.iload_n 2, 1) := by decide +kernel
theorem dX11_run_139 : decode cX11_run 139 = .ok (.iload_n 3, 1) := by decide +kernel
theorem dX11_run_140 : decode cX11_run 140 = .ok (.invokevirtual 537, 3) := by decide +kernel
theorem dX11_run_143 : decode cX11_run 143 = .ok (.istore 4, 2) := by decide +kernel
theorem dX11_run_145 : decode cX11_run 145 = .ok (.iload 4, 2) := by decide +kernel
theorem dX11_run_147 : decode cX11_run 147 = .ok (.ifCond .ge 6, 3) := by decide +kernel
theorem dX11_run_150 : decode cX11_run 150 = .ok (.bipush (-3), 2) := by decide +kernel
theorem dX11_run_152 : decode cX11_run 152 = .ok (.ireturn, 1) := by decide +kernel
theorem dX11_run_153 : decode cX11_run 153 = .ok (.aload_n 0, 1) := by decide +kernel
theorem dX11_run_154 : decode cX11_run 154 = .ok (.aload_n 0, 1) := by decide +kernel
theorem dX11_run_155 : decode cX11_run 155 = .ok (.getfield 144, 3) := by decide +kernel
theorem dX11_run_158 : decode cX11_run 158 = .ok (.iload_n 1, 1) := by decide +kernel
theorem dX11_run_159 : decode cX11_run 159 = .ok (.iaload, 1) := by decide +kernel
theorem dX11_run_160 : decode cX11_run 160 = .ok (.iconst 1, 1) := by decide +kernel
theorem dX11_run_161 : decode cX11_run 161 = .ok (.if_icmp .ne 8, 3) := by decide +kernel
theorem dX11_run_164 : decode cX11_run 164 = .ok (.iload 4, 2) := by decide +kernel
theorem dX11_run_166 : decode cX11_run 166 = .ok (.goto 7, 3) := by decide +kernel
theorem dX11_run_169 : decode cX11_run 169 = .ok (.aload_n 0, 1) := by decide +kernel
theorem dX11_run_170 : decode cX11_run 170 = .ok (.getfield 528, 3) := by decide +kernel
theorem dX11_run_173 : decode cX11_run 173 = .ok (.putfield 528, 3) := by decide +kernel
theorem dX11_run_176 : decode cX11_run 176 = .ok (.aload_n 0, 1) := by decide +kernel
theorem dX11_run_177 : decode cX11_run 177 = .ok (.dup, 1) := by decide +kernel
theorem dX11_run_178 : decode cX11_run 178 = .ok (.getfield 525, 3) := by decide +kernel
theorem dX11_run_181 : decode cX11_run 181 = .ok (.iconst 1, 1) := by decide +kernel
theorem dX11_run_182 : decode cX11_run 182 = .ok (.iadd, 1) := by decide +kernel
theorem dX11_run_183 : decode cX11_run 183 = .ok (.putfield 525, 3) := by decide +kernel
theorem dX11_run_186 : decode cX11_run 186 = .ok (.iconst 0, 1) := by decide +kernel
theorem dX11_run_187 : decode cX11_run 187 = .ok (.ireturn, 1) := by decide +kernel
theorem dX11_giveBack_0 : decode cX11_giveBack 0 = .ok (.aload_n 0, 1) := by decide +kernel
theorem dX11_giveBack_1 : decode cX11_giveBack 1 = .ok (.bipush 17, 2) := by decide +kernel
theorem dX11_giveBack_3 : decode cX11_giveBack 3 = .ok (.invokevirtual 176, 3) := by decide +kernel
theorem dX11_giveBack_6 : decode cX11_giveBack 6 = .ok (.iconst 0, 1) := by decide +kernel
theorem dX11_giveBack_7 : decode cX11_giveBack 7 = .ok (.istore_n 2, 1) := by decide +kernel
theorem dX11_giveBack_8 : decode cX11_giveBack 8 = .ok (.iload_n 2, 1) := by decide +kernel
theorem dX11_giveBack_9 : decode cX11_giveBack 9 = .ok (.sipush 336, 3) := by decide +kernel
theorem dX11_giveBack_12 : decode cX11_giveBack 12 = .ok (.if_icmp .ge 21, 3) := by decide +kernel
theorem dX11_giveBack_15 : decode cX11_giveBack 15 = .ok (.aload_n 0, 1) := by decide +kernel
theorem dX11_giveBack_16 : decode cX11_giveBack 16 = .ok (.getfield 23, 3) := by decide +kernel
theorem dX11_giveBack_19 : decode cX11_giveBack 19 = .ok (.iload_n 2, 1) := by decide +kernel
theorem dX11_giveBack_20 : decode cX11_giveBack 20 = .ok (.aload_n 0, 1) := by decide +kernel
theorem dX11_giveBack_21 : decode cX11_giveBack 21 = .ok (.getfield 29, 3) := by decide +kernel
theorem dX11_giveBack_24 : decode cX11_giveBack 24 = .ok (.iload_n 2, 1) := by decide +kernel
theorem dX11_giveBack_25 : decode cX11_giveBack 25 = .ok (.iaload, 1) := by decide +kernel
theorem dX11_giveBack_26 : decode cX11_giveBack 26 = .ok (.iastore, 1) := by decide +kernel
theorem dX11_giveBack_27 : decode cX11_giveBack 27 = .ok (.iinc 2 1, 3) := by decide +kernel
theorem dX11_giveBack_30 : decode cX11_giveBack 30 = .ok (.goto (-22), 3) := by decide +kernel
theorem dX11_giveBack_33 : decode cX11_giveBack 33 = .ok (.iconst 0, 1) := by decide +kernel
theorem dX11_giveBack_34 : decode cX11_giveBack 34 = .ok (.istore_n 2, 1) := by decide +kernel
theorem dX11_giveBack_35 : decode cX11_giveBack 35 = .ok (.iload_n 2, 1) := by decide +kernel
theorem dX11_giveBack_36 : decode cX11_giveBack 36 = .ok (.bipush 16, 2) := by decide +kernel
theorem dX11_giveBack_38 : decode cX11_giveBack 38 = .ok (.if_icmp .ge 21, 3) := by decide +kernel
theorem dX11_giveBack_41 : decode cX11_giveBack 41 = .ok (.aload_n 0, 1) := by decide +kernel
theorem dX11_giveBack_42 : decode cX11_giveBack 42 = .ok (.getfield 26, 3) := by decide +kernel
theorem dX11_giveBack_45 : decode cX11_giveBack 45 = .ok (.iload_n 2, 1) := by decide +kernel
theorem dX11_giveBack_46 : decode cX11_giveBack 46 = .ok (.aload_n 0, 1) := by decide +kernel
theorem dX11_giveBack_47 : decode cX11_giveBack 47 = .ok (.getfield 32, 3) := by decide +kernel
theorem dX11_giveBack_50 : decode cX11_giveBack 50 = .ok (.iload_n 2, 1) := by decide +kernel
theorem dX11_giveBack_51 : decode cX11_giveBack 51 = .ok (.iaload, 1) := by decide +kernel
theorem dX11_giveBack_52 : decode cX11_giveBack 52 = .ok (.iastore, 1) := by decide +kernel
theorem dX11_giveBack_53 : decode cX11_giveBack 53 = .ok (.iinc 2 1, 3) := by decide +kernel
theorem dX11_giveBack_56 : decode cX11_giveBack 56 = .ok (.goto (-21), 3) := by decide +kernel
theorem dX11_giveBack_59 : decode cX11_giveBack 59 = .ok (.aload_n 0, 1) := by decide +kernel
theorem dX11_giveBack_60 : decode cX11_giveBack 60 = .ok (.iload_n 1, 1) := by decide +kernel
theorem dX11_giveBack_61 : decode cX11_giveBack 61 = .ok (.putfield 165, 3) := by decide +kernel
theorem dX11_giveBack_64 : decode cX11_giveBack 64 = .ok (.return_, 1) := by decide +kernel
theorem dX11_orders_0 : decode cX11_orders 0 = .ok (.aload_n 0, 1) := by decide +kernel
theorem dX11_orders_1 : decode cX11_orders 1 = .ok (.iconst 0, 1) := by decide +kernel
theorem dX11_orders_2 : decode cX11_orders 2 = .ok (.putfield 159, 3) := by decide +kernel
theorem dX11_orders_5 : decode cX11_orders 5 = .ok (.aload_n 0, 1) := by decide +kernel
theorem dX11_orders_6 : decode cX11_orders 6 = .ok (.iconst (-1), 1) := by decide +kernel
theorem dX11_orders_7 : decode cX11_orders 7 = .ok (.putfield 147, 3) := by decide +kernel
theorem dX11_orders_10 : decode cX11_orders 10 = .ok (.aload_n 0, 1) := by decide +kernel
theorem dX11_orders_11 : decode cX11_orders 11 = .ok (.iconst 1, 1) := by decide +kernel
theorem dX11_orders_12 : decode cX11_orders 12 = .ok (.invokevirtual 378, 3) := by decide +kernel
theorem dX11_orders_15 : decode cX11_orders 15 = .ok (.aload_n 0, 1) := by decide +kernel
theorem dX11_orders_16 : decode cX11_orders 16 = .ok (.invokevirtual 541, 3) := by decide +kernel
theorem dX11_orders_19 : decode cX11_orders 19 = .ok (.aload_n 0, 1) := by decide +kernel
theorem dX11_orders_20 : decode cX11_orders 20 = .ok (.getfield 239, 3) := by decide +kernel
theorem dX11_orders_23 : decode cX11_orders 23 = .ok (.ifCond .ne 23, 3) := by decide +kernel
theorem dX11_orders_26 : decode cX11_orders 26 = .ok (.aload_n 0, 1) := by decide +kernel
theorem dX11_orders_27 : decode cX11_orders 27 = .ok (.bipush 59, 2) := by decide +kernel
theorem dX11_orders_29 : decode cX11_orders 29 = .ok (.invokevirtual 310, 3) := by decide +kernel
theorem dX11_orders_32 : decode cX11_orders 32 = .ok (.ifCond .eq 14, 3) := by decide +kernel
theorem dX11_orders_35 : decode cX11_orders 35 = .ok (.aload_n 0, 1) := by decide +kernel
theorem dX11_orders_36 : decode cX11_orders 36 = .ok (.invokevirtual 243, 3) := by decide +kernel
theorem dX11_orders_39 : decode cX11_orders 39 = .ok (.aload_n 0, 1) := by decide +kernel
theorem dX11_orders_40 : decode cX11_orders 40 = .ok (.invokevirtual 541, 3) := by decide +kernel
theorem dX11_orders_43 : decode cX11_orders 43 = .ok (.goto (-24), 3) := by decide +kernel
theorem dX11_orders_46 : decode cX11_orders 46 = .ok (.aload_n 0, 1) := by decide +kernel
theorem dX11_orders_47 : decode cX11_orders 47 = .ok (.invokevirtual 384, 3) := by decide +kernel
theorem dX11_orders_50 : decode cX11_orders 50 = .ok (.aload_n 0, 1) := by decide +kernel
theorem dX11_orders_51 : decode cX11_orders 51 = .ok (.getfield 239, 3) := by decide +kernel
theorem dX11_orders_54 : decode cX11_orders 54 = .ok (.ifCond .eq 10, 3) := by decide +kernel
theorem dX11_orders_57 : decode cX11_orders 57 = .ok (.aload_n 0, 1) := by decide +kernel
theorem dX11_orders_58 : decode cX11_orders 58 = .ok (.bipush (-6), 2) := by decide +kernel
theorem dX11_orders_60 : decode cX11_orders 60 = .ok (.invokevirtual 168, 3) := by decide +kernel
theorem dX11_orders_63 : decode cX11_orders 63 = .ok (.ireturn, 1) := by decide +kernel
theorem dX11_orders_64 : decode cX11_orders 64 = .ok (.aload_n 0, 1) := by decide +kernel
theorem dX11_orders_65 : decode cX11_orders 65 = .ok (.bipush 17, 2) := by decide +kernel
theorem dX11_orders_67 : decode cX11_orders 67 = .ok (.invokevirtual 172, 3) := by decide +kernel
theorem dX11_orders_70 : decode cX11_orders 70 = .ok (.aload_n 0, 1) := by decide +kernel
theorem dX11_orders_71 : decode cX11_orders 71 = .ok (.getfield 165, 3) := by decide +kernel
theorem dX11_orders_74 : decode cX11_orders 74 = .ok (.istore_n 1, 1) := by decide +kernel
theorem dX11_orders_75 : decode cX11_orders 75 = .ok (.iconst 0, 1) := by decide +kernel
theorem dX11_orders_76 : decode cX11_orders 76 = .ok (.istore_n 2, 1) := by decide +kernel
theorem dX11_orders_77 : decode cX11_orders 77 = .ok (.iload_n 2, 1) := by decide +kernel
theorem dX11_orders_78 : decode cX11_orders 78 = .ok (.sipush 336, 3) := by decide +kernel
theorem dX11_orders_81 : decode cX11_orders 81 = .ok (.if_icmp .ge 21, 3) := by decide +kernel
theorem dX11_orders_84 : decode cX11_orders 84 = .ok (.aload_n 0, 1) := by decide +kernel
theorem dX11_orders_85 : decode cX11_orders 85 = .ok (.getfield 29, 3) := by decide +kernel
theorem dX11_orders_88 : decode cX11_orders 88 = .ok (.iload_n 2, 1) := by decide +kernel
theorem dX11_orders_89 : decode cX11_orders 89 = .ok (.aload_n 0, 1) := by decide +kernel
theorem dX11_orders_90 : decode cX11_orders 90 = .ok (.getfield 23, 3) := by decide +kernel
theorem dX11_orders_93 : decode cX11_orders 93 = .ok (.iload_n 2, 1) := by decide +kernel
theorem dX11_orders_94 : decode cX11_orders 94 = .ok (.iaload, 1) := by decide +kernel
theorem dX11_orders_95 : decode cX11_orders 95 = .ok (.iastore, 1) := by decide +kernel
theorem dX11_orders_96 : decode cX11_orders 96 = .ok (.iinc 2 1, 3) := by decide +kernel
theorem dX11_orders_99 : decode cX11_orders 99 = .ok (.goto (-22), 3) := by decide +kernel
theorem dX11_orders_102 : decode cX11_orders 102 = .ok (.iconst 0, 1) := by decide +kernel
theorem dX11_orders_103 : decode cX11_orders 103 = .ok (.istore_n 2, 1) := by decide +kernel
theorem dX11_orders_104 : decode cX11_orders 104 = .ok (.iload_n 2, 1) := by decide +kernel
theorem dX11_orders_105 : decode cX11_orders 105 = .ok (.bipush 16, 2) := by decide +kernel
theorem dX11_orders_107 : decode cX11_orders 107 = .ok (.if_icmp .ge 21, 3) := by decide +kernel
theorem dX11_orders_110 : decode cX11_orders 110 = .ok (.aload_n 0, 1) := by decide +kernel
theorem dX11_orders_111 : decode cX11_orders 111 = .ok (.getfield 32, 3) := by decide +kernel
theorem dX11_orders_114 : decode cX11_orders 114 = .ok (.iload_n 2, 1) := by decide +kernel
theorem dX11_orders_115 : decode cX11_orders 115 = .ok (.aload_n 0, 1) := by decide +kernel
theorem dX11_orders_116 : decode cX11_orders 116 = .ok (.getfield 26, 3) := by decide +kernel
theorem dX11_orders_119 : decode cX11_orders 119 = .ok (.iload_n 2, 1) := by decide +kernel
theorem dX11_orders_120 : decode cX11_orders 120 = .ok (.iaload, 1) := by decide +kernel
theorem dX11_orders_121 : decode cX11_orders 121 = .ok (.iastore, 1) := by decide +kernel
theorem dX11_orders_122 : decode cX11_orders 122 = .ok (.iinc 2 1, 3) := by decide +kernel
theorem dX11_orders_125 : decode cX11_orders 125 = .ok (.goto (-21), 3) := by decide +kernel
theorem dX11_orders_128 : decode cX11_orders 128 = .ok (.aload_n 0, 1) := by decide +kernel
theorem dX11_orders_129 : decode cX11_orders 129 = .ok (.iconst 0, 1) := by decide +kernel
theorem dX11_orders_130 : decode cX11_orders 130 = .ok (.putfield 525, 3) := by decide +kernel
theorem dX11_orders_133 : decode cX11_orders 133 = .ok (.aload_n 0, 1) := by decide +kernel
theorem dX11_orders_134 : decode cX11_orders 134 = .ok (.iconst (-1), 1) := by decide +kernel
theorem dX11_orders_135 : decode cX11_orders 135 = .ok (.putfield 528, 3) := by decide +kernel
theorem dX11_orders_138 : decode cX11_orders 138 = .ok (.iconst 0, 1) := by decide +kernel
theorem dX11_orders_139 : decode cX11_orders 139 = .ok (.istore_n 2, 1) := by decide +kernel
theorem dX11_orders_140 : decode cX11_orders 140 = .ok (.iload_n 2, 1) := by decide +kernel
theorem dX11_orders_141 : decode cX11_orders 141 = .ok (.aload_n 0, 1) := by decide +kernel
theorem dX11_orders_142 : decode cX11_orders 142 = .ok (.getfield 370, 3) := by decide +kernel
theorem dX11_orders_145 : decode cX11_orders 145 = .ok (.if_icmp .ge 61, 3) := by decide +kernel
theorem dX11_orders_148 : decode cX11_orders 148 = .ok (.iconst 0, 1) := by decide +kernel
theorem dX11_orders_149 : decode cX11_orders 149 = .ok (.istore_n 3, 1) := by decide +kernel
theorem dX11_orders_150 : decode cX11_orders 150 = .ok (.iload_n 3, 1) := by decide +kernel
theorem dX11_orders_151 : decode cX11_orders 151 = .ok (.aload_n 0, 1) := by decide +kernel
theorem dX11_orders_152 : decode cX11_orders 152 = .ok (.getfield 144, 3) := by decide +kernel
theorem dX11_orders_155 : decode cX11_orders 155 = .ok (.bipush 8, 2) := by decide +kernel
theorem dX11_orders_157 : decode cX11_orders 157 = .ok (.iload_n 2, 1) := by decide +kernel
theorem dX11_orders_158 : decode cX11_orders 158 = .ok (.imul, 1) := by decide +kernel
theorem dX11_orders_159 : decode cX11_orders 159 = .ok (.bipush 7, 2) := by decide +kernel
theorem dX11_orders_161 : decode cX11_orders 161 = .ok (.iadd, 1) := by decide +kernel
theorem dX11_orders_162 : decode cX11_orders 162 = .ok (.iaload, 1) := by decide +kernel
theorem dX11_orders_163 : decode cX11_orders 163 = .ok (.if_icmp .ge 37, 3) := by decide +kernel
theorem dX11_orders_166 : decode cX11_orders 166 = .ok (.aload_n 0, 1) := by decide +kernel
theorem dX11_orders_167 : decode cX11_orders 167 = .ok (.bipush 8, 2) := by decide +kernel
theorem dX11_orders_169 : decode cX11_orders 169 = .ok (.iload_n 2, 1) := by decide +kernel
theorem dX11_orders_170 : decode cX11_orders 170 = .ok (.imul, 1) := by decide +kernel
theorem dX11_orders_171 : decode cX11_orders 171 = .ok (.invokevirtual 544, 3) := by decide +kernel
theorem dX11_orders_174 : decode cX11_orders 174 = .ok (.ifCond .ge 20, 3) := by decide +kernel
theorem dX11_orders_177 : decode cX11_orders 177 = .ok (.aload_n 0, 1) := by decide +kernel
theorem dX11_orders_178 : decode cX11_orders 178 = .ok (.iload_n 1, 1) := by decide +kernel
theorem dX11_orders_179 : decode cX11_orders 179 = .ok (.invokevirtual 547, 3) := by decide +kernel
theorem dX11_orders_182 : decode cX11_orders 182 = .ok (.aload_n 0, 1) := by decide +kernel
theorem dX11_orders_183 : decode cX11_orders 183 = .ok (.iload_n 2, 1) := by decide +kernel
theorem dX11_orders_184 : decode cX11_orders 184 = .ok (.putfield 147, 3) := by decide +kernel
theorem dX11_orders_187 : decode cX11_orders 187 = .ok (.aload_n 0, 1) := by decide +kernel
theorem dX11_orders_188 : decode cX11_orders 188 = .ok (.bipush (-3), 2) := by decide +kernel
theorem dX11_orders_190 : decode cX11_orders 190 = .ok (.invokevirtual 168, 3) := by decide +kernel
theorem dX11_orders_193 : decode cX11_orders 193 = .ok (.ireturn, 1) := by decide +kernel
theorem dX11_orders_194 : decode cX11_orders 194 = .ok (.iinc 3 1, 3) := by decide +kernel
theorem dX11_orders_197 : decode cX11_orders 197 = .ok (.goto (-47), 3) := by decide +kernel
theorem dX11_orders_200 : decode cX11_orders 200 = .ok (.iinc 2 1, 3) := by decide +kernel
theorem dX11_orders_203 : decode cX11_orders 203 = .ok (.goto (-63), 3) := by decide +kernel
theorem dX11_orders_206 : decode cX11_orders 206 = .ok (.aload_n 0, 1) := by decide +kernel
theorem dX11_orders_207 : decode cX11_orders 207 = .ok (.aload_n 0, 1) := by decide +kernel
theorem dX11_orders_208 : decode cX11_orders 208 = .ok (.getfield 525, 3) := by decide +kernel
theorem dX11_orders_211 : decode cX11_orders 211 = .ok (.invokevirtual 168, 3) := by decide +kernel
theorem dX11_orders_214 : decode cX11_orders 214 = .ok (.ireturn, 1) := by decide +kernel
theorem dX11_stopped_0 : decode cX11_stopped 0 = .ok (.aload_n 0, 1) := by decide +kernel
theorem dX11_stopped_1 : decode cX11_stopped 1 = .ok (.iconst 0, 1) := by decide +kernel
theorem dX11_stopped_2 : decode cX11_stopped 2 = .ok (.putfield 159, 3) := by decide +kernel
theorem dX11_stopped_5 : decode cX11_stopped 5 = .ok (.aload_n 0, 1) := by decide +kernel
theorem dX11_stopped_6 : decode cX11_stopped 6 = .ok (.getfield 147, 3) := by decide +kernel
theorem dX11_stopped_9 : decode cX11_stopped 9 = .ok (.ireturn, 1) := by decide +kernel
theorem dX11_draw_0 : decode cX11_draw 0 = .ok (.aload_n 0, 1) := by decide +kernel
theorem dX11_draw_1 : decode cX11_draw 1 = .ok (.aload_n 0, 1) := by decide +kernel
theorem dX11_draw_2 : decode cX11_draw 2 = .ok (.getfield 550, 3) := by decide +kernel
theorem dX11_draw_5 : decode cX11_draw 5 = .ok (.ldc2_w 553, 3) := by decide +kernel
theorem dX11_draw_8 : decode cX11_draw 8 = .ok (.lmul, 1) := by decide +kernel
theorem dX11_draw_9 : decode cX11_draw 9 = .ok (.ldc2_w 555, 3) := by decide +kernel
theorem dX11_draw_12 : decode cX11_draw 12 = .ok (.ladd, 1) := by decide +kernel
theorem dX11_draw_13 : decode cX11_draw 13 = .ok (.ldc2_w 557, 3) := by decide +kernel
theorem dX11_draw_16 : decode cX11_draw 16 = .ok (.lrem, 1) := by decide +kernel
theorem dX11_draw_17 : decode cX11_draw 17 = .ok (.putfield 550, 3) := by decide +kernel
theorem dX11_draw_20 : decode cX11_draw 20 = .ok (.aload_n 0, 1) := by decide +kernel
theorem dX11_draw_21 : decode cX11_draw 21 = .ok (.getfield 550, 3) := by decide +kernel
theorem dX11_draw_24 : decode cX11_draw 24 = .ok (.iload_n 1, 1) := by decide +kernel
theorem dX11_draw_25 : decode cX11_draw 25 = .ok (.i2l, 1) := by decide +kernel
theorem dX11_draw_26 : decode cX11_draw 26 = .ok (.lrem, 1) := by decide +kernel
theorem dX11_draw_27 : decode cX11_draw 27 = .ok (.l2i, 1) := by decide +kernel
theorem dX11_draw_28 : decode cX11_draw 28 = .ok (.ireturn, 1) := by decide +kernel
theorem dX11_decades_0 : decode cX11_decades 0 = .ok (.aload_n 0, 1) := by decide +kernel
theorem dX11_decades_1 : decode cX11_decades 1 = .ok (.iconst 0, 1) := by decide +kernel
theorem dX11_decades_2 : decode cX11_decades 2 = .ok (.putfield 159, 3) := by decide +kernel
theorem dX11_decades_5 : decode cX11_decades 5 = .ok (.iload_n 1, 1) := by decide +kernel
theorem dX11_decades_6 : decode cX11_decades 6 = .ok (.i2l, 1) := by decide +kernel
theorem dX11_decades_7 : decode cX11_decades 7 = .ok (.lconst 0, 1) := by decide +kernel
theorem dX11_decades_8 : decode cX11_decades 8 = .ok (.ldc2_w 268, 3) := by decide +kernel
theorem dX11_decades_11 : decode cX11_decades 11 = .ok (.invokestatic 179, 3) := by decide +kernel
theorem dX11_decades_14 : decode cX11_decades 14 = .ok (.ifCond .eq 15, 3) := by decide +kernel
theorem dX11_decades_17 : decode cX11_decades 17 = .ok (.iload_n 2, 1) := by decide +kernel
theorem dX11_decades_18 : decode cX11_decades 18 = .ok (.i2l, 1) := by decide +kernel
theorem dX11_decades_19 : decode cX11_decades 19 = .ok (.lconst 1, 1) := by decide +kernel
theorem dX11_decades_20 : decode cX11_decades 20 = .ok (.ldc2_w 457, 3) := by decide +kernel
theorem dX11_decades_23 : decode cX11_decades 23 = .ok (.invokestatic 179, 3) := by decide +kernel
theorem dX11_decades_26 : decode cX11_decades 26 = .ok (.ifCond .ne 9, 3) := by decide +kernel
theorem dX11_decades_29 : decode cX11_decades 29 = .ok (.aload_n 0, 1) := by decide +kernel
theorem dX11_decades_30 : decode cX11_decades 30 = .ok (.iconst (-1), 1) := by decide +kernel
theorem dX11_decades_31 : decode cX11_decades 31 = .ok (.invokevirtual 168, 3) := by decide +kernel
theorem dX11_decades_34 : decode cX11_decades 34 = .ok (.ireturn, 1) := by decide +kernel
theorem dX11_decades_35 : decode cX11_decades 35 = .ok (.aload_n 0, 1) := by decide +kernel
theorem dX11_decades_36 : decode cX11_decades 36 = .ok (.getfield 13, 3) := by decide +kernel
theorem dX11_decades_39 : decode cX11_decades 39 = .ok (.iconst 1, 1) := by decide +kernel
theorem dX11_decades_40 : decode cX11_decades 40 = .ok (.iaload, 1) := by decide +kernel
theorem dX11_decades_41 : decode cX11_decades 41 = .ok (.ifCond .ne 10, 3) := by decide +kernel
theorem dX11_decades_44 : decode cX11_decades 44 = .ok (.aload_n 0, 1) := by decide +kernel
theorem dX11_decades_45 : decode cX11_decades 45 = .ok (.bipush (-3), 2) := by decide +kernel
theorem dX11_decades_47 : decode cX11_decades 47 = .ok (.invokevirtual 168, 3) := by decide +kernel
theorem dX11_decades_50 : decode cX11_decades 50 = .ok (.ireturn, 1) := by decide +kernel
theorem dX11_decades_51 : decode cX11_decades 51 = .ok (.aload_n 0, 1) := by decide +kernel
theorem dX11_decades_52 : decode cX11_decades 52 = .ok (.bipush 16, 2) := by decide +kernel
theorem dX11_decades_54 : decode cX11_decades 54 = .ok (.invokevirtual 172, 3) := by decide +kernel
theorem dX11_decades_57 : decode cX11_decades 57 = .ok (.aload_n 0, 1) := by decide +kernel
theorem dX11_decades_58 : decode cX11_decades 58 = .ok (.iload_n 1, 1) := by decide +kernel
theorem dX11_decades_59 : decode cX11_decades 59 = .ok (.i2l, 1) := by decide +kernel
theorem dX11_decades_60 : decode cX11_decades 60 = .ok (.putfield 550, 3) := by decide +kernel
theorem dX11_decades_63 : decode cX11_decades 63 = .ok (.iconst 0, 1) := by decide +kernel
theorem dX11_decades_64 : decode cX11_decades 64 = .ok (.istore_n 3, 1) := by decide +kernel
theorem dX11_decades_65 : decode cX11_decades 65 = .ok (.iload_n 3, 1) := by decide +kernel
theorem dX11_decades_66 : decode cX11_decades 66 = .ok (.iload_n 2, 1) := by decide +kernel
theorem dX11_decades_67 : decode cX11_decades 67 = .ok (.if_icmp .ge 111, 3) := by decide +kernel
theorem dX11_decades_70 : decode cX11_decades 70 = .ok (.aload_n 0, 1) := by decide +kernel
theorem dX11_decades_71 : decode cX11_decades 71 = .ok (.getfield 13, 3) := by decide +kernel
theorem dX11_decades_74 : decode cX11_decades 74 = .ok (.iconst 5, 1) := by decide +kernel
theorem dX11_decades_75 : decode cX11_decades 75 = .ok (.iaload, 1) := by decide +kernel
theorem dX11_decades_76 : decode cX11_decades 76 = .ok (.sipush 999, 3) := by decide +kernel
theorem dX11_decades_79 : decode cX11_decades 79 = .ok (.if_icmp .ge 99, 3) := by decide +kernel
theorem dX11_decades_82 : decode cX11_decades 82 = .ok (.aload_n 0, 1) := by decide +kernel
theorem dX11_decades_83 : decode cX11_decades 83 = .ok (.aload_n 0, 1) := by decide +kernel
theorem dX11_decades_84 : decode cX11_decades 84 = .ok (.getfield 13, 3) := by decide +kernel
theorem dX11_decades_87 : decode cX11_decades 87 = .ok (.iconst 1, 1) := by decide +kernel
theorem dX11_decades_88 : decode cX11_decades 88 = .ok (.iaload, 1) := by decide +kernel
theorem dX11_decades_89 : decode cX11_decades 89 = .ok (.invokevirtual 559, 3) := by decide +kernel
theorem dX11_decades_92 : decode cX11_decades 92 = .ok (.istore 4, 2) := by decide +kernel
theorem dX11_decades_94 : decode cX11_decades 94 = .ok (.aload_n 0, 1) := by decide +kernel
theorem dX11_decades_95 : decode cX11_decades 95 = .ok (.bipush 8, 2) := by decide +kernel
theorem dX11_decades_97 : decode cX11_decades 97 = .ok (.invokevirtual 559, 3) := by decide +kernel
theorem dX11_decades_100 : decode cX11_decades 100 = .ok (.istore 5, 2) := by decide +kernel
theorem dX11_decades_102 : decode cX11_decades 102 = .ok (.aload_n 0, 1) := by decide +kernel
theorem dX11_decades_103 : decode cX11_decades 103 = .ok (.iconst 4, 1) := by decide +kernel
theorem dX11_decades_104 : decode cX11_decades 104 = .ok (.invokevirtual 559, 3) := by decide +kernel
theorem dX11_decades_107 : decode cX11_decades 107 = .ok (.istore 6, 2) := by decide +kernel
theorem dX11_decades_109 : decode cX11_decades 109 = .ok (.iload 6, 2) := by decide +kernel
theorem dX11_decades_111 : decode cX11_decades 111 = .ok (.iconst 2, 1) := by decide +kernel
theorem dX11_decades_112 : decode cX11_decades 112 = .ok (.if_icmp .ge 24, 3) := by decide +kernel
theorem dX11_decades_115 : decode cX11_decades 115 = .ok (.aload_n 0, 1) := by decide +kernel
theorem dX11_decades_116 : decode cX11_decades 116 = .ok (.getfield 13, 3) := by decide +kernel
theorem dX11_decades_119 : decode cX11_decades 119 = .ok (.bipush 22, 2) := by decide +kernel
theorem dX11_decades_121 : decode cX11_decades 121 = .ok (.iload 4, 2) := by decide +kernel
theorem dX11_decades_123 : decode cX11_decades 123 = .ok (.iadd, 1) := by decide +kernel
theorem dX11_decades_124 : decode cX11_decades 124 = .ok (.iaload, 1) := by decide +kernel
theorem dX11_decades_125 : decode cX11_decades 125 = .ok (.iconst (-1), 1) := by decide +kernel
theorem dX11_decades_126 : decode cX11_decades 126 = .ok (.if_icmp .eq 10, 3) := by decide +kernel
theorem dX11_decades_129 : decode cX11_decades 129 = .ok (.aload_n 0, 1) := by decide +kernel
theorem dX11_decades_130 : decode cX11_decades 130 = .ok (.iload 4, 2) := by decide +kernel
theorem dX11_decades_132 : decode cX11_decades 132 = .ok (.invokevirtual 442, 3) := by decide +kernel
theorem dX11_decades_135 : decode cX11_decades 135 = .ok (.pop, 1) := by decide +kernel
theorem dX11_decades_136 : decode cX11_decades 136 = .ok (.aload_n 0, 1) := by decide +kernel
theorem dX11_decades_137 : decode cX11_decades 137 = .ok (.getfield 13, 3) := by decide +kernel
theorem dX11_decades_140 : decode cX11_decades 140 = .ok (.bipush 18, 2) := by decide +kernel
theorem dX11_decades_142 : decode cX11_decades 142 = .ok (.iload 4, 2) := by decide +kernel
theorem dX11_decades_144 : decode cX11_decades 144 = .ok (.iadd, 1) := by decide +kernel
theorem dX11_decades_145 : decode cX11_decades 145 = .ok (.iload 6, 2) := by decide +kernel
theorem dX11_decades_147 : decode cX11_decades 147 = .ok (.iconst 2, 1) := by decide +kernel
theorem dX11_decades_148 : decode cX11_decades 148 = .ok (.if_icmp .ne 8, 3) := by decide +kernel
theorem dX11_decades_151 : decode cX11_decades 151 = .ok (.iload 5, 2) := by decide +kernel
theorem dX11_decades_153 : decode cX11_decades 153 = .ok (.goto 13, 3) := by decide +kernel
theorem dX11_decades_156 : decode cX11_decades 156 = .ok (.aload_n 0, 1) := by decide +kernel
theorem dX11_decades_157 : decode cX11_decades 157 = .ok (.getfield 13, 3) := by decide +kernel
theorem dX11_decades_160 : decode cX11_decades 160 = .ok (.bipush 18, 2) := by decide +kernel
theorem dX11_decades_162 : decode cX11_decades 162 = .ok (.iload 4, 2) := by decide +kernel
theorem dX11_decades_164 : decode cX11_decades 164 = .ok (.iadd, 1) := by decide +kernel
theorem dX11_decades_165 : decode cX11_decades 165 = .ok (.iaload, 1) := by decide +kernel
theorem dX11_decades_166 : decode cX11_decades 166 = .ok (.iastore, 1) := by decide +kernel
theorem dX11_decades_167 : decode cX11_decades 167 = .ok (.aload_n 0, 1) := by decide +kernel
theorem dX11_decades_168 : decode cX11_decades 168 = .ok (.invokevirtual 451, 3) := by decide +kernel
theorem dX11_decades_171 : decode cX11_decades 171 = .ok (.pop, 1) := by decide +kernel
theorem dX11_decades_172 : decode cX11_decades 172 = .ok (.iinc 3 1, 3) := by decide +kernel
theorem dX11_decades_175 : decode cX11_decades 175 = .ok (.goto (-110), 3) := by decide +kernel
theorem dX11_decades_178 : decode cX11_decades 178 = .ok (.iconst 0, 1) := by decide +kernel
theorem dX11_decades_179 : decode cX11_decades 179 = .ok (.istore_n 3, 1) := by decide +kernel
theorem dX11_decades_180 : decode cX11_decades 180 = .ok (.iload_n 3, 1) := by decide +kernel
theorem dX11_decades_181 : decode cX11_decades 181 = .ok (.bipush 21, 2) := by decide +kernel
theorem dX11_decades_183 : decode cX11_decades 183 = .ok (.if_icmp .ge 23, 3) := by decide +kernel
theorem dX11_decades_186 : decode cX11_decades 186 = .ok (.aload_n 0, 1) := by decide +kernel
theorem dX11_decades_187 : decode cX11_decades 187 = .ok (.getfield 150, 3) := by decide +kernel
theorem dX11_decades_190 : decode cX11_decades 190 = .ok (.iload_n 3, 1) := by decide +kernel
theorem dX11_decades_191 : decode cX11_decades 191 = .ok (.aload_n 0, 1) := by decide +kernel
theorem dX11_decades_192 : decode cX11_decades 192 = .ok (.getfield 13, 3) := by decide +kernel
theorem dX11_decades_195 : decode cX11_decades 195 = .ok (.iconst 5, 1) := by decide +kernel
theorem dX11_decades_196 : decode cX11_decades 196 = .ok (.iload_n 3, 1) := by decide +kernel
theorem dX11_decades_197 : decode cX11_decades 197 = .ok (.iadd, 1) := by decide +kernel
theorem dX11_decades_198 : decode cX11_decades 198 = .ok (.iaload, 1) := by decide +kernel
theorem dX11_decades_199 : decode cX11_decades 199 = .ok (.iastore, 1) := by decide +kernel
theorem dX11_decades_200 : decode cX11_decades 200 = .ok (.iinc 3 1, 3) := by decide +kernel
theorem dX11_decades_203 : decode cX11_decades 203 = .ok (.goto (-23), 3) := by decide +kernel
theorem dX11_decades_206 : decode cX11_decades 206 = .ok (.aload_n 0, 1) := by decide +kernel
theorem dX11_decades_207 : decode cX11_decades 207 = .ok (.aload_n 0, 1) := by decide +kernel
theorem dX11_decades_208 : decode cX11_decades 208 = .ok (.getfield 13, 3) := by decide +kernel
theorem dX11_decades_211 : decode cX11_decades 211 = .ok (.iconst 0, 1) := by decide +kernel
theorem dX11_decades_212 : decode cX11_decades 212 = .ok (.iaload, 1) := by decide +kernel
theorem dX11_decades_213 : decode cX11_decades 213 = .ok (.putfield 153, 3) := by decide +kernel
theorem dX11_decades_216 : decode cX11_decades 216 = .ok (.aload_n 0, 1) := by decide +kernel
theorem dX11_decades_217 : decode cX11_decades 217 = .ok (.aload_n 0, 1) := by decide +kernel
theorem dX11_decades_218 : decode cX11_decades 218 = .ok (.getfield 13, 3) := by decide +kernel
theorem dX11_decades_221 : decode cX11_decades 221 = .ok (.iconst 1, 1) := by decide +kernel
theorem dX11_decades_222 : decode cX11_decades 222 = .ok (.iaload, 1) := by decide +kernel
theorem dX11_decades_223 : decode cX11_decades 223 = .ok (.putfield 156, 3) := by decide +kernel
theorem dX11_decades_226 : decode cX11_decades 226 = .ok (.aload_n 0, 1) := by decide +kernel
theorem dX11_decades_227 : decode cX11_decades 227 = .ok (.invokevirtual 531, 3) := by decide +kernel
theorem dX11_decades_230 : decode cX11_decades 230 = .ok (.istore_n 3, 1) := by decide +kernel
theorem dX11_decades_231 : decode cX11_decades 231 = .ok (.aload_n 0, 1) := by decide +kernel
theorem dX11_decades_232 : decode cX11_decades 232 = .ok (.bipush 16, 2) := by decide +kernel
theorem dX11_decades_234 : decode cX11_decades 234 = .ok (.invokevirtual 176, 3) := by decide +kernel
theorem dX11_decades_237 : decode cX11_decades 237 = .ok (.aload_n 0, 1) := by decide +kernel
theorem dX11_decades_238 : decode cX11_decades 238 = .ok (.iload_n 3, 1) := by decide +kernel
theorem dX11_decades_239 : decode cX11_decades 239 = .ok (.invokevirtual 168, 3) := by decide +kernel
theorem dX11_decades_242 : decode cX11_decades 242 = .ok (.ireturn, 1) := by decide +kernel
theorem dX11_drawn_0 : decode cX11_drawn 0 = .ok (.aload_n 0, 1) := by decide +kernel
theorem dX11_drawn_1 : decode cX11_drawn 1 = .ok (.iconst 0, 1) := by decide +kernel
theorem dX11_drawn_2 : decode cX11_drawn 2 = .ok (.putfield 159, 3) := by decide +kernel
theorem dX11_drawn_5 : decode cX11_drawn 5 = .ok (.iload_n 2, 1) := by decide +kernel
theorem dX11_drawn_6 : decode cX11_drawn 6 = .ok (.i2l, 1) := by decide +kernel
theorem dX11_drawn_7 : decode cX11_drawn 7 = .ok (.lconst 0, 1) := by decide +kernel
theorem dX11_drawn_8 : decode cX11_drawn 8 = .ok (.lconst 1, 1) := by decide +kernel
theorem dX11_drawn_9 : decode cX11_drawn 9 = .ok (.invokestatic 179, 3) := by decide +kernel
theorem dX11_drawn_12 : decode cX11_drawn 12 = .ok (.ifCond .eq 30, 3) := by decide +kernel
theorem dX11_drawn_15 : decode cX11_drawn 15 = .ok (.iload_n 1, 1) := by decide +kernel
theorem dX11_drawn_16 : decode cX11_drawn 16 = .ok (.i2l, 1) := by decide +kernel
theorem dX11_drawn_17 : decode cX11_drawn 17 = .ok (.lconst 0, 1) := by decide +kernel
theorem dX11_drawn_18 : decode cX11_drawn 18 = .ok (.iload_n 2, 1) := by decide +kernel
theorem dX11_drawn_19 : decode cX11_drawn 19 = .ok (.ifCond .ne 10, 3) := by decide +kernel
theorem dX11_drawn_22 : decode cX11_drawn 22 = .ok (.aload_n 0, 1) := by decide +kernel
theorem dX11_drawn_23 : decode cX11_drawn 23 = .ok (.getfield 156, 3) := by decide +kernel
theorem dX11_drawn_26 : decode cX11_drawn 26 = .ok (.goto 7, 3) := by decide +kernel
theorem dX11_drawn_29 : decode cX11_drawn 29 = .ok (.aload_n 0, 1) := by decide +kernel
theorem dX11_drawn_30 : decode cX11_drawn 30 = .ok (.getfield 153, 3) := by decide +kernel
theorem dX11_drawn_33 : decode cX11_drawn 33 = .ok (.i2l, 1) := by decide +kernel
theorem dX11_drawn_34 : decode cX11_drawn 34 = .ok (.lconst 1, 1) := by decide +kernel
theorem dX11_drawn_35 : decode cX11_drawn 35 = .ok (.lsub, 1) := by decide +kernel
theorem dX11_drawn_36 : decode cX11_drawn 36 = .ok (.invokestatic 179, 3) := by decide +kernel
theorem dX11_drawn_39 : decode cX11_drawn 39 = .ok (.ifCond .ne 5, 3) := by decide +kernel
theorem dX11_drawn_42 : decode cX11_drawn 42 = .ok (.iconst (-1), 1) := by decide +kernel
theorem dX11_drawn_43 : decode cX11_drawn 43 = .ok (.ireturn, 1) := by decide +kernel
theorem dX11_drawn_44 : decode cX11_drawn 44 = .ok (.aload_n 0, 1) := by decide +kernel
theorem dX11_drawn_45 : decode cX11_drawn 45 = .ok (.getfield 150, 3) := by decide +kernel
theorem dX11_drawn_48 : decode cX11_drawn 48 = .ok (.iload_n 2, 1) := by decide +kernel
theorem dX11_drawn_49 : decode cX11_drawn 49 = .ok (.ifCond .ne 8, 3) := by decide +kernel
theorem dX11_drawn_52 : decode cX11_drawn 52 = .ok (.bipush 18, 2) := by decide +kernel
theorem dX11_drawn_54 : decode cX11_drawn 54 = .ok (.goto 5, 3) := by decide +kernel
theorem dX11_drawn_57 : decode cX11_drawn 57 = .ok (.bipush 8, 2) := by decide +kernel
theorem dX11_drawn_59 : decode cX11_drawn 59 = .ok (.iconst 5, 1) := by decide +kernel
theorem dX11_drawn_60 : decode cX11_drawn 60 = .ok (.isub, 1) := by decide +kernel
theorem dX11_drawn_61 : decode cX11_drawn 61 = .ok (.iload_n 1, 1) := by decide +kernel
theorem dX11_drawn_62 : decode cX11_drawn 62 = .ok (.iadd, 1) := by decide +kernel
theorem dX11_drawn_63 : decode cX11_drawn 63 = .ok (.iaload, 1) := by decide +kernel
theorem dX11_drawn_64 : decode cX11_drawn 64 = .ok (.ireturn, 1) := by decide +kernel
theorem dX11_count_0 : decode cX11_count 0 = .ok (.aload_n 0, 1) := by decide +kernel
theorem dX11_count_1 : decode cX11_count 1 = .ok (.iconst 0, 1) := by decide +kernel
theorem dX11_count_2 : decode cX11_count 2 = .ok (.putfield 159, 3) := by decide +kernel
theorem dX11_count_5 : decode cX11_count 5 = .ok (.iload_n 1, 1) := by decide +kernel
theorem dX11_count_6 : decode cX11_count 6 = .ok (.tableswitch 152 0 12 #[66, 73, 80, 85, 92, 99, 104, 109, 116, 123, 130, 137, 145], 66) := by decide +kernel
theorem dX11_count_72 : decode cX11_count 72 = .ok (.aload_n 0, 1) := by decide +kernel
theorem dX11_count_73 : decode cX11_count 73 = .ok (.getfield 13, 3) := by decide +kernel
theorem dX11_count_76 : decode cX11_count 76 = .ok (.iconst 0, 1) := by decide +kernel
theorem dX11_count_77 : decode cX11_count 77 = .ok (.iaload, 1) := by decide +kernel
theorem dX11_count_78 : decode cX11_count 78 = .ok (.ireturn, 1) := by decide +kernel
theorem dX11_count_79 : decode cX11_count 79 = .ok (.aload_n 0, 1) := by decide +kernel
theorem dX11_count_80 : decode cX11_count 80 = .ok (.getfield 13, 3) := by decide +kernel
theorem dX11_count_83 : decode cX11_count 83 = .ok (.iconst 1, 1) := by decide +kernel
theorem dX11_count_84 : decode cX11_count 84 = .ok (.iaload, 1) := by decide +kernel
theorem dX11_count_85 : decode cX11_count 85 = .ok (.ireturn, 1) := by decide +kernel
theorem dX11_count_86 : decode cX11_count 86 = .ok (.aload_n 0, 1) := by decide +kernel
theorem dX11_count_87 : decode cX11_count 87 = .ok (.invokevirtual 531, 3) := by decide +kernel
theorem dX11_count_90 : decode cX11_count 90 = .ok (.ireturn, 1) := by decide +kernel
theorem dX11_count_91 : decode cX11_count 91 = .ok (.aload_n 0, 1) := by decide +kernel
theorem dX11_count_92 : decode cX11_count 92 = .ok (.getfield 13, 3) := by decide +kernel
theorem dX11_count_95 : decode cX11_count 95 = .ok (.iconst 2, 1) := by decide +kernel
theorem dX11_count_96 : decode cX11_count 96 = .ok (.iaload, 1) := by decide +kernel
theorem dX11_count_97 : decode cX11_count 97 = .ok (.ireturn, 1) := by decide +kernel
theorem dX11_count_98 : decode cX11_count 98 = .ok (.aload_n 0, 1) := by decide +kernel
theorem dX11_count_99 : decode cX11_count 99 = .ok (.getfield 13, 3) := by decide +kernel
theorem dX11_count_102 : decode cX11_count 102 = .ok (.iconst 3, 1) := by decide +kernel
theorem dX11_count_103 : decode cX11_count 103 = .ok (.iaload, 1) := by decide +kernel
theorem dX11_count_104 : decode cX11_count 104 = .ok (.ireturn, 1) := by decide +kernel
theorem dX11_count_105 : decode cX11_count 105 = .ok (.aload_n 0, 1) := by decide +kernel
theorem dX11_count_106 : decode cX11_count 106 = .ok (.getfield 165, 3) := by decide +kernel
theorem dX11_count_109 : decode cX11_count 109 = .ok (.ireturn, 1) := by decide +kernel
theorem dX11_count_110 : decode cX11_count 110 = .ok (.aload_n 0, 1) := by decide +kernel
theorem dX11_count_111 : decode cX11_count 111 = .ok (.getfield 227, 3) := by decide +kernel
theorem dX11_count_114 : decode cX11_count 114 = .ok (.ireturn, 1) := by decide +kernel
theorem dX11_count_115 : decode cX11_count 115 = .ok (.aload_n 0, 1) := by decide +kernel
theorem dX11_count_116 : decode cX11_count 116 = .ok (.getfield 7, 3) := by decide +kernel
theorem dX11_count_119 : decode cX11_count 119 = .ok (.iconst 1, 1) := by decide +kernel
theorem dX11_count_120 : decode cX11_count 120 = .ok (.iaload, 1) := by decide +kernel
theorem dX11_count_121 : decode cX11_count 121 = .ok (.ireturn, 1) := by decide +kernel
theorem dX11_count_122 : decode cX11_count 122 = .ok (.aload_n 0, 1) := by decide +kernel
theorem dX11_count_123 : decode cX11_count 123 = .ok (.getfield 7, 3) := by decide +kernel
theorem dX11_count_126 : decode cX11_count 126 = .ok (.iconst 2, 1) := by decide +kernel
theorem dX11_count_127 : decode cX11_count 127 = .ok (.iaload, 1) := by decide +kernel
theorem dX11_count_128 : decode cX11_count 128 = .ok (.ireturn, 1) := by decide +kernel
theorem dX11_count_129 : decode cX11_count 129 = .ok (.aload_n 0, 1) := by decide +kernel
theorem dX11_count_130 : decode cX11_count 130 = .ok (.getfield 7, 3) := by decide +kernel
theorem dX11_count_133 : decode cX11_count 133 = .ok (.iconst 3, 1) := by decide +kernel
theorem dX11_count_134 : decode cX11_count 134 = .ok (.iaload, 1) := by decide +kernel
theorem dX11_count_135 : decode cX11_count 135 = .ok (.ireturn, 1) := by decide +kernel
theorem dX11_count_136 : decode cX11_count 136 = .ok (.aload_n 0, 1) := by decide +kernel
theorem dX11_count_137 : decode cX11_count 137 = .ok (.getfield 7, 3) := by decide +kernel
theorem dX11_count_140 : decode cX11_count 140 = .ok (.iconst 5, 1) := by decide +kernel
theorem dX11_count_141 : decode cX11_count 141 = .ok (.iaload, 1) := by decide +kernel
theorem dX11_count_142 : decode cX11_count 142 = .ok (.ireturn, 1) := by decide +kernel
theorem dX11_count_143 : decode cX11_count 143 = .ok (.aload_n 0, 1) := by decide +kernel
theorem dX11_count_144 : decode cX11_count 144 = .ok (.getfield 7, 3) := by decide +kernel
theorem dX11_count_147 : decode cX11_count 147 = .ok (.bipush 6, 2) := by decide +kernel
theorem dX11_count_149 : decode cX11_count 149 = .ok (.iaload, 1) := by decide +kernel
theorem dX11_count_150 : decode cX11_count 150 = .ok (.ireturn, 1) := by decide +kernel
theorem dX11_count_151 : decode cX11_count 151 = .ok (.aload_n 0, 1) := by decide +kernel
theorem dX11_count_152 : decode cX11_count 152 = .ok (.getfield 13, 3) := by decide +kernel
theorem dX11_count_155 : decode cX11_count 155 = .ok (.iconst 4, 1) := by decide +kernel
theorem dX11_count_156 : decode cX11_count 156 = .ok (.iaload, 1) := by decide +kernel
theorem dX11_count_157 : decode cX11_count 157 = .ok (.ireturn, 1) := by decide +kernel
theorem dX11_count_158 : decode cX11_count 158 = .ok (.iload_n 1, 1) := by decide +kernel
theorem dX11_count_159 : decode cX11_count 159 = .ok (.i2l, 1) := by decide +kernel
theorem dX11_count_160 : decode cX11_count 160 = .ok (.ldc2_w 562, 3) := by decide +kernel
theorem dX11_count_163 : decode cX11_count 163 = .ok (.ldc2_w 564, 3) := by decide +kernel
theorem dX11_count_166 : decode cX11_count 166 = .ok (.invokestatic 179, 3) := by decide +kernel
theorem dX11_count_169 : decode cX11_count 169 = .ok (.ifCond .eq 17, 3) := by decide +kernel
theorem dX11_count_172 : decode cX11_count 172 = .ok (.aload_n 0, 1) := by decide +kernel
theorem dX11_count_173 : decode cX11_count 173 = .ok (.getfield 13, 3) := by decide +kernel
theorem dX11_count_176 : decode cX11_count 176 = .ok (.iconst 5, 1) := by decide +kernel
theorem dX11_count_177 : decode cX11_count 177 = .ok (.iload_n 1, 1) := by decide +kernel
theorem dX11_count_178 : decode cX11_count 178 = .ok (.iadd, 1) := by decide +kernel
theorem dX11_count_179 : decode cX11_count 179 = .ok (.bipush 13, 2) := by decide +kernel
theorem dX11_count_181 : decode cX11_count 181 = .ok (.isub, 1) := by decide +kernel
theorem dX11_count_182 : decode cX11_count 182 = .ok (.iaload, 1) := by decide +kernel
theorem dX11_count_183 : decode cX11_count 183 = .ok (.goto 4, 3) := by decide +kernel
theorem dX11_count_186 : decode cX11_count 186 = .ok (.iconst (-1), 1) := by decide +kernel
theorem dX11_count_187 : decode cX11_count 187 = .ok (.ireturn, 1) := by decide +kernel
theorem dX11_status_0 : decode cX11_status 0 = .ok (.aload_n 0, 1) := by decide +kernel
theorem dX11_status_1 : decode cX11_status 1 = .ok (.iconst 0, 1) := by decide +kernel
theorem dX11_status_2 : decode cX11_status 2 = .ok (.putfield 159, 3) := by decide +kernel
theorem dX11_status_5 : decode cX11_status 5 = .ok (.aload_n 0, 1) := by decide +kernel
theorem dX11_status_6 : decode cX11_status 6 = .ok (.getfield 162, 3) := by decide +kernel
theorem dX11_status_9 : decode cX11_status 9 = .ok (.ireturn, 1) := by decide +kernel
