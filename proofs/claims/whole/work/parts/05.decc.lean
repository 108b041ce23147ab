theorem dX0_hasTest_0 : decode cX0_hasTest 0 = .ok (.aload_n 0, 1) := by decide +kernel
theorem dX0_hasTest_1 : decode cX0_hasTest 1 = .ok (.getfield 19, 3) := by decide +kernel
theorem dX0_hasTest_4 : decode cX0_hasTest 4 = .ok (.aload_n 0, 1) := by decide +kernel
theorem dX0_hasTest_5 : decode cX0_hasTest 5 = .ok (.getfield 22, 3) := by decide +kernel
theorem dX0_hasTest_8 : decode cX0_hasTest 8 = .ok (.if_icmp .le 7, 3) := by decide +kernel
theorem dX0_hasTest_11 : decode cX0_hasTest 11 = .ok (.iconst 1, 1) := by decide +kernel
theorem dX0_hasTest_12 : decode cX0_hasTest 12 = .ok (.goto 4, 3) := by decide +kernel
theorem dX0_hasTest_15 : decode cX0_hasTest 15 = .ok (.iconst 0, 1) := by decide +kernel
theorem dX0_hasTest_16 : decode cX0_hasTest 16 = .ok (.ireturn, 1) := by decide +kernel
theorem dX1_note_0 : decode cX1_note 0 = .ok (.aload_n 0, 1) := by decide +kernel
theorem dX1_note_1 : decode cX1_note 1 = .ok (.getfield 15, 3) := by decide +kernel
theorem dX1_note_4 : decode cX1_note 4 = .ok (.iconst 1, 1) := by decide +kernel
theorem dX1_note_5 : decode cX1_note 5 = .ok (.aload_n 1, 1) := by decide +kernel
theorem dX1_note_6 : decode cX1_note 6 = .ok (.getfield 18, 3) := by decide +kernel
theorem dX1_note_9 : decode cX1_note 9 = .ok (.iconst 0, 1) := by decide +kernel
theorem dX1_note_10 : decode cX1_note 10 = .ok (.iaload, 1) := by decide +kernel
theorem dX1_note_11 : decode cX1_note 11 = .ok (.iastore, 1) := by decide +kernel
theorem dX1_note_12 : decode cX1_note 12 = .ok (.aload_n 1, 1) := by decide +kernel
theorem dX1_note_13 : decode cX1_note 13 = .ok (.getfield 23, 3) := by decide +kernel
theorem dX1_note_16 : decode cX1_note 16 = .ok (.iconst 0, 1) := by decide +kernel
theorem dX1_note_17 : decode cX1_note 17 = .ok (.aload_n 0, 1) := by decide +kernel
theorem dX1_note_18 : decode cX1_note 18 = .ok (.getfield 15, 3) := by decide +kernel
theorem dX1_note_21 : decode cX1_note 21 = .ok (.iconst 2, 1) := by decide +kernel
theorem dX1_note_22 : decode cX1_note 22 = .ok (.iconst 4, 1) := by decide +kernel
theorem dX1_note_23 : decode cX1_note 23 = .ok (.invokestatic 26, 3) := by decide +kernel
theorem dX1_note_26 : decode cX1_note 26 = .ok (.aload_n 1, 1) := by decide +kernel
theorem dX1_note_27 : decode cX1_note 27 = .ok (.getfield 32, 3) := by decide +kernel
theorem dX1_note_30 : decode cX1_note 30 = .ok (.iconst 0, 1) := by decide +kernel
theorem dX1_note_31 : decode cX1_note 31 = .ok (.aload_n 0, 1) := by decide +kernel
theorem dX1_note_32 : decode cX1_note 32 = .ok (.getfield 15, 3) := by decide +kernel
theorem dX1_note_35 : decode cX1_note 35 = .ok (.bipush 6, 2) := by decide +kernel
theorem dX1_note_37 : decode cX1_note 37 = .ok (.iconst 4, 1) := by decide +kernel
theorem dX1_note_38 : decode cX1_note 38 = .ok (.invokestatic 26, 3) := by decide +kernel
theorem dX1_note_41 : decode cX1_note 41 = .ok (.aload_n 1, 1) := by decide +kernel
theorem dX1_note_42 : decode cX1_note 42 = .ok (.getfield 35, 3) := by decide +kernel
theorem dX1_note_45 : decode cX1_note 45 = .ok (.iconst 0, 1) := by decide +kernel
theorem dX1_note_46 : decode cX1_note 46 = .ok (.aload_n 0, 1) := by decide +kernel
theorem dX1_note_47 : decode cX1_note 47 = .ok (.getfield 15, 3) := by decide +kernel
theorem dX1_note_50 : decode cX1_note 50 = .ok (.bipush 10, 2) := by decide +kernel
theorem dX1_note_52 : decode cX1_note 52 = .ok (.bipush 10, 2) := by decide +kernel
theorem dX1_note_54 : decode cX1_note 54 = .ok (.invokestatic 26, 3) := by decide +kernel
theorem dX1_note_57 : decode cX1_note 57 = .ok (.return_, 1) := by decide +kernel
theorem dX1_keepNote_0 : decode cX1_keepNote 0 = .ok (.aload_n 0, 1) := by decide +kernel
theorem dX1_keepNote_1 : decode cX1_keepNote 1 = .ok (.getfield 38, 3) := by decide +kernel
theorem dX1_keepNote_4 : decode cX1_keepNote 4 = .ok (.bipush 16, 2) := by decide +kernel
theorem dX1_keepNote_6 : decode cX1_keepNote 6 = .ok (.if_icmp .lt 26, 3) := by decide +kernel
theorem dX1_keepNote_9 : decode cX1_keepNote 9 = .ok (.aload_n 0, 1) := by decide +kernel
theorem dX1_keepNote_10 : decode cX1_keepNote 10 = .ok (.getfield 11, 3) := by decide +kernel
theorem dX1_keepNote_13 : decode cX1_keepNote 13 = .ok (.bipush 20, 2) := by decide +kernel
theorem dX1_keepNote_15 : decode cX1_keepNote 15 = .ok (.aload_n 0, 1) := by decide +kernel
theorem dX1_keepNote_16 : decode cX1_keepNote 16 = .ok (.getfield 11, 3) := by decide +kernel
theorem dX1_keepNote_19 : decode cX1_keepNote 19 = .ok (.iconst 0, 1) := by decide +kernel
theorem dX1_keepNote_20 : decode cX1_keepNote 20 = .ok (.sipush 300, 3) := by decide +kernel
theorem dX1_keepNote_23 : decode cX1_keepNote 23 = .ok (.invokestatic 26, 3) := by decide +kernel
theorem dX1_keepNote_26 : decode cX1_keepNote 26 = .ok (.aload_n 0, 1) := by decide +kernel
theorem dX1_keepNote_27 : decode cX1_keepNote 27 = .ok (.bipush 15, 2) := by decide +kernel
theorem dX1_keepNote_29 : decode cX1_keepNote 29 = .ok (.putfield 38, 3) := by decide +kernel
theorem dX1_keepNote_32 : decode cX1_keepNote 32 = .ok (.aload_n 0, 1) := by decide +kernel
theorem dX1_keepNote_33 : decode cX1_keepNote 33 = .ok (.getfield 15, 3) := by decide +kernel
theorem dX1_keepNote_36 : decode cX1_keepNote 36 = .ok (.iconst 0, 1) := by decide +kernel
theorem dX1_keepNote_37 : decode cX1_keepNote 37 = .ok (.iload_n 1, 1) := by decide +kernel
theorem dX1_keepNote_38 : decode cX1_keepNote 38 = .ok (.iastore, 1) := by decide +kernel
theorem dX1_keepNote_39 : decode cX1_keepNote 39 = .ok (.aload_n 0, 1) := by decide +kernel
theorem dX1_keepNote_40 : decode cX1_keepNote 40 = .ok (.getfield 15, 3) := by decide +kernel
theorem dX1_keepNote_43 : decode cX1_keepNote 43 = .ok (.iconst 0, 1) := by decide +kernel
theorem dX1_keepNote_44 : decode cX1_keepNote 44 = .ok (.aload_n 0, 1) := by decide +kernel
theorem dX1_keepNote_45 : decode cX1_keepNote 45 = .ok (.getfield 11, 3) := by decide +kernel
theorem dX1_keepNote_48 : decode cX1_keepNote 48 = .ok (.aload_n 0, 1) := by decide +kernel
theorem dX1_keepNote_49 : decode cX1_keepNote 49 = .ok (.getfield 38, 3) := by decide +kernel
theorem dX1_keepNote_52 : decode cX1_keepNote 52 = .ok (.bipush 20, 2) := by decide +kernel
theorem dX1_keepNote_54 : decode cX1_keepNote 54 = .ok (.imul, 1) := by decide +kernel
theorem dX1_keepNote_55 : decode cX1_keepNote 55 = .ok (.bipush 20, 2) := by decide +kernel
theorem dX1_keepNote_57 : decode cX1_keepNote 57 = .ok (.invokestatic 26, 3) := by decide +kernel
theorem dX1_keepNote_60 : decode cX1_keepNote 60 = .ok (.aload_n 0, 1) := by decide +kernel
theorem dX1_keepNote_61 : decode cX1_keepNote 61 = .ok (.dup, 1) := by decide +kernel
theorem dX1_keepNote_62 : decode cX1_keepNote 62 = .ok (.getfield 38, 3) := by decide +kernel
theorem dX1_keepNote_65 : decode cX1_keepNote 65 = .ok (.iconst 1, 1) := by decide +kernel
theorem dX1_keepNote_66 : decode cX1_keepNote 66 = .ok (.iadd, 1) := by decide +kernel
theorem dX1_keepNote_67 : decode cX1_keepNote 67 = .ok (.putfield 38, 3) := by decide +kernel
theorem dX1_keepNote_70 : decode cX1_keepNote 70 = .ok (.return_, 1) := by decide +kernel
theorem dX1_takeBack_0 : decode cX1_takeBack 0 = .ok (.aload_n 0, 1) := by decide +kernel
theorem dX1_takeBack_1 : decode cX1_takeBack 1 = .ok (.getfield 38, 3) := by decide +kernel
theorem dX1_takeBack_4 : decode cX1_takeBack 4 = .ok (.ifCond .gt 5, 3) := by decide +kernel
theorem dX1_takeBack_7 : decode cX1_takeBack 7 = .ok (.iconst (-1), 1) := by decide +kernel
theorem dX1_takeBack_8 : decode cX1_takeBack 8 = .ok (.ireturn, 1) := by decide +kernel
theorem dX1_takeBack_9 : decode cX1_takeBack 9 = .ok (.aload_n 0, 1) := by decide +kernel
theorem dX1_takeBack_10 : decode cX1_takeBack 10 = .ok (.dup, 1) := by decide +kernel
theorem dX1_takeBack_11 : decode cX1_takeBack 11 = .ok (.getfield 38, 3) := by decide +kernel
theorem dX1_takeBack_14 : decode cX1_takeBack 14 = .ok (.iconst 1, 1) := by decide +kernel
theorem dX1_takeBack_15 : decode cX1_takeBack 15 = .ok (.isub, 1) := by decide +kernel
theorem dX1_takeBack_16 : decode cX1_takeBack 16 = .ok (.putfield 38, 3) := by decide +kernel
theorem dX1_takeBack_19 : decode cX1_takeBack 19 = .ok (.aload_n 0, 1) := by decide +kernel
theorem dX1_takeBack_20 : decode cX1_takeBack 20 = .ok (.getfield 38, 3) := by decide +kernel
theorem dX1_takeBack_23 : decode cX1_takeBack 23 = .ok (.bipush 20, 2) := by decide +kernel
theorem dX1_takeBack_25 : decode cX1_takeBack 25 = .ok (.imul, 1) := by decide +kernel
theorem dX1_takeBack_26 : decode cX1_takeBack 26 = .ok (.istore_n 2, 1) := by decide +kernel
theorem dX1_takeBack_27 : decode cX1_takeBack 27 = .ok (.aload_n 1, 1) := by decide +kernel
theorem dX1_takeBack_28 : decode cX1_takeBack 28 = .ok (.getfield 18, 3) := by decide +kernel
theorem dX1_takeBack_31 : decode cX1_takeBack 31 = .ok (.iconst 0, 1) := by decide +kernel
theorem dX1_takeBack_32 : decode cX1_takeBack 32 = .ok (.aload_n 0, 1) := by decide +kernel
theorem dX1_takeBack_33 : decode cX1_takeBack 33 = .ok (.getfield 11, 3) := by decide +kernel
theorem dX1_takeBack_36 : decode cX1_takeBack 36 = .ok (.iload_n 2, 1) := by decide +kernel
theorem dX1_takeBack_37 : decode cX1_takeBack 37 = .ok (.iconst 1, 1) := by decide +kernel
theorem dX1_takeBack_38 : decode cX1_takeBack 38 = .ok (.iadd, 1) := by decide +kernel
theorem dX1_takeBack_39 : decode cX1_takeBack 39 = .ok (.iaload, 1) := by decide +kernel
theorem dX1_takeBack_40 : decode cX1_takeBack 40 = .ok (.iastore, 1) := by decide +kernel
theorem dX1_takeBack_41 : decode cX1_takeBack 41 = .ok (.aload_n 0, 1) := by decide +kernel
theorem dX1_takeBack_42 : decode cX1_takeBack 42 = .ok (.getfield 11, 3) := by decide +kernel
theorem dX1_takeBack_45 : decode cX1_takeBack 45 = .ok (.iload_n 2, 1) := by decide +kernel
theorem dX1_takeBack_46 : decode cX1_takeBack 46 = .ok (.iconst 2, 1) := by decide +kernel
theorem dX1_takeBack_47 : decode cX1_takeBack 47 = .ok (.iadd, 1) := by decide +kernel
theorem dX1_takeBack_48 : decode cX1_takeBack 48 = .ok (.aload_n 1, 1) := by decide +kernel
theorem dX1_takeBack_49 : decode cX1_takeBack 49 = .ok (.getfield 23, 3) := by decide +kernel
theorem dX1_takeBack_52 : decode cX1_takeBack 52 = .ok (.iconst 0, 1) := by decide +kernel
theorem dX1_takeBack_53 : decode cX1_takeBack 53 = .ok (.iconst 4, 1) := by decide +kernel
theorem dX1_takeBack_54 : decode cX1_takeBack 54 = .ok (.invokestatic 26, 3) := by decide +kernel
theorem dX1_takeBack_57 : decode cX1_takeBack 57 = .ok (.aload_n 0, 1) := by decide +kernel
theorem dX1_takeBack_58 : decode cX1_takeBack 58 = .ok (.getfield 11, 3) := by decide +kernel
theorem dX1_takeBack_61 : decode cX1_takeBack 61 = .ok (.iload_n 2, 1) := by decide +kernel
theorem dX1_takeBack_62 : decode cX1_takeBack 62 = .ok (.iconst 2, 1) := by decide +kernel
theorem dX1_takeBack_63 : decode cX1_takeBack 63 = .ok (.iadd, 1) := by decide +kernel
theorem dX1_takeBack_64 : decode cX1_takeBack 64 = .ok (.iconst 4, 1) := by decide +kernel
theorem dX1_takeBack_65 : decode cX1_takeBack 65 = .ok (.iadd, 1) := by decide +kernel
theorem dX1_takeBack_66 : decode cX1_takeBack 66 = .ok (.aload_n 1, 1) := by decide +kernel
theorem dX1_takeBack_67 : decode cX1_takeBack 67 = .ok (.getfield 32, 3) := by decide +kernel
theorem dX1_takeBack_70 : decode cX1_takeBack 70 = .ok (.iconst 0, 1) := by decide +kernel
theorem dX1_takeBack_71 : decode cX1_takeBack 71 = .ok (.iconst 4, 1) := by decide +kernel
theorem dX1_takeBack_72 : decode cX1_takeBack 72 = .ok (.invokestatic 26, 3) := by decide +kernel
theorem dX1_takeBack_75 : decode cX1_takeBack 75 = .ok (.aload_n 0, 1) := by decide +kernel
theorem dX1_takeBack_76 : decode cX1_takeBack 76 = .ok (.getfield 11, 3) := by decide +kernel
theorem dX1_takeBack_79 : decode cX1_takeBack 79 = .ok (.iload_n 2, 1) := by decide +kernel
theorem dX1_takeBack_80 : decode cX1_takeBack 80 = .ok (.iconst 2, 1) := by decide +kernel
theorem dX1_takeBack_81 : decode cX1_takeBack 81 = .ok (.iadd, 1) := by decide +kernel
theorem dX1_takeBack_82 : decode cX1_takeBack 82 = .ok (.bipush 8, 2) := by decide +kernel
theorem dX1_takeBack_84 : decode cX1_takeBack 84 = .ok (.iadd, 1) := by decide +kernel
theorem dX1_takeBack_85 : decode cX1_takeBack 85 = .ok (.aload_n 1, 1) := by decide +kernel
theorem dX1_takeBack_86 : decode cX1_takeBack 86 = .ok (.getfield 35, 3) := by decide +kernel
theorem dX1_takeBack_89 : decode cX1_takeBack 89 = .ok (.iconst 0, 1) := by decide +kernel
theorem dX1_takeBack_90 : decode cX1_takeBack 90 = .ok (.bipush 10, 2) := by decide +kernel
theorem dX1_takeBack_92 : decode cX1_takeBack 92 = .ok (.invokestatic 26, 3) := by decide +kernel
theorem dX1_takeBack_95 : decode cX1_takeBack 95 = .ok (.aload_n 0, 1) := by decide +kernel
theorem dX1_takeBack_96 : decode cX1_takeBack 96 = .ok (.getfield 11, 3) := by decide +kernel
theorem dX1_takeBack_99 : decode cX1_takeBack 99 = .ok (.iload_n 2, 1) := by decide +kernel
theorem dX1_takeBack_100 : decode cX1_takeBack 100 = .ok (.iaload, 1) := by decide +kernel
theorem dX1_takeBack_101 : decode cX1_takeBack 101 = .ok (.ireturn, 1) := by decide +kernel
theorem dX1_become_0 : decode cX1_become 0 = .ok (.aload_n 1, 1) := by decide +kernel
theorem dX1_become_1 : decode cX1_become 1 = .ok (.getfield 11, 3) := by decide +kernel
theorem dX1_become_4 : decode cX1_become 4 = .ok (.iconst 0, 1) := by decide +kernel
theorem dX1_become_5 : decode cX1_become 5 = .ok (.aload_n 0, 1) := by decide +kernel
theorem dX1_become_6 : decode cX1_become 6 = .ok (.getfield 11, 3) := by decide +kernel
theorem dX1_become_9 : decode cX1_become 9 = .ok (.iconst 0, 1) := by decide +kernel
theorem dX1_become_10 : decode cX1_become 10 = .ok (.aload_n 0, 1) := by decide +kernel
theorem dX1_become_11 : decode cX1_become 11 = .ok (.getfield 11, 3) := by decide +kernel
theorem dX1_become_14 : decode cX1_become 14 = .ok (.arraylength, 1) := by decide +kernel
theorem dX1_become_15 : decode cX1_become 15 = .ok (.invokestatic 26, 3) := by decide +kernel
theorem dX1_become_18 : decode cX1_become 18 = .ok (.aload_n 0, 1) := by decide +kernel
theorem dX1_become_19 : decode cX1_become 19 = .ok (.aload_n 1, 1) := by decide +kernel
theorem dX1_become_20 : decode cX1_become 20 = .ok (.getfield 38, 3) := by decide +kernel
theorem dX1_become_23 : decode cX1_become 23 = .ok (.putfield 38, 3) := by decide +kernel
theorem dX1_become_26 : decode cX1_become 26 = .ok (.return_, 1) := by decide +kernel
theorem dX7_hasLane_0 : decode cX7_hasLane 0 = .ok (.iload_n 1, 1) := by decide +kernel
theorem dX7_hasLane_1 : decode cX7_hasLane 1 = .ok (.ifCond .lt 21, 3) := by decide +kernel
theorem dX7_hasLane_4 : decode cX7_hasLane 4 = .ok (.iload_n 1, 1) := by decide +kernel
theorem dX7_hasLane_5 : decode cX7_hasLane 5 = .ok (.aload_n 0, 1) := by decide +kernel
theorem dX7_hasLane_6 : decode cX7_hasLane 6 = .ok (.getfield 52, 3) := by decide +kernel
theorem dX7_hasLane_9 : decode cX7_hasLane 9 = .ok (.if_icmp .ge 13, 3) := by decide +kernel
theorem dX7_hasLane_12 : decode cX7_hasLane 12 = .ok (.iload_n 1, 1) := by decide +kernel
theorem dX7_hasLane_13 : decode cX7_hasLane 13 = .ok (.bipush 10, 2) := by decide +kernel
theorem dX7_hasLane_15 : decode cX7_hasLane 15 = .ok (.if_icmp .ge 7, 3) := by decide +kernel
theorem dX7_hasLane_18 : decode cX7_hasLane 18 = .ok (.iconst 1, 1) := by decide +kernel
theorem dX7_hasLane_19 : decode cX7_hasLane 19 = .ok (.goto 4, 3) := by decide +kernel
theorem dX7_hasLane_22 : decode cX7_hasLane 22 = .ok (.iconst 0, 1) := by decide +kernel
theorem dX7_hasLane_23 : decode cX7_hasLane 23 = .ok (.ireturn, 1) := by decide +kernel
theorem dX7_isEnd_0 : decode cX7_isEnd 0 = .ok (.aload_n 0, 1) := by decide +kernel
theorem dX7_isEnd_1 : decode cX7_isEnd 1 = .ok (.iload_n 1, 1) := by decide +kernel
theorem dX7_isEnd_2 : decode cX7_isEnd 2 = .ok (.invokevirtual 69, 3) := by decide +kernel
theorem dX7_isEnd_5 : decode cX7_isEnd 5 = .ok (.ifCond .eq 27, 3) := by decide +kernel
theorem dX7_isEnd_8 : decode cX7_isEnd 8 = .ok (.aload_n 0, 1) := by decide +kernel
theorem dX7_isEnd_9 : decode cX7_isEnd 9 = .ok (.getfield 9, 3) := by decide +kernel
theorem dX7_isEnd_12 : decode cX7_isEnd 12 = .ok (.iload_n 1, 1) := by decide +kernel
theorem dX7_isEnd_13 : decode cX7_isEnd 13 = .ok (.iaload, 1) := by decide +kernel
theorem dX7_isEnd_14 : decode cX7_isEnd 14 = .ok (.iload_n 2, 1) := by decide +kernel
theorem dX7_isEnd_15 : decode cX7_isEnd 15 = .ok (.if_icmp .eq 13, 3) := by decide +kernel
theorem dX7_isEnd_18 : decode cX7_isEnd 18 = .ok (.aload_n 0, 1) := by decide +kernel
theorem dX7_isEnd_19 : decode cX7_isEnd 19 = .ok (.getfield 15, 3) := by decide +kernel
theorem dX7_isEnd_22 : decode cX7_isEnd 22 = .ok (.iload_n 1, 1) := by decide +kernel
theorem dX7_isEnd_23 : decode cX7_isEnd 23 = .ok (.iaload, 1) := by decide +kernel
theorem dX7_isEnd_24 : decode cX7_isEnd 24 = .ok (.iload_n 2, 1) := by decide +kernel
theorem dX7_isEnd_25 : decode cX7_isEnd 25 = .ok (.if_icmp .ne 7, 3) := by decide +kernel
theorem dX7_isEnd_28 : decode cX7_isEnd 28 = .ok (.iconst 1, 1) := by decide +kernel
theorem dX7_isEnd_29 : decode cX7_isEnd 29 = .ok (.goto 4, 3) := by decide +kernel
theorem dX7_isEnd_32 : decode cX7_isEnd 32 = .ok (.iconst 0, 1) := by decide +kernel
theorem dX7_isEnd_33 : decode cX7_isEnd 33 = .ok (.ireturn, 1) := by decide +kernel
theorem dX7_doMeet_0 : decode cX7_doMeet 0 = .ok (.aload_n 0, 1) := by decide +kernel
theorem dX7_doMeet_1 : decode cX7_doMeet 1 = .ok (.iload_n 1, 1) := by decide +kernel
theorem dX7_doMeet_2 : decode cX7_doMeet 2 = .ok (.invokevirtual 69, 3) := by decide +kernel
theorem dX7_doMeet_5 : decode cX7_doMeet 5 = .ok (.ifCond .eq 35, 3) := by decide +kernel
theorem dX7_doMeet_8 : decode cX7_doMeet 8 = .ok (.aload_n 0, 1) := by decide +kernel
theorem dX7_doMeet_9 : decode cX7_doMeet 9 = .ok (.iload_n 2, 1) := by decide +kernel
theorem dX7_doMeet_10 : decode cX7_doMeet 10 = .ok (.aload_n 0, 1) := by decide +kernel
theorem dX7_doMeet_11 : decode cX7_doMeet 11 = .ok (.getfield 9, 3) := by decide +kernel
theorem dX7_doMeet_14 : decode cX7_doMeet 14 = .ok (.iload_n 1, 1) := by decide +kernel
theorem dX7_doMeet_15 : decode cX7_doMeet 15 = .ok (.iaload, 1) := by decide +kernel
theorem dX7_doMeet_16 : decode cX7_doMeet 16 = .ok (.invokevirtual 72, 3) := by decide +kernel
theorem dX7_doMeet_19 : decode cX7_doMeet 19 = .ok (.ifCond .ne 17, 3) := by decide +kernel
theorem dX7_doMeet_22 : decode cX7_doMeet 22 = .ok (.aload_n 0, 1) := by decide +kernel
theorem dX7_doMeet_23 : decode cX7_doMeet 23 = .ok (.iload_n 2, 1) := by decide +kernel
theorem dX7_doMeet_24 : decode cX7_doMeet 24 = .ok (.aload_n 0, 1) := by decide +kernel
theorem dX7_doMeet_25 : decode cX7_doMeet 25 = .ok (.getfield 15, 3) := by decide +kernel
theorem dX7_doMeet_28 : decode cX7_doMeet 28 = .ok (.iload_n 1, 1) := by decide +kernel
theorem dX7_doMeet_29 : decode cX7_doMeet 29 = .ok (.iaload, 1) := by decide +kernel
theorem dX7_doMeet_30 : decode cX7_doMeet 30 = .ok (.invokevirtual 72, 3) := by decide +kernel
theorem dX7_doMeet_33 : decode cX7_doMeet 33 = .ok (.ifCond .eq 7, 3) := by decide +kernel
theorem dX7_doMeet_36 : decode cX7_doMeet 36 = .ok (.iconst 1, 1) := by decide +kernel
theorem dX7_doMeet_37 : decode cX7_doMeet 37 = .ok (.goto 4, 3) := by decide +kernel
theorem dX7_doMeet_40 : decode cX7_doMeet 40 = .ok (.iconst 0, 1) := by decide +kernel
theorem dX7_doMeet_41 : decode cX7_doMeet 41 = .ok (.ireturn, 1) := by decide +kernel
theorem dX2_isFree_0 : decode cX2_isFree 0 = .ok (.iconst 0, 1) := by decide +kernel
theorem dX2_isFree_1 : decode cX2_isFree 1 = .ok (.istore 4, 2) := by decide +kernel
theorem dX2_isFree_3 : decode cX2_isFree 3 = .ok (.iload 4, 2) := by decide +kernel
theorem dX2_isFree_5 : decode cX2_isFree 5 = .ok (.iload_n 2, 1) := by decide +kernel
theorem dX2_isFree_6 : decode cX2_isFree 6 = .ok (.if_icmp .ge 39, 3) := by decide +kernel
theorem dX2_isFree_9 : decode cX2_isFree 9 = .ok (.iload 4, 2) := by decide +kernel
theorem dX2_isFree_11 : decode cX2_isFree 11 = .ok (.bipush 10, 2) := by decide +kernel
theorem dX2_isFree_13 : decode cX2_isFree 13 = .ok (.if_icmp .ge 32, 3) := by decide +kernel
theorem dX2_isFree_16 : decode cX2_isFree 16 = .ok (.aload_n 0, 1) := by decide +kernel
theorem dX2_isFree_17 : decode cX2_isFree 17 = .ok (.getfield 9, 3) := by decide +kernel
theorem dX2_isFree_20 : decode cX2_isFree 20 = .ok (.iload 4, 2) := by decide +kernel
theorem dX2_isFree_22 : decode cX2_isFree 22 = .ok (.iaload, 1) := by decide +kernel
theorem dX2_isFree_23 : decode cX2_isFree 23 = .ok (.iload_n 3, 1) := by decide +kernel
theorem dX2_isFree_24 : decode cX2_isFree 24 = .ok (.if_icmp .ne 15, 3) := by decide +kernel
theorem dX2_isFree_27 : decode cX2_isFree 27 = .ok (.aload_n 1, 1) := by decide +kernel
theorem dX2_isFree_28 : decode cX2_isFree 28 = .ok (.iload 4, 2) := by decide +kernel
theorem dX2_isFree_30 : decode cX2_isFree 30 = .ok (.iload_n 2, 1) := by decide +kernel
theorem dX2_isFree_31 : decode cX2_isFree 31 = .ok (.invokevirtual 41, 3) := by decide +kernel
theorem dX2_isFree_34 : decode cX2_isFree 34 = .ok (.ifCond .eq 5, 3) := by decide +kernel
theorem dX2_isFree_37 : decode cX2_isFree 37 = .ok (.iconst 0, 1) := by decide +kernel
theorem dX2_isFree_38 : decode cX2_isFree 38 = .ok (.ireturn, 1) := by decide +kernel
theorem dX2_isFree_39 : decode cX2_isFree 39 = .ok (.iinc 4 1, 3) := by decide +kernel
theorem dX2_isFree_42 : decode cX2_isFree 42 = .ok (.goto (-39), 3) := by decide +kernel
theorem dX2_isFree_45 : decode cX2_isFree 45 = .ok (.iconst 1, 1) := by decide +kernel
theorem dX2_isFree_46 : decode cX2_isFree 46 = .ok (.ireturn, 1) := by decide +kernel
theorem dX2_paint_0 : decode cX2_paint 0 = .ok (.iload_n 2, 1) := by decide +kernel
theorem dX2_paint_1 : decode cX2_paint 1 = .ok (.aload_n 1, 1) := by decide +kernel
theorem dX2_paint_2 : decode cX2_paint 2 = .ok (.getfield 25, 3) := by decide +kernel
theorem dX2_paint_5 : decode cX2_paint 5 = .ok (.if_icmp .ge 9, 3) := by decide +kernel
theorem dX2_paint_8 : decode cX2_paint 8 = .ok (.iload_n 2, 1) := by decide +kernel
theorem dX2_paint_9 : decode cX2_paint 9 = .ok (.bipush 10, 2) := by decide +kernel
theorem dX2_paint_11 : decode cX2_paint 11 = .ok (.if_icmp .lt 5, 3) := by decide +kernel
theorem dX2_paint_14 : decode cX2_paint 14 = .ok (.iconst 1, 1) := by decide +kernel
theorem dX2_paint_15 : decode cX2_paint 15 = .ok (.ireturn, 1) := by decide +kernel
theorem dX2_paint_16 : decode cX2_paint 16 = .ok (.iconst 0, 1) := by decide +kernel
theorem dX2_paint_17 : decode cX2_paint 17 = .ok (.istore 5, 2) := by decide +kernel
theorem dX2_paint_19 : decode cX2_paint 19 = .ok (.iload 5, 2) := by decide +kernel
theorem dX2_paint_21 : decode cX2_paint 21 = .ok (.iload_n 3, 1) := by decide +kernel
theorem dX2_paint_22 : decode cX2_paint 22 = .ok (.if_icmp .gt 58, 3) := by decide +kernel
theorem dX2_paint_25 : decode cX2_paint 25 = .ok (.iload 5, 2) := by decide +kernel
theorem dX2_paint_27 : decode cX2_paint 27 = .ok (.iload 4, 2) := by decide +kernel
theorem dX2_paint_29 : decode cX2_paint 29 = .ok (.if_icmp .ge 51, 3) := by decide +kernel
theorem dX2_paint_32 : decode cX2_paint 32 = .ok (.aload_n 0, 1) := by decide +kernel
theorem dX2_paint_33 : decode cX2_paint 33 = .ok (.aload_n 1, 1) := by decide +kernel
theorem dX2_paint_34 : decode cX2_paint 34 = .ok (.iload_n 2, 1) := by decide +kernel
theorem dX2_paint_35 : decode cX2_paint 35 = .ok (.iload 5, 2) := by decide +kernel
theorem dX2_paint_37 : decode cX2_paint 37 = .ok (.invokevirtual 31, 3) := by decide +kernel
theorem dX2_paint_40 : decode cX2_paint 40 = .ok (.ifCond .eq 34, 3) := by decide +kernel
theorem dX2_paint_43 : decode cX2_paint 43 = .ok (.aload_n 0, 1) := by decide +kernel
theorem dX2_paint_44 : decode cX2_paint 44 = .ok (.getfield 9, 3) := by decide +kernel
theorem dX2_paint_47 : decode cX2_paint 47 = .ok (.iload_n 2, 1) := by decide +kernel
theorem dX2_paint_48 : decode cX2_paint 48 = .ok (.iload 5, 2) := by decide +kernel
theorem dX2_paint_50 : decode cX2_paint 50 = .ok (.iastore, 1) := by decide +kernel
theorem dX2_paint_51 : decode cX2_paint 51 = .ok (.aload_n 0, 1) := by decide +kernel
theorem dX2_paint_52 : decode cX2_paint 52 = .ok (.aload_n 1, 1) := by decide +kernel
theorem dX2_paint_53 : decode cX2_paint 53 = .ok (.iload_n 2, 1) := by decide +kernel
theorem dX2_paint_54 : decode cX2_paint 54 = .ok (.iconst 1, 1) := by decide +kernel
theorem dX2_paint_55 : decode cX2_paint 55 = .ok (.iadd, 1) := by decide +kernel
theorem dX2_paint_56 : decode cX2_paint 56 = .ok (.iload_n 3, 1) := by decide +kernel
theorem dX2_paint_57 : decode cX2_paint 57 = .ok (.iload 5, 2) := by decide +kernel
theorem dX2_paint_59 : decode cX2_paint 59 = .ok (.iconst 1, 1) := by decide +kernel
theorem dX2_paint_60 : decode cX2_paint 60 = .ok (.iadd, 1) := by decide +kernel
theorem dX2_paint_61 : decode cX2_paint 61 = .ok (.invokestatic 35, 3) := by decide +kernel
theorem dX2_paint_64 : decode cX2_paint 64 = .ok (.iload 4, 2) := by decide +kernel
theorem dX2_paint_66 : decode cX2_paint 66 = .ok (.invokevirtual 21, 3) := by decide +kernel
theorem dX2_paint_69 : decode cX2_paint 69 = .ok (.ifCond .eq 5, 3) := by decide +kernel
theorem dX2_paint_72 : decode cX2_paint 72 = .ok (.iconst 1, 1) := by decide +kernel
theorem dX2_paint_73 : decode cX2_paint 73 = .ok (.ireturn, 1) := by decide +kernel
theorem dX2_paint_74 : decode cX2_paint 74 = .ok (.iinc 5 1, 3) := by decide +kernel
theorem dX2_paint_77 : decode cX2_paint 77 = .ok (.goto (-58), 3) := by decide +kernel
theorem dX2_paint_80 : decode cX2_paint 80 = .ok (.iconst 0, 1) := by decide +kernel
theorem dX2_paint_81 : decode cX2_paint 81 = .ok (.ireturn, 1) := by decide +kernel
theorem dX2_tellApart_0 : decode cX2_tellApart 0 = .ok (.iconst 0, 1) := by decide +kernel
theorem dX2_tellApart_1 : decode cX2_tellApart 1 = .ok (.istore_n 2, 1) := by decide +kernel
theorem dX2_tellApart_2 : decode cX2_tellApart 2 = .ok (.iload_n 2, 1) := by decide +kernel
theorem dX2_tellApart_3 : decode cX2_tellApart 3 = .ok (.bipush 10, 2) := by decide +kernel
theorem dX2_tellApart_5 : decode cX2_tellApart 5 = .ok (.if_icmp .ge 22, 3) := by decide +kernel
theorem dX2_tellApart_8 : decode cX2_tellApart 8 = .ok (.aload_n 0, 1) := by decide +kernel
theorem dX2_tellApart_9 : decode cX2_tellApart 9 = .ok (.aload_n 1, 1) := by decide +kernel
theorem dX2_tellApart_10 : decode cX2_tellApart 10 = .ok (.iconst 0, 1) := by decide +kernel
theorem dX2_tellApart_11 : decode cX2_tellApart 11 = .ok (.iconst 0, 1) := by decide +kernel
theorem dX2_tellApart_12 : decode cX2_tellApart 12 = .ok (.iload_n 2, 1) := by decide +kernel
theorem dX2_tellApart_13 : decode cX2_tellApart 13 = .ok (.invokevirtual 21, 3) := by decide +kernel
theorem dX2_tellApart_16 : decode cX2_tellApart 16 = .ok (.ifCond .eq 5, 3) := by decide +kernel
theorem dX2_tellApart_19 : decode cX2_tellApart 19 = .ok (.iload_n 2, 1) := by decide +kernel
theorem dX2_tellApart_20 : decode cX2_tellApart 20 = .ok (.ireturn, 1) := by decide +kernel
theorem dX2_tellApart_21 : decode cX2_tellApart 21 = .ok (.iinc 2 1, 3) := by decide +kernel
theorem dX2_tellApart_24 : decode cX2_tellApart 24 = .ok (.goto (-22), 3) := by decide +kernel
theorem dX2_tellApart_27 : decode cX2_tellApart 27 = .ok (.aload_n 0, 1) := by decide +kernel
theorem dX2_tellApart_28 : decode cX2_tellApart 28 = .ok (.aload_n 1, 1) := by decide +kernel
theorem dX2_tellApart_29 : decode cX2_tellApart 29 = .ok (.iconst 0, 1) := by decide +kernel
theorem dX2_tellApart_30 : decode cX2_tellApart 30 = .ok (.iconst 0, 1) := by decide +kernel
theorem dX2_tellApart_31 : decode cX2_tellApart 31 = .ok (.bipush 10, 2) := by decide +kernel
theorem dX2_tellApart_33 : decode cX2_tellApart 33 = .ok (.invokevirtual 21, 3) := by decide +kernel
theorem dX2_tellApart_36 : decode cX2_tellApart 36 = .ok (.pop, 1) := by decide +kernel
theorem dX2_tellApart_37 : decode cX2_tellApart 37 = .ok (.bipush 10, 2) := by decide +kernel
theorem dX2_tellApart_39 : decode cX2_tellApart 39 = .ok (.ireturn, 1) := by decide +kernel
theorem dJ7_fill_53178_0 : decode cJ7_fill_53178 0 = .ok (.iconst 0, 1) := by decide +kernel
theorem dJ7_fill_53178_1 : decode cJ7_fill_53178 1 = .ok (.istore_n 2, 1) := by decide +kernel
theorem dJ7_fill_53178_2 : decode cJ7_fill_53178 2 = .ok (.aload_n 0, 1) := by decide +kernel
theorem dJ7_fill_53178_3 : decode cJ7_fill_53178 3 = .ok (.arraylength, 1) := by decide +kernel
theorem dJ7_fill_53178_4 : decode cJ7_fill_53178 4 = .ok (.istore_n 3, 1) := by decide +kernel
theorem dJ7_fill_53178_5 : decode cJ7_fill_53178 5 = .ok (.iload_n 2, 1) := by decide +kernel
theorem dJ7_fill_53178_6 : decode cJ7_fill_53178 6 = .ok (.iload_n 3, 1) := by decide +kernel
theorem dJ7_fill_53178_7 : decode cJ7_fill_53178 7 = .ok (.if_icmp .ge 13, 3) := by decide +kernel
theorem dJ7_fill_53178_10 : decode cJ7_fill_53178 10 = .ok (.aload_n 0, 1) := by decide +kernel
theorem dJ7_fill_53178_11 : decode cJ7_fill_53178 11 = .ok (.iload_n 2, 1) := by decide +kernel
theorem dJ7_fill_53178_12 : decode cJ7_fill_53178 12 = .ok (.iload_n 1, 1) := by decide +kernel
theorem dJ7_fill_53178_13 : decode cJ7_fill_53178 13 = .ok (.iastore, 1) := by decide +kernel
theorem dJ7_fill_53178_14 : decode cJ7_fill_53178 14 = .ok (.iinc 2 1, 3) := by decide +kernel
theorem dJ7_fill_53178_17 : decode cJ7_fill_53178 17 = .ok (.goto (-12), 3) := by decide +kernel
theorem dJ7_fill_53178_20 : decode cJ7_fill_53178 20 = .ok (.return_, 1) := by decide +kernel
theorem dX10_isCorner_0 : decode cX10_isCorner 0 = .ok (.iload_n 0, 1) := by decide +kernel
theorem dX10_isCorner_1 : decode cX10_isCorner 1 = .ok (.ifCond .lt 13, 3) := by decide +kernel
theorem dX10_isCorner_4 : decode cX10_isCorner 4 = .ok (.iload_n 0, 1) := by decide +kernel
theorem dX10_isCorner_5 : decode cX10_isCorner 5 = .ok (.bipush 8, 2) := by decide +kernel
theorem dX10_isCorner_7 : decode cX10_isCorner 7 = .ok (.if_icmp .ge 7, 3) := by decide +kernel
theorem dX10_isCorner_10 : decode cX10_isCorner 10 = .ok (.iconst 1, 1) := by decide +kernel
theorem dX10_isCorner_11 : decode cX10_isCorner 11 = .ok (.goto 4, 3) := by decide +kernel
theorem dX10_isCorner_14 : decode cX10_isCorner 14 = .ok (.iconst 0, 1) := by decide +kernel
theorem dX10_isCorner_15 : decode cX10_isCorner 15 = .ok (.ireturn, 1) := by decide +kernel
theorem dX2_goOn_0 : decode cX2_goOn 0 = .ok (.aload_n 0, 1) := by decide +kernel
theorem dX2_goOn_1 : decode cX2_goOn 1 = .ok (.getfield 18, 3) := by decide +kernel
theorem dX2_goOn_4 : decode cX2_goOn 4 = .ok (.iconst 0, 1) := by decide +kernel
theorem dX2_goOn_5 : decode cX2_goOn 5 = .ok (.invokestatic 54, 3) := by decide +kernel
theorem dX2_goOn_8 : decode cX2_goOn 8 = .ok (.iconst 0, 1) := by decide +kernel
theorem dX2_goOn_9 : decode cX2_goOn 9 = .ok (.istore_n 3, 1) := by decide +kernel
theorem dX2_goOn_10 : decode cX2_goOn 10 = .ok (.iload_n 3, 1) := by decide +kernel
theorem dX2_goOn_11 : decode cX2_goOn 11 = .ok (.aload_n 1, 1) := by decide +kernel
theorem dX2_goOn_12 : decode cX2_goOn 12 = .ok (.getfield 25, 3) := by decide +kernel
theorem dX2_goOn_15 : decode cX2_goOn 15 = .ok (.if_icmp .ge 85, 3) := by decide +kernel
theorem dX2_goOn_18 : decode cX2_goOn 18 = .ok (.aload_n 1, 1) := by decide +kernel
theorem dX2_goOn_19 : decode cX2_goOn 19 = .ok (.getfield 70, 3) := by decide +kernel
theorem dX2_goOn_22 : decode cX2_goOn 22 = .ok (.iload_n 3, 1) := by decide +kernel
theorem dX2_goOn_23 : decode cX2_goOn 23 = .ok (.iaload, 1) := by decide +kernel
theorem dX2_goOn_24 : decode cX2_goOn 24 = .ok (.istore 4, 2) := by decide +kernel
theorem dX2_goOn_26 : decode cX2_goOn 26 = .ok (.aload_n 1, 1) := by decide +kernel
theorem dX2_goOn_27 : decode cX2_goOn 27 = .ok (.getfield 73, 3) := by decide +kernel
theorem dX2_goOn_30 : decode cX2_goOn 30 = .ok (.iload_n 3, 1) := by decide +kernel
theorem dX2_goOn_31 : decode cX2_goOn 31 = .ok (.iaload, 1) := by decide +kernel
theorem dX2_goOn_32 : decode cX2_goOn 32 = .ok (.istore 5, 2) := by decide +kernel
theorem dX2_goOn_34 : decode cX2_goOn 34 = .ok (.aload_n 1, 1) := by decide +kernel
theorem dX2_goOn_35 : decode cX2_goOn 35 = .ok (.getfield 76, 3) := by decide +kernel
theorem dX2_goOn_38 : decode cX2_goOn 38 = .ok (.iload_n 3, 1) := by decide +kernel
theorem dX2_goOn_39 : decode cX2_goOn 39 = .ok (.iaload, 1) := by decide +kernel
theorem dX2_goOn_40 : decode cX2_goOn 40 = .ok (.iload_n 2, 1) := by decide +kernel
theorem dX2_goOn_41 : decode cX2_goOn 41 = .ok (.if_icmp .ne 53, 3) := by decide +kernel
theorem dX2_goOn_44 : decode cX2_goOn 44 = .ok (.iload 4, 2) := by decide +kernel
theorem dX2_goOn_46 : decode cX2_goOn 46 = .ok (.invokestatic 79, 3) := by decide +kernel
theorem dX2_goOn_49 : decode cX2_goOn 49 = .ok (.ifCond .eq 45, 3) := by decide +kernel
theorem dX2_goOn_52 : decode cX2_goOn 52 = .ok (.iload 5, 2) := by decide +kernel
theorem dX2_goOn_54 : decode cX2_goOn 54 = .ok (.invokestatic 79, 3) := by decide +kernel
theorem dX2_goOn_57 : decode cX2_goOn 57 = .ok (.ifCond .eq 37, 3) := by decide +kernel
theorem dX2_goOn_60 : decode cX2_goOn 60 = .ok (.aload_n 0, 1) := by decide +kernel
theorem dX2_goOn_61 : decode cX2_goOn 61 = .ok (.getfield 18, 3) := by decide +kernel
theorem dX2_goOn_64 : decode cX2_goOn 64 = .ok (.iload 5, 2) := by decide +kernel
theorem dX2_goOn_66 : decode cX2_goOn 66 = .ok (.dup2, 1) := by decide +kernel
theorem dX2_goOn_67 : decode cX2_goOn 67 = .ok (.iaload, 1) := by decide +kernel
theorem dX2_goOn_68 : decode cX2_goOn 68 = .ok (.aload_n 0, 1) := by decide +kernel
theorem dX2_goOn_69 : decode cX2_goOn 69 = .ok (.getfield 15, 3) := by decide +kernel
theorem dX2_goOn_72 : decode cX2_goOn 72 = .ok (.iload 4, 2) := by decide +kernel
theorem dX2_goOn_74 : decode cX2_goOn 74 = .ok (.iaload, 1) := by decide +kernel
theorem dX2_goOn_75 : decode cX2_goOn 75 = .ok (.iadd, 1) := by decide +kernel
theorem dX2_goOn_76 : decode cX2_goOn 76 = .ok (.iastore, 1) := by decide +kernel
theorem dX2_goOn_77 : decode cX2_goOn 77 = .ok (.aload_n 0, 1) := by decide +kernel
theorem dX2_goOn_78 : decode cX2_goOn 78 = .ok (.getfield 18, 3) := by decide +kernel
theorem dX2_goOn_81 : decode cX2_goOn 81 = .ok (.iload 4, 2) := by decide +kernel
theorem dX2_goOn_83 : decode cX2_goOn 83 = .ok (.dup2, 1) := by decide +kernel
theorem dX2_goOn_84 : decode cX2_goOn 84 = .ok (.iaload, 1) := by decide +kernel
theorem dX2_goOn_85 : decode cX2_goOn 85 = .ok (.aload_n 0, 1) := by decide +kernel
theorem dX2_goOn_86 : decode cX2_goOn 86 = .ok (.getfield 15, 3) := by decide +kernel
theorem dX2_goOn_89 : decode cX2_goOn 89 = .ok (.iload 5, 2) := by decide +kernel
theorem dX2_goOn_91 : decode cX2_goOn 91 = .ok (.iaload, 1) := by decide +kernel
theorem dX2_goOn_92 : decode cX2_goOn 92 = .ok (.iadd, 1) := by decide +kernel
theorem dX2_goOn_93 : decode cX2_goOn 93 = .ok (.iastore, 1) := by decide +kernel
theorem dX2_goOn_94 : decode cX2_goOn 94 = .ok (.iinc 3 1, 3) := by decide +kernel
theorem dX2_goOn_97 : decode cX2_goOn 97 = .ok (.goto (-87), 3) := by decide +kernel
theorem dX2_goOn_100 : decode cX2_goOn 100 = .ok (.aload_n 0, 1) := by decide +kernel
theorem dX2_goOn_101 : decode cX2_goOn 101 = .ok (.getfield 18, 3) := by decide +kernel
theorem dX2_goOn_104 : decode cX2_goOn 104 = .ok (.iconst 0, 1) := by decide +kernel
theorem dX2_goOn_105 : decode cX2_goOn 105 = .ok (.aload_n 0, 1) := by decide +kernel
theorem dX2_goOn_106 : decode cX2_goOn 106 = .ok (.getfield 15, 3) := by decide +kernel
theorem dX2_goOn_109 : decode cX2_goOn 109 = .ok (.iconst 0, 1) := by decide +kernel
theorem dX2_goOn_110 : decode cX2_goOn 110 = .ok (.bipush 8, 2) := by decide +kernel
theorem dX2_goOn_112 : decode cX2_goOn 112 = .ok (.invokestatic 83, 3) := by decide +kernel
theorem dX2_goOn_115 : decode cX2_goOn 115 = .ok (.return_, 1) := by decide +kernel
theorem dX2_retrace_0 : decode cX2_retrace 0 = .ok (.aload_n 0, 1) := by decide +kernel
theorem dX2_retrace_1 : decode cX2_retrace 1 = .ok (.iconst 0, 1) := by decide +kernel
theorem dX2_retrace_2 : decode cX2_retrace 2 = .ok (.putfield 45, 3) := by decide +kernel
theorem dX2_retrace_5 : decode cX2_retrace 5 = .ok (.aload_n 0, 1) := by decide +kernel
theorem dX2_retrace_6 : decode cX2_retrace 6 = .ok (.iconst 0, 1) := by decide +kernel
theorem dX2_retrace_7 : decode cX2_retrace 7 = .ok (.putfield 48, 3) := by decide +kernel
theorem dX2_retrace_10 : decode cX2_retrace 10 = .ok (.aload_n 0, 1) := by decide +kernel
theorem dX2_retrace_11 : decode cX2_retrace 11 = .ok (.iconst 0, 1) := by decide +kernel
theorem dX2_retrace_12 : decode cX2_retrace 12 = .ok (.putfield 51, 3) := by decide +kernel
theorem dX2_retrace_15 : decode cX2_retrace 15 = .ok (.iconst 0, 1) := by decide +kernel
theorem dX2_retrace_16 : decode cX2_retrace 16 = .ok (.istore_n 2, 1) := by decide +kernel
theorem dX2_retrace_17 : decode cX2_retrace 17 = .ok (.iload_n 2, 1) := by decide +kernel
theorem dX2_retrace_18 : decode cX2_retrace 18 = .ok (.bipush 8, 2) := by decide +kernel
theorem dX2_retrace_20 : decode cX2_retrace 20 = .ok (.if_icmp .ge 119, 3) := by decide +kernel
theorem dX2_retrace_23 : decode cX2_retrace 23 = .ok (.aload_n 0, 1) := by decide +kernel
theorem dX2_retrace_24 : decode cX2_retrace 24 = .ok (.getfield 15, 3) := by decide +kernel
theorem dX2_retrace_27 : decode cX2_retrace 27 = .ok (.iconst 0, 1) := by decide +kernel
theorem dX2_retrace_28 : decode cX2_retrace 28 = .ok (.invokestatic 54, 3) := by decide +kernel
theorem dX2_retrace_31 : decode cX2_retrace 31 = .ok (.aload_n 0, 1) := by decide +kernel
theorem dX2_retrace_32 : decode cX2_retrace 32 = .ok (.getfield 15, 3) := by decide +kernel
theorem dX2_retrace_35 : decode cX2_retrace 35 = .ok (.iload_n 2, 1) := by decide +kernel
theorem dX2_retrace_36 : decode cX2_retrace 36 = .ok (.iconst 1, 1) := by decide +kernel
theorem dX2_retrace_37 : decode cX2_retrace 37 = .ok (.iastore, 1) := by decide +kernel
theorem dX2_retrace_38 : decode cX2_retrace 38 = .ok (.iconst 0, 1) := by decide +kernel
theorem dX2_retrace_39 : decode cX2_retrace 39 = .ok (.istore_n 3, 1) := by decide +kernel
theorem dX2_retrace_40 : decode cX2_retrace 40 = .ok (.iload_n 3, 1) := by decide +kernel
theorem dX2_retrace_41 : decode cX2_retrace 41 = .ok (.aload_n 1, 1) := by decide +kernel
theorem dX2_retrace_42 : decode cX2_retrace 42 = .ok (.getfield 60, 3) := by decide +kernel
theorem dX2_retrace_45 : decode cX2_retrace 45 = .ok (.if_icmp .ge 26, 3) := by decide +kernel
theorem dX2_retrace_48 : decode cX2_retrace 48 = .ok (.iload_n 3, 1) := by decide +kernel
theorem dX2_retrace_49 : decode cX2_retrace 49 = .ok (.bipush 6, 2) := by decide +kernel
theorem dX2_retrace_51 : decode cX2_retrace 51 = .ok (.if_icmp .ge 20, 3) := by decide +kernel
theorem dX2_retrace_54 : decode cX2_retrace 54 = .ok (.aload_n 0, 1) := by decide +kernel
theorem dX2_retrace_55 : decode cX2_retrace 55 = .ok (.aload_n 1, 1) := by decide +kernel
theorem dX2_retrace_56 : decode cX2_retrace 56 = .ok (.aload_n 1, 1) := by decide +kernel
theorem dX2_retrace_57 : decode cX2_retrace 57 = .ok (.getfield 63, 3) := by decide +kernel
theorem dX2_retrace_60 : decode cX2_retrace 60 = .ok (.iload_n 3, 1) := by decide +kernel
theorem dX2_retrace_61 : decode cX2_retrace 61 = .ok (.iaload, 1) := by decide +kernel
theorem dX2_retrace_62 : decode cX2_retrace 62 = .ok (.invokevirtual 66, 3) := by decide +kernel
theorem dX2_retrace_65 : decode cX2_retrace 65 = .ok (.iinc 3 1, 3) := by decide +kernel
theorem dX2_retrace_68 : decode cX2_retrace 68 = .ok (.goto (-28), 3) := by decide +kernel
theorem dX2_retrace_71 : decode cX2_retrace 71 = .ok (.iconst 0, 1) := by decide +kernel
theorem dX2_retrace_72 : decode cX2_retrace 72 = .ok (.istore_n 3, 1) := by decide +kernel
theorem dX2_retrace_73 : decode cX2_retrace 73 = .ok (.iload_n 3, 1) := by decide +kernel
theorem dX2_retrace_74 : decode cX2_retrace 74 = .ok (.bipush 8, 2) := by decide +kernel
theorem dX2_retrace_76 : decode cX2_retrace 76 = .ok (.if_icmp .ge 57, 3) := by decide +kernel
theorem dX2_retrace_79 : decode cX2_retrace 79 = .ok (.aload_n 0, 1) := by decide +kernel
theorem dX2_retrace_80 : decode cX2_retrace 80 = .ok (.getfield 15, 3) := by decide +kernel
theorem dX2_retrace_83 : decode cX2_retrace 83 = .ok (.iload_n 3, 1) := by decide +kernel
theorem dX2_retrace_84 : decode cX2_retrace 84 = .ok (.iaload, 1) := by decide +kernel
theorem dX2_retrace_85 : decode cX2_retrace 85 = .ok (.ifCond .le 42, 3) := by decide +kernel
theorem dX2_retrace_88 : decode cX2_retrace 88 = .ok (.aload_n 0, 1) := by decide +kernel
theorem dX2_retrace_89 : decode cX2_retrace 89 = .ok (.dup, 1) := by decide +kernel
theorem dX2_retrace_90 : decode cX2_retrace 90 = .ok (.getfield 45, 3) := by decide +kernel
theorem dX2_retrace_93 : decode cX2_retrace 93 = .ok (.aload_n 0, 1) := by decide +kernel
theorem dX2_retrace_94 : decode cX2_retrace 94 = .ok (.getfield 15, 3) := by decide +kernel
theorem dX2_retrace_97 : decode cX2_retrace 97 = .ok (.iload_n 3, 1) := by decide +kernel
theorem dX2_retrace_98 : decode cX2_retrace 98 = .ok (.iaload, 1) := by decide +kernel
theorem dX2_retrace_99 : decode cX2_retrace 99 = .ok (.iadd, 1) := by decide +kernel
theorem dX2_retrace_100 : decode cX2_retrace 100 = .ok (.putfield 45, 3) := by decide +kernel
theorem dX2_retrace_103 : decode cX2_retrace 103 = .ok (.aload_n 0, 1) := by decide +kernel
theorem dX2_retrace_104 : decode cX2_retrace 104 = .ok (.dup, 1) := by decide +kernel
theorem dX2_retrace_105 : decode cX2_retrace 105 = .ok (.getfield 48, 3) := by decide +kernel
theorem dX2_retrace_108 : decode cX2_retrace 108 = .ok (.iconst 1, 1) := by decide +kernel
theorem dX2_retrace_109 : decode cX2_retrace 109 = .ok (.iload_n 2, 1) := by decide +kernel
theorem dX2_retrace_110 : decode cX2_retrace 110 = .ok (.ishl, 1) := by decide +kernel
theorem dX2_retrace_111 : decode cX2_retrace 111 = .ok (.ior, 1) := by decide +kernel
theorem dX2_retrace_112 : decode cX2_retrace 112 = .ok (.putfield 48, 3) := by decide +kernel
theorem dX2_retrace_115 : decode cX2_retrace 115 = .ok (.aload_n 0, 1) := by decide +kernel
theorem dX2_retrace_116 : decode cX2_retrace 116 = .ok (.dup, 1) := by decide +kernel
theorem dX2_retrace_117 : decode cX2_retrace 117 = .ok (.getfield 51, 3) := by decide +kernel
theorem dX2_retrace_120 : decode cX2_retrace 120 = .ok (.iconst 1, 1) := by decide +kernel
theorem dX2_retrace_121 : decode cX2_retrace 121 = .ok (.iload_n 3, 1) := by decide +kernel
theorem dX2_retrace_122 : decode cX2_retrace 122 = .ok (.ishl, 1) := by decide +kernel
theorem dX2_retrace_123 : decode cX2_retrace 123 = .ok (.ior, 1) := by decide +kernel
theorem dX2_retrace_124 : decode cX2_retrace 124 = .ok (.putfield 51, 3) := by decide +kernel
theorem dX2_retrace_127 : decode cX2_retrace 127 = .ok (.iinc 3 1, 3) := by decide +kernel
theorem dX2_retrace_130 : decode cX2_retrace 130 = .ok (.goto (-57), 3) := by decide +kernel
theorem dX2_retrace_133 : decode cX2_retrace 133 = .ok (.iinc 2 1, 3) := by decide +kernel
theorem dX2_retrace_136 : decode cX2_retrace 136 = .ok (.goto (-119), 3) := by decide +kernel
theorem dX2_retrace_139 : decode cX2_retrace 139 = .ok (.return_, 1) := by decide +kernel
theorem dX3_byteAt_0 : decode cX3_byteAt 0 = .ok (.iload_n 1, 1) := by decide +kernel
theorem dX3_byteAt_1 : decode cX3_byteAt 1 = .ok (.ifCond .lt 33, 3) := by decide +kernel
theorem dX3_byteAt_4 : decode cX3_byteAt 4 = .ok (.iload_n 1, 1) := by decide +kernel
theorem dX3_byteAt_5 : decode cX3_byteAt 5 = .ok (.aload_n 0, 1) := by decide +kernel
theorem dX3_byteAt_6 : decode cX3_byteAt 6 = .ok (.getfield 12, 3) := by decide +kernel
theorem dX3_byteAt_9 : decode cX3_byteAt 9 = .ok (.getfield 180, 3) := by decide +kernel
theorem dX3_byteAt_12 : decode cX3_byteAt 12 = .ok (.if_icmp .ge 22, 3) := by decide +kernel
theorem dX3_byteAt_15 : decode cX3_byteAt 15 = .ok (.iload_n 1, 1) := by decide +kernel
theorem dX3_byteAt_16 : decode cX3_byteAt 16 = .ok (.sipush 400, 3) := by decide +kernel
theorem dX3_byteAt_19 : decode cX3_byteAt 19 = .ok (.if_icmp .ge 15, 3) := by decide +kernel
theorem dX3_byteAt_22 : decode cX3_byteAt 22 = .ok (.aload_n 0, 1) := by decide +kernel
theorem dX3_byteAt_23 : decode cX3_byteAt 23 = .ok (.getfield 12, 3) := by decide +kernel
theorem dX3_byteAt_26 : decode cX3_byteAt 26 = .ok (.getfield 182, 3) := by decide +kernel
theorem dX3_byteAt_29 : decode cX3_byteAt 29 = .ok (.iload_n 1, 1) := by decide +kernel
theorem dX3_byteAt_30 : decode cX3_byteAt 30 = .ok (.iaload, 1) := by decide +kernel
theorem dX3_byteAt_31 : decode cX3_byteAt 31 = .ok (.goto 4, 3) := by decide +kernel
theorem dX3_byteAt_34 : decode cX3_byteAt 34 = .ok (.iconst (-1), 1) := by decide +kernel
theorem dX3_byteAt_35 : decode cX3_byteAt 35 = .ok (.ireturn, 1) := by decide +kernel
theorem dX3_isDigit_0 : decode cX3_isDigit 0 = .ok (.iload_n 0, 1) := by decide +kernel
theorem dX3_isDigit_1 : decode cX3_isDigit 1 = .ok (.bipush 48, 2) := by decide +kernel
theorem dX3_isDigit_3 : decode cX3_isDigit 3 = .ok (.if_icmp .lt 13, 3) := by decide +kernel
theorem dX3_isDigit_6 : decode cX3_isDigit 6 = .ok (.iload_n 0, 1) := by decide +kernel
theorem dX3_isDigit_7 : decode cX3_isDigit 7 = .ok (.bipush 57, 2) := by decide +kernel
theorem dX3_isDigit_9 : decode cX3_isDigit 9 = .ok (.if_icmp .gt 7, 3) := by decide +kernel
theorem dX3_isDigit_12 : decode cX3_isDigit 12 = .ok (.iconst 1, 1) := by decide +kernel
theorem dX3_isDigit_13 : decode cX3_isDigit 13 = .ok (.goto 4, 3) := by decide +kernel
theorem dX3_isDigit_16 : decode cX3_isDigit 16 = .ok (.iconst 0, 1) := by decide +kernel
theorem dX3_isDigit_17 : decode cX3_isDigit 17 = .ok (.ireturn, 1) := by decide +kernel
theorem dX3_isLetter_0 : decode cX3_isLetter 0 = .ok (.iload_n 0, 1) := by decide +kernel
theorem dX3_isLetter_1 : decode cX3_isLetter 1 = .ok (.bipush 97, 2) := by decide +kernel
theorem dX3_isLetter_3 : decode cX3_isLetter 3 = .ok (.if_icmp .lt 13, 3) := by decide +kernel
theorem dX3_isLetter_6 : decode cX3_isLetter 6 = .ok (.iload_n 0, 1) := by decide +kernel
theorem dX3_isLetter_7 : decode cX3_isLetter 7 = .ok (.bipush 122, 2) := by decide +kernel
theorem dX3_isLetter_9 : decode cX3_isLetter 9 = .ok (.if_icmp .gt 7, 3) := by decide +kernel
theorem dX3_isLetter_12 : decode cX3_isLetter 12 = .ok (.iconst 1, 1) := by decide +kernel
theorem dX3_isLetter_13 : decode cX3_isLetter 13 = .ok (.goto 4, 3) := by decide +kernel
theorem dX3_isLetter_16 : decode cX3_isLetter 16 = .ok (.iconst 0, 1) := by decide +kernel
theorem dX3_isLetter_17 : decode cX3_isLetter 17 = .ok (.ireturn, 1) := by decide +kernel
theorem dX3_advance_0 : decode cX3_advance 0 = .ok (.aload_n 0, 1) := by decide +kernel
theorem dX3_advance_1 : decode cX3_advance 1 = .ok (.getfield 33, 3) := by decide +kernel
theorem dX3_advance_4 : decode cX3_advance 4 = .ok (.aload_n 0, 1) := by decide +kernel
theorem dX3_advance_5 : decode cX3_advance 5 = .ok (.getfield 12, 3) := by decide +kernel
theorem dX3_advance_8 : decode cX3_advance 8 = .ok (.getfield 180, 3) := by decide +kernel
theorem dX3_advance_11 : decode cX3_advance 11 = .ok (.if_icmp .ge 29, 3) := by decide +kernel
theorem dX3_advance_14 : decode cX3_advance 14 = .ok (.aload_n 0, 1) := by decide +kernel
theorem dX3_advance_15 : decode cX3_advance 15 = .ok (.aload_n 0, 1) := by decide +kernel
theorem dX3_advance_16 : decode cX3_advance 16 = .ok (.getfield 33, 3) := by decide +kernel
theorem dX3_advance_19 : decode cX3_advance 19 = .ok (.invokevirtual 166, 3) := by decide +kernel
theorem dX3_advance_22 : decode cX3_advance 22 = .ok (.bipush 32, 2) := by decide +kernel
theorem dX3_advance_24 : decode cX3_advance 24 = .ok (.if_icmp .ne 16, 3) := by decide +kernel
theorem dX3_advance_27 : decode cX3_advance 27 = .ok (.aload_n 0, 1) := by decide +kernel
theorem dX3_advance_28 : decode cX3_advance 28 = .ok (.dup, 1) := by decide +kernel
theorem dX3_advance_29 : decode cX3_advance 29 = .ok (.getfield 33, 3) := by decide +kernel
theorem dX3_advance_32 : decode cX3_advance 32 = .ok (.iconst 1, 1) := by decide +kernel
theorem dX3_advance_33 : decode cX3_advance 33 = .ok (.iadd, 1) := by decide +kernel
theorem dX3_advance_34 : decode cX3_advance 34 = .ok (.putfield 33, 3) := by decide +kernel
theorem dX3_advance_37 : decode cX3_advance 37 = .ok (.goto (-37), 3) := by decide +kernel
theorem dX3_advance_40 : decode cX3_advance 40 = .ok (.aload_n 0, 1) := by decide +kernel
theorem dX3_advance_41 : decode cX3_advance 41 = .ok (.aload_n 0, 1) := by decide +kernel
theorem dX3_advance_42 : decode cX3_advance 42 = .ok (.getfield 33, 3) := by decide +kernel
theorem dX3_advance_45 : decode cX3_advance 45 = .ok (.putfield 163, 3) := by decide +kernel
theorem dX3_advance_48 : decode cX3_advance 48 = .ok (.aload_n 0, 1) := by decide +kernel
theorem dX3_advance_49 : decode cX3_advance 49 = .ok (.getfield 33, 3) := by decide +kernel
theorem dX3_advance_52 : decode cX3_advance 52 = .ok (.aload_n 0, 1) := by decide +kernel
theorem dX3_advance_53 : decode cX3_advance 53 = .ok (.getfield 12, 3) := by decide +kernel
theorem dX3_advance_56 : decode cX3_advance 56 = .ok (.getfield 180, 3) := by decide +kernel
theorem dX3_advance_59 : decode cX3_advance 59 = .ok (.if_icmp .lt 11, 3) := by decide +kernel
theorem dX3_advance_62 : decode cX3_advance 62 = .ok (.aload_n 0, 1) := by decide +kernel
theorem dX3_advance_63 : decode cX3_advance 63 = .ok (.iconst 0, 1) := by decide +kernel
theorem dX3_advance_64 : decode cX3_advance 64 = .ok (.putfield 52, 3) := by decide +kernel
theorem dX3_advance_67 : decode cX3_advance 67 = .ok (.goto 172, 3) := by decide +kernel
theorem dX3_advance_70 : decode cX3_advance 70 = .ok (.aload_n 0, 1) := by decide +kernel
theorem dX3_advance_71 : decode cX3_advance 71 = .ok (.aload_n 0, 1) := by decide +kernel
theorem dX3_advance_72 : decode cX3_advance 72 = .ok (.getfield 33, 3) := by decide +kernel
theorem dX3_advance_75 : decode cX3_advance 75 = .ok (.invokevirtual 166, 3) := by decide +kernel
theorem dX3_advance_78 : decode cX3_advance 78 = .ok (.invokestatic 185, 3) := by decide +kernel
theorem dX3_advance_81 : decode cX3_advance 81 = .ok (.ifCond .eq 49, 3) := by decide +kernel
theorem dX3_advance_84 : decode cX3_advance 84 = .ok (.aload_n 0, 1) := by decide +kernel
theorem dX3_advance_85 : decode cX3_advance 85 = .ok (.iconst 1, 1) := by decide +kernel
theorem dX3_advance_86 : decode cX3_advance 86 = .ok (.putfield 52, 3) := by decide +kernel
theorem dX3_advance_89 : decode cX3_advance 89 = .ok (.aload_n 0, 1) := by decide +kernel
theorem dX3_advance_90 : decode cX3_advance 90 = .ok (.getfield 33, 3) := by decide +kernel
theorem dX3_advance_93 : decode cX3_advance 93 = .ok (.aload_n 0, 1) := by decide +kernel
theorem dX3_advance_94 : decode cX3_advance 94 = .ok (.getfield 12, 3) := by decide +kernel
theorem dX3_advance_97 : decode cX3_advance 97 = .ok (.getfield 180, 3) := by decide +kernel
theorem dX3_advance_100 : decode cX3_advance 100 = .ok (.if_icmp .ge 139, 3) := by decide +kernel
theorem dX3_advance_103 : decode cX3_advance 103 = .ok (.aload_n 0, 1) := by decide +kernel
theorem dX3_advance_104 : decode cX3_advance 104 = .ok (.aload_n 0, 1) := by decide +kernel
theorem dX3_advance_105 : decode cX3_advance 105 = .ok (.getfield 33, 3) := by decide +kernel
theorem dX3_advance_108 : decode cX3_advance 108 = .ok (.invokevirtual 166, 3) := by decide +kernel
theorem dX3_advance_111 : decode cX3_advance 111 = .ok (.invokestatic 185, 3) := by decide +kernel
theorem dX3_advance_114 : decode cX3_advance 114 = .ok (.ifCond .eq 125, 3) := by decide +kernel
theorem dX3_advance_117 : decode cX3_advance 117 = .ok (.aload_n 0, 1) := by decide +kernel
theorem dX3_advance_118 : decode cX3_advance 118 = .ok (.dup, 1) := by decide +kernel
theorem dX3_advance_119 : decode cX3_advance 119 = .ok (.getfield 33, 3) := by decide +kernel
theorem dX3_advance_122 : decode cX3_advance 122 = .ok (.iconst 1, 1) := by decide +kernel
theorem dX3_advance_123 : decode cX3_advance 123 = .ok (.iadd, 1) := by decide +kernel
theorem dX3_advance_124 : decode cX3_advance 124 = .ok (.putfield 33, 3) := by decide +kernel
theorem dX3_advance_127 : decode cX3_advance 127 = .ok (.goto (-38), 3) := by decide +kernel
theorem dX3_advance_130 : decode cX3_advance 130 = .ok (.aload_n 0, 1) := by decide +kernel
theorem dX3_advance_131 : decode cX3_advance 131 = .ok (.aload_n 0, 1) := by decide +kernel
theorem dX3_advance_132 : decode cX3_advance 132 = .ok (.getfield 33, 3) := by decide +kernel
theorem dX3_advance_135 : decode cX3_advance 135 = .ok (.invokevirtual 166, 3) := by decide +kernel
theorem dX3_advance_138 : decode cX3_advance 138 = .ok (.invokestatic 189, 3) := by decide +kernel
theorem dX3_advance_141 : decode cX3_advance 141 = .ok (.ifCond .eq 83, 3) := by decide +kernel
theorem dX3_advance_144 : decode cX3_advance 144 = .ok (.aload_n 0, 1) := by decide +kernel
theorem dX3_advance_145 : decode cX3_advance 145 = .ok (.iconst 2, 1) := by decide +kernel
theorem dX3_advance_146 : decode cX3_advance 146 = .ok (.putfield 52, 3) := by decide +kernel
theorem dX3_advance_149 : decode cX3_advance 149 = .ok (.aload_n 0, 1) := by decide +kernel
theorem dX3_advance_150 : decode cX3_advance 150 = .ok (.iconst 0, 1) := by decide +kernel
theorem dX3_advance_151 : decode cX3_advance 151 = .ok (.putfield 104, 3) := by decide +kernel
theorem dX3_advance_154 : decode cX3_advance 154 = .ok (.aload_n 0, 1) := by decide +kernel
theorem dX3_advance_155 : decode cX3_advance 155 = .ok (.getfield 33, 3) := by decide +kernel
theorem dX3_advance_158 : decode cX3_advance 158 = .ok (.aload_n 0, 1) := by decide +kernel
theorem dX3_advance_159 : decode cX3_advance 159 = .ok (.getfield 12, 3) := by decide +kernel
theorem dX3_advance_162 : decode cX3_advance 162 = .ok (.getfield 180, 3) := by decide +kernel
theorem dX3_advance_165 : decode cX3_advance 165 = .ok (.if_icmp .ge 74, 3) := by decide +kernel
theorem dX3_advance_168 : decode cX3_advance 168 = .ok (.aload_n 0, 1) := by decide +kernel
theorem dX3_advance_169 : decode cX3_advance 169 = .ok (.aload_n 0, 1) := by decide +kernel
theorem dX3_advance_170 : decode cX3_advance 170 = .ok (.getfield 33, 3) := by decide +kernel
theorem dX3_advance_173 : decode cX3_advance 173 = .ok (.invokevirtual 166, 3) := by decide +kernel
theorem dX3_advance_176 : decode cX3_advance 176 = .ok (.invokestatic 189, 3) := by decide +kernel
theorem dX3_advance_179 : decode cX3_advance 179 = .ok (.ifCond .eq 60, 3) := by decide +kernel
theorem dX3_advance_182 : decode cX3_advance 182 = .ok (.aload_n 0, 1) := by decide +kernel
theorem dX3_advance_183 : decode cX3_advance 183 = .ok (.aload_n 0, 1) := by decide +kernel
theorem dX3_advance_184 : decode cX3_advance 184 = .ok (.getfield 104, 3) := by decide +kernel
theorem dX3_advance_187 : decode cX3_advance 187 = .ok (.bipush 10, 2) := by decide +kernel
theorem dX3_advance_189 : decode cX3_advance 189 = .ok (.imul, 1) := by decide +kernel
theorem dX3_advance_190 : decode cX3_advance 190 = .ok (.aload_n 0, 1) := by decide +kernel
theorem dX3_advance_191 : decode cX3_advance 191 = .ok (.aload_n 0, 1) := by decide +kernel
theorem dX3_advance_192 : decode cX3_advance 192 = .ok (.getfield 33, 3) := by decide +kernel
theorem dX3_advance_195 : decode cX3_advance 195 = .ok (.invokevirtual 166, 3) := by decide +kernel
theorem dX3_advance_198 : decode cX3_advance 198 = .ok (.iadd, 1) := by decide +kernel
theorem dX3_advance_199 : decode cX3_advance 199 = .ok (.bipush 48, 2) := by decide +kernel
theorem dX3_advance_201 : decode cX3_advance 201 = .ok (.isub, 1) := by decide +kernel
theorem dX3_advance_202 : decode cX3_advance 202 = .ok (.sipush 1001, 3) := by decide +kernel
theorem dX3_advance_205 : decode cX3_advance 205 = .ok (.invokestatic 192, 3) := by decide +kernel
theorem dX3_advance_208 : decode cX3_advance 208 = .ok (.putfield 104, 3) := by decide +kernel
theorem dX3_advance_211 : decode cX3_advance 211 = .ok (.aload_n 0, 1) := by decide +kernel
theorem dX3_advance_212 : decode cX3_advance 212 = .ok (.dup, 1) := by decide +kernel
theorem dX3_advance_213 : decode cX3_advance 213 = .ok (.getfield 33, 3) := by decide +kernel
theorem dX3_advance_216 : decode cX3_advance 216 = .ok (.iconst 1, 1) := by decide +kernel
theorem dX3_advance_217 : decode cX3_advance 217 = .ok (.iadd, 1) := by decide +kernel
theorem dX3_advance_218 : decode cX3_advance 218 = .ok (.putfield 33, 3) := by decide +kernel
theorem dX3_advance_221 : decode cX3_advance 221 = .ok (.goto (-67), 3) := by decide +kernel
theorem dX3_advance_224 : decode cX3_advance 224 = .ok (.aload_n 0, 1) := by decide +kernel
theorem dX3_advance_225 : decode cX3_advance 225 = .ok (.iconst 3, 1) := by decide +kernel
theorem dX3_advance_226 : decode cX3_advance 226 = .ok (.putfield 52, 3) := by decide +kernel
theorem dX3_advance_229 : decode cX3_advance 229 = .ok (.aload_n 0, 1) := by decide +kernel
theorem dX3_advance_230 : decode cX3_advance 230 = .ok (.dup, 1) := by decide +kernel
theorem dX3_advance_231 : decode cX3_advance 231 = .ok (.getfield 33, 3) := by decide +kernel
theorem dX3_advance_234 : decode cX3_advance 234 = .ok (.iconst 1, 1) := by decide +kernel
theorem dX3_advance_235 : decode cX3_advance 235 = .ok (.iadd, 1) := by decide +kernel
theorem dX3_advance_236 : decode cX3_advance 236 = .ok (.putfield 33, 3) := by decide +kernel
theorem dX3_advance_239 : decode cX3_advance 239 = .ok (.return_, 1) := by decide +kernel
theorem dJ0_isLatin1_aae02_0 : decode cJ0_isLatin1_aae02 0 = .ok (.getstatic 38, 3) := by decide +kernel
theorem dJ0_isLatin1_aae02_3 : decode cJ0_isLatin1_aae02 3 = .ok (.ifCond .eq 14, 3) := by decide +kernel
theorem dJ0_isLatin1_aae02_6 : decode cJ0_isLatin1_aae02 6 = .ok (.aload_n 0, 1) := by decide +kernel
theorem dJ0_isLatin1_aae02_7 : decode cJ0_isLatin1_aae02 7 = .ok (.getfield 15, 3) := by decide +kernel
theorem dJ0_isLatin1_aae02_10 : decode cJ0_isLatin1_aae02 10 = .ok (.ifCond .ne 7, 3) := by decide +kernel
theorem dJ0_isLatin1_aae02_13 : decode cJ0_isLatin1_aae02 13 = .ok (.iconst 1, 1) := by decide +kernel
theorem dJ0_isLatin1_aae02_14 : decode cJ0_isLatin1_aae02 14 = .ok (.goto 4, 3) := by decide +kernel
theorem dJ0_isLatin1_aae02_17 : decode cJ0_isLatin1_aae02 17 = .ok (.iconst 0, 1) := by decide +kernel
theorem dJ0_isLatin1_aae02_18 : decode cJ0_isLatin1_aae02 18 = .ok (.ireturn, 1) := by decide +kernel
theorem dJ3_checkIndex_8e157_0 : decode cJ3_checkIndex_8e157 0 = .ok (.iload_n 0, 1) := by decide +kernel
theorem dJ3_checkIndex_8e157_1 : decode cJ3_checkIndex_8e157 1 = .ok (.ifCond .lt 8, 3) := by decide +kernel
theorem dJ3_checkIndex_8e157_4 : decode cJ3_checkIndex_8e157 4 = .ok (.iload_n 0, 1) := by decide +kernel
theorem dJ3_checkIndex_8e157_5 : decode cJ3_checkIndex_8e157 5 = .ok (.iload_n 1, 1) := by decide +kernel
theorem dJ3_checkIndex_8e157_6 : decode cJ3_checkIndex_8e157 6 = .ok (.if_icmp .lt 10, 3) := by decide +kernel
theorem dJ3_checkIndex_8e157_9 : decode cJ3_checkIndex_8e157 9 = .ok (.aload_n 2, 1) := by decide +kernel
theorem dJ3_checkIndex_8e157_10 : decode cJ3_checkIndex_8e157 10 = .ok (.iload_n 0, 1) := by decide +kernel
theorem dJ3_checkIndex_8e157_11 : decode cJ3_checkIndex_8e157 11 = .ok (.iload_n 1, 1) := by decide +kernel
theorem dJ3_checkIndex_8e157_12 : decode cJ3_checkIndex_8e157 12 = .ok (.invokestatic 95, 3) := by decide +kernel
theorem dJ3_checkIndex_8e157_15 : decode cJ3_checkIndex_8e157 15 = .ok (.athrow, 1) := by decide +kernel
theorem dJ3_checkIndex_8e157_16 : decode cJ3_checkIndex_8e157 16 = .ok (.iload_n 0, 1) := by decide +kernel
theorem dJ3_checkIndex_8e157_17 : decode cJ3_checkIndex_8e157 17 = .ok (.ireturn, 1) := by decide +kernel
theorem dJ0_checkIndex_df160_0 : decode cJ0_checkIndex_df160 0 = .ok (.iload_n 0, 1) := by decide +kernel
theorem dJ0_checkIndex_df160_1 : decode cJ0_checkIndex_df160 1 = .ok (.iload_n 1, 1) := by decide +kernel
theorem dJ0_checkIndex_df160_2 : decode cJ0_checkIndex_df160 2 = .ok (.getstatic 1053, 3) := by decide +kernel
theorem dJ0_checkIndex_df160_5 : decode cJ0_checkIndex_df160 5 = .ok (.invokestatic 1059, 3) := by decide +kernel
theorem dJ0_checkIndex_df160_8 : decode cJ0_checkIndex_df160 8 = .ok (.pop, 1) := by decide +kernel
theorem dJ0_checkIndex_df160_9 : decode cJ0_checkIndex_df160 9 = .ok (.return_, 1) := by decide +kernel
theorem dJ1_charAt_3b067_0 : decode cJ1_charAt_3b067 0 = .ok (.iload_n 1, 1) := by decide +kernel
theorem dJ1_charAt_3b067_1 : decode cJ1_charAt_3b067 1 = .ok (.aload_n 0, 1) := by decide +kernel
theorem dJ1_charAt_3b067_2 : decode cJ1_charAt_3b067 2 = .ok (.arraylength, 1) := by decide +kernel
theorem dJ1_charAt_3b067_3 : decode cJ1_charAt_3b067 3 = .ok (.invokestatic 9, 3) := by decide +kernel
theorem dJ1_charAt_3b067_6 : decode cJ1_charAt_3b067 6 = .ok (.aload_n 0, 1) := by decide +kernel
theorem dJ1_charAt_3b067_7 : decode cJ1_charAt_3b067 7 = .ok (.iload_n 1, 1) := by decide +kernel
theorem dJ1_charAt_3b067_8 : decode cJ1_charAt_3b067 8 = .ok (.baload, 1) := by decide +kernel
theorem dJ1_charAt_3b067_9 : decode cJ1_charAt_3b067 9 = .ok (.sipush 255, 3) := by decide +kernel
theorem dJ1_charAt_3b067_12 : decode cJ1_charAt_3b067 12 = .ok (.iand, 1) := by decide +kernel
theorem dJ1_charAt_3b067_13 : decode cJ1_charAt_3b067 13 = .ok (.i2c, 1) := by decide +kernel
theorem dJ1_charAt_3b067_14 : decode cJ1_charAt_3b067 14 = .ok (.ireturn, 1) := by decide +kernel
theorem dJ0_charAt_5068e_0 : decode cJ0_charAt_5068e 0 = .ok (.aload_n 0, 1) := by decide +kernel
theorem dJ0_charAt_5068e_1 : decode cJ0_charAt_5068e 1 = .ok (.invokevirtual 492, 3) := by decide +kernel
theorem dJ0_charAt_5068e_4 : decode cJ0_charAt_5068e 4 = .ok (.ifCond .eq 12, 3) := by decide +kernel
theorem dJ0_charAt_5068e_7 : decode cJ0_charAt_5068e 7 = .ok (.aload_n 0, 1) := by decide +kernel
theorem dJ0_charAt_5068e_8 : decode cJ0_charAt_5068e 8 = .ok (.getfield 9, 3) := by decide +kernel
theorem dJ0_charAt_5068e_11 : decode cJ0_charAt_5068e 11 = .ok (.iload_n 1, 1) := by decide +kernel
theorem dJ0_charAt_5068e_12 : decode cJ0_charAt_5068e 12 = .ok (.invokestatic 495, 3) := by decide +kernel
theorem dJ0_charAt_5068e_15 : decode cJ0_charAt_5068e 15 = .ok (.ireturn, 1) := by decide +kernel
theorem dJ0_charAt_5068e_16 : decode cJ0_charAt_5068e 16 = .ok (.aload_n 0, 1) := by decide +kernel
theorem dJ0_charAt_5068e_17 : decode cJ0_charAt_5068e 17 = .ok (.getfield 9, 3) := by decide +kernel
theorem dJ0_charAt_5068e_20 : decode cJ0_charAt_5068e 20 = .ok (.iload_n 1, 1) := by decide +kernel
theorem dJ0_charAt_5068e_21 : decode cJ0_charAt_5068e 21 = .ok (.invokestatic 498, 3) := by decide +kernel
theorem dJ0_charAt_5068e_24 : decode cJ0_charAt_5068e 24 = .ok (.ireturn, 1) := by decide +kernel
theorem dJ0_coder_7d493_0 : decode cJ0_coder_7d493 0 = .ok (.getstatic 38, 3) := by decide +kernel
theorem dJ0_coder_7d493_3 : decode cJ0_coder_7d493 3 = .ok (.ifCond .eq 10, 3) := by decide +kernel
theorem dJ0_coder_7d493_6 : decode cJ0_coder_7d493 6 = .ok (.aload_n 0, 1) := by decide +kernel
theorem dJ0_coder_7d493_7 : decode cJ0_coder_7d493 7 = .ok (.getfield 15, 3) := by decide +kernel
theorem dJ0_coder_7d493_10 : decode cJ0_coder_7d493 10 = .ok (.goto 4, 3) := by decide +kernel
theorem dJ0_coder_7d493_13 : decode cJ0_coder_7d493 13 = .ok (.iconst 1, 1) := by decide +kernel
theorem dJ0_coder_7d493_14 : decode cJ0_coder_7d493 14 = .ok (.ireturn, 1) := by decide +kernel
theorem dJ0_length_8abf5_0 : decode cJ0_length_8abf5 0 = .ok (.aload_n 0, 1) := by decide +kernel
theorem dJ0_length_8abf5_1 : decode cJ0_length_8abf5 1 = .ok (.getfield 9, 3) := by decide +kernel
theorem dJ0_length_8abf5_4 : decode cJ0_length_8abf5 4 = .ok (.arraylength, 1) := by decide +kernel
theorem dJ0_length_8abf5_5 : decode cJ0_length_8abf5 5 = .ok (.aload_n 0, 1) := by decide +kernel
theorem dJ0_length_8abf5_6 : decode cJ0_length_8abf5 6 = .ok (.invokevirtual 335, 3) := by decide +kernel
theorem dJ0_length_8abf5_9 : decode cJ0_length_8abf5 9 = .ok (.ishr, 1) := by decide +kernel
theorem dJ0_length_8abf5_10 : decode cJ0_length_8abf5 10 = .ok (.ireturn, 1) := by decide +kernel
theorem dX3_choice_0 : decode cX3_choice 0 = .ok (.aload_n 0, 1) := by decide +kernel
theorem dX3_choice_1 : decode cX3_choice 1 = .ok (.getfield 52, 3) := by decide +kernel
theorem dX3_choice_4 : decode cX3_choice 4 = .ok (.iconst 1, 1) := by decide +kernel
theorem dX3_choice_5 : decode cX3_choice 5 = .ok (.if_icmp .eq 5, 3) := by decide +kernel
theorem dX3_choice_8 : decode cX3_choice 8 = .ok (.iconst (-1), 1) := by decide +kernel
theorem dX3_choice_9 : decode cX3_choice 9 = .ok (.ireturn, 1) := by decide +kernel
theorem dX3_choice_10 : decode cX3_choice 10 = .ok (.iconst 0, 1) := by decide +kernel
theorem dX3_choice_11 : decode cX3_choice 11 = .ok (.istore_n 2, 1) := by decide +kernel
theorem dX3_choice_12 : decode cX3_choice 12 = .ok (.aload_n 0, 1) := by decide +kernel
theorem dX3_choice_13 : decode cX3_choice 13 = .ok (.getfield 163, 3) := by decide +kernel
theorem dX3_choice_16 : decode cX3_choice 16 = .ok (.istore_n 3, 1) := by decide +kernel
theorem dX3_choice_17 : decode cX3_choice 17 = .ok (.iconst 1, 1) := by decide +kernel
theorem dX3_choice_18 : decode cX3_choice 18 = .ok (.istore 4, 2) := by decide +kernel
theorem dX3_choice_20 : decode cX3_choice 20 = .ok (.iconst 0, 1) := by decide +kernel
theorem dX3_choice_21 : decode cX3_choice 21 = .ok (.istore 5, 2) := by decide +kernel
theorem dX3_choice_23 : decode cX3_choice 23 = .ok (.iload 5, 2) := by decide +kernel
theorem dX3_choice_25 : decode cX3_choice 25 = .ok (.aload_n 1, 1) := by decide +kernel
theorem dX3_choice_26 : decode cX3_choice 26 = .ok (.invokevirtual 170, 3) := by decide +kernel
theorem dX3_choice_29 : decode cX3_choice 29 = .ok (.if_icmp .gt 95, 3) := by decide +kernel
theorem dX3_choice_32 : decode cX3_choice 32 = .ok (.iload 5, 2) := by decide +kernel
theorem dX3_choice_34 : decode cX3_choice 34 = .ok (.aload_n 1, 1) := by decide +kernel
theorem dX3_choice_35 : decode cX3_choice 35 = .ok (.invokevirtual 170, 3) := by decide +kernel
theorem dX3_choice_38 : decode cX3_choice 38 = .ok (.if_icmp .eq 14, 3) := by decide +kernel
theorem dX3_choice_41 : decode cX3_choice 41 = .ok (.aload_n 1, 1) := by decide +kernel
theorem dX3_choice_42 : decode cX3_choice 42 = .ok (.iload 5, 2) := by decide +kernel
theorem dX3_choice_44 : decode cX3_choice 44 = .ok (.invokevirtual 176, 3) := by decide +kernel
theorem dX3_choice_47 : decode cX3_choice 47 = .ok (.bipush 32, 2) := by decide +kernel
theorem dX3_choice_49 : decode cX3_choice 49 = .ok (.if_icmp .ne 32, 3) := by decide +kernel
theorem dX3_choice_52 : decode cX3_choice 52 = .ok (.iload 4, 2) := by decide +kernel
theorem dX3_choice_54 : decode cX3_choice 54 = .ok (.ifCond .eq 13, 3) := by decide +kernel
theorem dX3_choice_57 : decode cX3_choice 57 = .ok (.iload_n 3, 1) := by decide +kernel
theorem dX3_choice_58 : decode cX3_choice 58 = .ok (.aload_n 0, 1) := by decide +kernel
theorem dX3_choice_59 : decode cX3_choice 59 = .ok (.getfield 33, 3) := by decide +kernel
theorem dX3_choice_62 : decode cX3_choice 62 = .ok (.if_icmp .ne 5, 3) := by decide +kernel
theorem dX3_choice_65 : decode cX3_choice 65 = .ok (.iload_n 2, 1) := by decide +kernel
theorem dX3_choice_66 : decode cX3_choice 66 = .ok (.ireturn, 1) := by decide +kernel
theorem dX3_choice_67 : decode cX3_choice 67 = .ok (.iinc 2 1, 3) := by decide +kernel
theorem dX3_choice_70 : decode cX3_choice 70 = .ok (.aload_n 0, 1) := by decide +kernel
theorem dX3_choice_71 : decode cX3_choice 71 = .ok (.getfield 163, 3) := by decide +kernel
theorem dX3_choice_74 : decode cX3_choice 74 = .ok (.istore_n 3, 1) := by decide +kernel
theorem dX3_choice_75 : decode cX3_choice 75 = .ok (.iconst 1, 1) := by decide +kernel
theorem dX3_choice_76 : decode cX3_choice 76 = .ok (.istore 4, 2) := by decide +kernel
theorem dX3_choice_78 : decode cX3_choice 78 = .ok (.goto 40, 3) := by decide +kernel
theorem dX3_choice_81 : decode cX3_choice 81 = .ok (.iload 4, 2) := by decide +kernel
theorem dX3_choice_83 : decode cX3_choice 83 = .ok (.ifCond .eq 29, 3) := by decide +kernel
theorem dX3_choice_86 : decode cX3_choice 86 = .ok (.iload_n 3, 1) := by decide +kernel
theorem dX3_choice_87 : decode cX3_choice 87 = .ok (.aload_n 0, 1) := by decide +kernel
theorem dX3_choice_88 : decode cX3_choice 88 = .ok (.getfield 33, 3) := by decide +kernel
theorem dX3_choice_91 : decode cX3_choice 91 = .ok (.if_icmp .ge 21, 3) := by decide +kernel
theorem dX3_choice_94 : decode cX3_choice 94 = .ok (.aload_n 0, 1) := by decide +kernel
theorem dX3_choice_95 : decode cX3_choice 95 = .ok (.iload_n 3, 1) := by decide +kernel
theorem dX3_choice_96 : decode cX3_choice 96 = .ok (.invokevirtual 166, 3) := by decide +kernel
theorem dX3_choice_99 : decode cX3_choice 99 = .ok (.aload_n 1, 1) := by decide +kernel
theorem dX3_choice_100 : decode cX3_choice 100 = .ok (.iload 5, 2) := by decide +kernel
theorem dX3_choice_102 : decode cX3_choice 102 = .ok (.invokevirtual 176, 3) := by decide +kernel
theorem dX3_choice_105 : decode cX3_choice 105 = .ok (.if_icmp .ne 7, 3) := by decide +kernel
theorem dX3_choice_108 : decode cX3_choice 108 = .ok (.iconst 1, 1) := by decide +kernel
theorem dX3_choice_109 : decode cX3_choice 109 = .ok (.goto 4, 3) := by decide +kernel
theorem dX3_choice_112 : decode cX3_choice 112 = .ok (.iconst 0, 1) := by decide +kernel
theorem dX3_choice_113 : decode cX3_choice 113 = .ok (.istore 4, 2) := by decide +kernel
theorem dX3_choice_115 : decode cX3_choice 115 = .ok (.iinc 3 1, 3) := by decide +kernel
theorem dX3_choice_118 : decode cX3_choice 118 = .ok (.iinc 5 1, 3) := by decide +kernel
theorem dX3_choice_121 : decode cX3_choice 121 = .ok (.goto (-98), 3) := by decide +kernel
theorem dX3_choice_124 : decode cX3_choice 124 = .ok (.iconst (-1), 1) := by decide +kernel
theorem dX3_choice_125 : decode cX3_choice 125 = .ok (.ireturn, 1) := by decide +kernel
theorem dX3_fail_0 : decode cX3_fail 0 = .ok (.aload_n 0, 1) := by decide +kernel
theorem dX3_fail_1 : decode cX3_fail 1 = .ok (.getfield 22, 3) := by decide +kernel
theorem dX3_fail_4 : decode cX3_fail 4 = .ok (.iconst (-1), 1) := by decide +kernel
theorem dX3_fail_5 : decode cX3_fail 5 = .ok (.if_icmp .ne 11, 3) := by decide +kernel
theorem dX3_fail_8 : decode cX3_fail 8 = .ok (.aload_n 0, 1) := by decide +kernel
theorem dX3_fail_9 : decode cX3_fail 9 = .ok (.aload_n 0, 1) := by decide +kernel
theorem dX3_fail_10 : decode cX3_fail 10 = .ok (.getfield 163, 3) := by decide +kernel
theorem dX3_fail_13 : decode cX3_fail 13 = .ok (.putfield 22, 3) := by decide +kernel
theorem dX3_fail_16 : decode cX3_fail 16 = .ok (.iconst 0, 1) := by decide +kernel
theorem dX3_fail_17 : decode cX3_fail 17 = .ok (.ireturn, 1) := by decide +kernel
theorem dX3_isSign_0 : decode cX3_isSign 0 = .ok (.aload_n 0, 1) := by decide +kernel
theorem dX3_isSign_1 : decode cX3_isSign 1 = .ok (.getfield 52, 3) := by decide +kernel
theorem dX3_isSign_4 : decode cX3_isSign 4 = .ok (.iconst 3, 1) := by decide +kernel
theorem dX3_isSign_5 : decode cX3_isSign 5 = .ok (.if_icmp .ne 19, 3) := by decide +kernel
theorem dX3_isSign_8 : decode cX3_isSign 8 = .ok (.aload_n 0, 1) := by decide +kernel
theorem dX3_isSign_9 : decode cX3_isSign 9 = .ok (.aload_n 0, 1) := by decide +kernel
theorem dX3_isSign_10 : decode cX3_isSign 10 = .ok (.getfield 163, 3) := by decide +kernel
theorem dX3_isSign_13 : decode cX3_isSign 13 = .ok (.invokevirtual 166, 3) := by decide +kernel
theorem dX3_isSign_16 : decode cX3_isSign 16 = .ok (.iload_n 1, 1) := by decide +kernel
theorem dX3_isSign_17 : decode cX3_isSign 17 = .ok (.if_icmp .ne 7, 3) := by decide +kernel
theorem dX3_isSign_20 : decode cX3_isSign 20 = .ok (.iconst 1, 1) := by decide +kernel
theorem dX3_isSign_21 : decode cX3_isSign 21 = .ok (.goto 4, 3) := by decide +kernel
theorem dX3_isSign_24 : decode cX3_isSign 24 = .ok (.iconst 0, 1) := by decide +kernel
theorem dX3_isSign_25 : decode cX3_isSign 25 = .ok (.ireturn, 1) := by decide +kernel
theorem dX3_closes_0 : decode cX3_closes 0 = .ok (.aload_n 0, 1) := by decide +kernel
theorem dX3_closes_1 : decode cX3_closes 1 = .ok (.iload_n 1, 1) := by decide +kernel
theorem dX3_closes_2 : decode cX3_closes 2 = .ok (.invokevirtual 62, 3) := by decide +kernel
theorem dX3_closes_5 : decode cX3_closes 5 = .ok (.ifCond .ne 8, 3) := by decide +kernel
theorem dX3_closes_8 : decode cX3_closes 8 = .ok (.aload_n 0, 1) := by decide +kernel
theorem dX3_closes_9 : decode cX3_closes 9 = .ok (.invokevirtual 66, 3) := by decide +kernel
theorem dX3_closes_12 : decode cX3_closes 12 = .ok (.ireturn, 1) := by decide +kernel
theorem dX3_closes_13 : decode cX3_closes 13 = .ok (.aload_n 0, 1) := by decide +kernel
theorem dX3_closes_14 : decode cX3_closes 14 = .ok (.dup, 1) := by decide +kernel
theorem dX3_closes_15 : decode cX3_closes 15 = .ok (.getfield 39, 3) := by decide +kernel
theorem dX3_closes_18 : decode cX3_closes 18 = .ok (.iconst 1, 1) := by decide +kernel
theorem dX3_closes_19 : decode cX3_closes 19 = .ok (.isub, 1) := by decide +kernel
theorem dX3_closes_20 : decode cX3_closes 20 = .ok (.putfield 39, 3) := by decide +kernel
theorem dX3_closes_23 : decode cX3_closes 23 = .ok (.aload_n 0, 1) := by decide +kernel
theorem dX3_closes_24 : decode cX3_closes 24 = .ok (.invokevirtual 42, 3) := by decide +kernel
theorem dX3_closes_27 : decode cX3_closes 27 = .ok (.iconst 1, 1) := by decide +kernel
theorem dX3_closes_28 : decode cX3_closes 28 = .ok (.ireturn, 1) := by decide +kernel
theorem dX3_emit_0 : decode cX3_emit 0 = .ok (.aload_n 0, 1) := by decide +kernel
theorem dX3_emit_1 : decode cX3_emit 1 = .ok (.getfield 30, 3) := by decide +kernel
theorem dX3_emit_4 : decode cX3_emit 4 = .ok (.istore_n 3, 1) := by decide +kernel
theorem dX3_emit_5 : decode cX3_emit 5 = .ok (.aload_n 0, 1) := by decide +kernel
theorem dX3_emit_6 : decode cX3_emit 6 = .ok (.getfield 30, 3) := by decide +kernel
theorem dX3_emit_9 : decode cX3_emit 9 = .ok (.iconst 1, 1) := by decide +kernel
theorem dX3_emit_10 : decode cX3_emit 10 = .ok (.iadd, 1) := by decide +kernel
theorem dX3_emit_11 : decode cX3_emit 11 = .ok (.aload_n 0, 1) := by decide +kernel
theorem dX3_emit_12 : decode cX3_emit 12 = .ok (.getfield 18, 3) := by decide +kernel
theorem dX3_emit_15 : decode cX3_emit 15 = .ok (.arraylength, 1) := by decide +kernel
theorem dX3_emit_16 : decode cX3_emit 16 = .ok (.if_icmp .ge 35, 3) := by decide +kernel
theorem dX3_emit_19 : decode cX3_emit 19 = .ok (.aload_n 0, 1) := by decide +kernel
theorem dX3_emit_20 : decode cX3_emit 20 = .ok (.getfield 18, 3) := by decide +kernel
theorem dX3_emit_23 : decode cX3_emit 23 = .ok (.aload_n 0, 1) := by decide +kernel
theorem dX3_emit_24 : decode cX3_emit 24 = .ok (.getfield 30, 3) := by decide +kernel
theorem dX3_emit_27 : decode cX3_emit 27 = .ok (.iload_n 1, 1) := by decide +kernel
theorem dX3_emit_28 : decode cX3_emit 28 = .ok (.iastore, 1) := by decide +kernel
theorem dX3_emit_29 : decode cX3_emit 29 = .ok (.aload_n 0, 1) := by decide +kernel
theorem dX3_emit_30 : decode cX3_emit 30 = .ok (.getfield 18, 3) := by decide +kernel
theorem dX3_emit_33 : decode cX3_emit 33 = .ok (.aload_n 0, 1) := by decide +kernel
theorem dX3_emit_34 : decode cX3_emit 34 = .ok (.getfield 30, 3) := by decide +kernel
theorem dX3_emit_37 : decode cX3_emit 37 = .ok (.iconst 1, 1) := by decide +kernel
theorem dX3_emit_38 : decode cX3_emit 38 = .ok (.iadd, 1) := by decide +kernel
theorem dX3_emit_39 : decode cX3_emit 39 = .ok (.iload_n 2, 1) := by decide +kernel
theorem dX3_emit_40 : decode cX3_emit 40 = .ok (.iastore, 1) := by decide +kernel
theorem dX3_emit_41 : decode cX3_emit 41 = .ok (.aload_n 0, 1) := by decide +kernel
theorem dX3_emit_42 : decode cX3_emit 42 = .ok (.dup, 1) := by decide +kernel
theorem dX3_emit_43 : decode cX3_emit 43 = .ok (.getfield 30, 3) := by decide +kernel
theorem dX3_emit_46 : decode cX3_emit 46 = .ok (.iconst 2, 1) := by decide +kernel
theorem dX3_emit_47 : decode cX3_emit 47 = .ok (.iadd, 1) := by decide +kernel
theorem dX3_emit_48 : decode cX3_emit 48 = .ok (.putfield 30, 3) := by decide +kernel
theorem dX3_emit_51 : decode cX3_emit 51 = .ok (.iload_n 3, 1) := by decide +kernel
theorem dX3_emit_52 : decode cX3_emit 52 = .ok (.ireturn, 1) := by decide +kernel
theorem dX3_isNumber_0 : decode cX3_isNumber 0 = .ok (.aload_n 0, 1) := by decide +kernel
theorem dX3_isNumber_1 : decode cX3_isNumber 1 = .ok (.getfield 52, 3) := by decide +kernel
theorem dX3_isNumber_4 : decode cX3_isNumber 4 = .ok (.iconst 2, 1) := by decide +kernel
theorem dX3_isNumber_5 : decode cX3_isNumber 5 = .ok (.if_icmp .ne 23, 3) := by decide +kernel
theorem dX3_isNumber_8 : decode cX3_isNumber 8 = .ok (.aload_n 0, 1) := by decide +kernel
theorem dX3_isNumber_9 : decode cX3_isNumber 9 = .ok (.getfield 104, 3) := by decide +kernel
theorem dX3_isNumber_12 : decode cX3_isNumber 12 = .ok (.iload_n 1, 1) := by decide +kernel
theorem dX3_isNumber_13 : decode cX3_isNumber 13 = .ok (.if_icmp .lt 15, 3) := by decide +kernel
theorem dX3_isNumber_16 : decode cX3_isNumber 16 = .ok (.aload_n 0, 1) := by decide +kernel
theorem dX3_isNumber_17 : decode cX3_isNumber 17 = .ok (.getfield 104, 3) := by decide +kernel
theorem dX3_isNumber_20 : decode cX3_isNumber 20 = .ok (.iload_n 2, 1) := by decide +kernel
theorem dX3_isNumber_21 : decode cX3_isNumber 21 = .ok (.if_icmp .gt 7, 3) := by decide +kernel
theorem dX3_isNumber_24 : decode cX3_isNumber 24 = .ok (.iconst 1, 1) := by decide +kernel
theorem dX3_isNumber_25 : decode cX3_isNumber 25 = .ok (.goto 4, 3) := by decide +kernel
theorem dX3_isNumber_28 : decode cX3_isNumber 28 = .ok (.iconst 0, 1) := by decide +kernel
theorem dX3_isNumber_29 : decode cX3_isNumber 29 = .ok (.ireturn, 1) := by decide +kernel
theorem dX3_numberedWord_0 : decode cX3_numberedWord 0 = .ok (.aload_n 0, 1) := by decide +kernel
theorem dX3_numberedWord_1 : decode cX3_numberedWord 1 = .ok (.iconst 0, 1) := by decide +kernel
theorem dX3_numberedWord_2 : decode cX3_numberedWord 2 = .ok (.iload_n 1, 1) := by decide +kernel
theorem dX3_numberedWord_3 : decode cX3_numberedWord 3 = .ok (.ifCond .eq 7, 3) := by decide +kernel
theorem dX3_numberedWord_6 : decode cX3_numberedWord 6 = .ok (.iconst 3, 1) := by decide +kernel
theorem dX3_numberedWord_7 : decode cX3_numberedWord 7 = .ok (.goto 5, 3) := by decide +kernel
theorem dX3_numberedWord_10 : decode cX3_numberedWord 10 = .ok (.bipush 9, 2) := by decide +kernel
theorem dX3_numberedWord_12 : decode cX3_numberedWord 12 = .ok (.invokevirtual 100, 3) := by decide +kernel
theorem dX3_numberedWord_15 : decode cX3_numberedWord 15 = .ok (.ifCond .ne 8, 3) := by decide +kernel
theorem dX3_numberedWord_18 : decode cX3_numberedWord 18 = .ok (.aload_n 0, 1) := by decide +kernel
theorem dX3_numberedWord_19 : decode cX3_numberedWord 19 = .ok (.invokevirtual 66, 3) := by decide +kernel
theorem dX3_numberedWord_22 : decode cX3_numberedWord 22 = .ok (.ireturn, 1) := by decide +kernel
theorem dX3_numberedWord_23 : decode cX3_numberedWord 23 = .ok (.aload_n 0, 1) := by decide +kernel
theorem dX3_numberedWord_24 : decode cX3_numberedWord 24 = .ok (.iconst 1, 1) := by decide +kernel
theorem dX3_numberedWord_25 : decode cX3_numberedWord 25 = .ok (.iload_n 1, 1) := by decide +kernel
theorem dX3_numberedWord_26 : decode cX3_numberedWord 26 = .ok (.ifCond .eq 7, 3) := by decide +kernel
theorem dX3_numberedWord_29 : decode cX3_numberedWord 29 = .ok (.iconst 5, 1) := by decide +kernel
theorem dX3_numberedWord_30 : decode cX3_numberedWord 30 = .ok (.goto 5, 3) := by decide +kernel
theorem dX3_numberedWord_33 : decode cX3_numberedWord 33 = .ok (.bipush 9, 2) := by decide +kernel
theorem dX3_numberedWord_35 : decode cX3_numberedWord 35 = .ok (.aload_n 0, 1) := by decide +kernel
theorem dX3_numberedWord_36 : decode cX3_numberedWord 36 = .ok (.getfield 104, 3) := by decide +kernel
theorem dX3_numberedWord_39 : decode cX3_numberedWord 39 = .ok (.iadd, 1) := by decide +kernel
theorem dX3_numberedWord_40 : decode cX3_numberedWord 40 = .ok (.invokevirtual 128, 3) := by decide +kernel
theorem dX3_numberedWord_43 : decode cX3_numberedWord 43 = .ok (.pop, 1) := by decide +kernel
theorem dX3_numberedWord_44 : decode cX3_numberedWord 44 = .ok (.aload_n 0, 1) := by decide +kernel
theorem dX3_numberedWord_45 : decode cX3_numberedWord 45 = .ok (.invokevirtual 42, 3) := by decide +kernel
theorem dX3_numberedWord_48 : decode cX3_numberedWord 48 = .ok (.iconst 1, 1) := by decide +kernel
theorem dX3_numberedWord_49 : decode cX3_numberedWord 49 = .ok (.ireturn, 1) := by decide +kernel
theorem dX3_opens_0 : decode cX3_opens 0 = .ok (.aload_n 0, 1) := by decide +kernel
theorem dX3_opens_1 : decode cX3_opens 1 = .ok (.getfield 39, 3) := by decide +kernel
theorem dX3_opens_4 : decode cX3_opens 4 = .ok (.bipush 8, 2) := by decide +kernel
theorem dX3_opens_6 : decode cX3_opens 6 = .ok (.if_icmp .lt 8, 3) := by decide +kernel
theorem dX3_opens_9 : decode cX3_opens 9 = .ok (.aload_n 0, 1) := by decide +kernel
theorem dX3_opens_10 : decode cX3_opens 10 = .ok (.invokevirtual 66, 3) := by decide +kernel
theorem dX3_opens_13 : decode cX3_opens 13 = .ok (.ireturn, 1) := by decide +kernel
theorem dX3_opens_14 : decode cX3_opens 14 = .ok (.aload_n 0, 1) := by decide +kernel
theorem dX3_opens_15 : decode cX3_opens 15 = .ok (.dup, 1) := by decide +kernel
theorem dX3_opens_16 : decode cX3_opens 16 = .ok (.getfield 39, 3) := by decide +kernel
theorem dX3_opens_19 : decode cX3_opens 19 = .ok (.iconst 1, 1) := by decide +kernel
theorem dX3_opens_20 : decode cX3_opens 20 = .ok (.iadd, 1) := by decide +kernel
theorem dX3_opens_21 : decode cX3_opens 21 = .ok (.putfield 39, 3) := by decide +kernel
theorem dX3_opens_24 : decode cX3_opens 24 = .ok (.aload_n 0, 1) := by decide +kernel
theorem dX3_opens_25 : decode cX3_opens 25 = .ok (.invokevirtual 42, 3) := by decide +kernel
theorem dX3_opens_28 : decode cX3_opens 28 = .ok (.iconst 1, 1) := by decide +kernel
theorem dX3_opens_29 : decode cX3_opens 29 = .ok (.ireturn, 1) := by decide +kernel
theorem dX3_part_0 : decode cX3_part 0 = .ok (.aload_n 0, 1) := by decide +kernel
theorem dX3_part_1 : decode cX3_part 1 = .ok (.bipush 91, 2) := by decide +kernel
theorem dX3_part_3 : decode cX3_part 3 = .ok (.invokevirtual 62, 3) := by decide +kernel
theorem dX3_part_6 : decode cX3_part 6 = .ok (.ifCond .eq 32, 3) := by decide +kernel
theorem dX3_part_9 : decode cX3_part 9 = .ok (.aload_n 0, 1) := by decide +kernel
theorem dX3_part_10 : decode cX3_part 10 = .ok (.invokevirtual 143, 3) := by decide +kernel
theorem dX3_part_13 : decode cX3_part 13 = .ok (.ifCond .eq 23, 3) := by decide +kernel
theorem dX3_part_16 : decode cX3_part 16 = .ok (.aload_n 0, 1) := by decide +kernel
theorem dX3_part_17 : decode cX3_part 17 = .ok (.invokevirtual 83, 3) := by decide +kernel
theorem dX3_part_20 : decode cX3_part 20 = .ok (.ifCond .eq 16, 3) := by decide +kernel
theorem dX3_part_23 : decode cX3_part 23 = .ok (.aload_n 0, 1) := by decide +kernel
theorem dX3_part_24 : decode cX3_part 24 = .ok (.bipush 93, 2) := by decide +kernel
theorem dX3_part_26 : decode cX3_part 26 = .ok (.invokevirtual 146, 3) := by decide +kernel
theorem dX3_part_29 : decode cX3_part 29 = .ok (.ifCond .eq 7, 3) := by decide +kernel
theorem dX3_part_32 : decode cX3_part 32 = .ok (.iconst 1, 1) := by decide +kernel
theorem dX3_part_33 : decode cX3_part 33 = .ok (.goto 4, 3) := by decide +kernel
theorem dX3_part_36 : decode cX3_part 36 = .ok (.iconst 0, 1) := by decide +kernel
theorem dX3_part_37 : decode cX3_part 37 = .ok (.ireturn, 1) := by decide +kernel
theorem dX3_part_38 : decode cX3_part 38 = .ok (.aload_n 0, 1) := by decide +kernel
theorem dX3_part_39 : decode cX3_part 39 = .ok (.getfield 36, 3) := by decide +kernel
theorem dX3_part_42 : decode cX3_part 42 = .ok (.bipush 50, 2) := by decide +kernel
theorem dX3_part_44 : decode cX3_part 44 = .ok (.if_icmp .lt 8, 3) := by decide +kernel
theorem dX3_part_47 : decode cX3_part 47 = .ok (.aload_n 0, 1) := by decide +kernel
theorem dX3_part_48 : decode cX3_part 48 = .ok (.invokevirtual 66, 3) := by decide +kernel
theorem dX3_part_51 : decode cX3_part 51 = .ok (.ireturn, 1) := by decide +kernel
theorem dX3_part_52 : decode cX3_part 52 = .ok (.aload_n 0, 1) := by decide +kernel
theorem dX3_part_53 : decode cX3_part 53 = .ok (.dup, 1) := by decide +kernel
theorem dX3_part_54 : decode cX3_part 54 = .ok (.getfield 36, 3) := by decide +kernel
theorem dX3_part_57 : decode cX3_part 57 = .ok (.iconst 1, 1) := by decide +kernel
theorem dX3_part_58 : decode cX3_part 58 = .ok (.iadd, 1) := by decide +kernel
theorem dX3_part_59 : decode cX3_part 59 = .ok (.putfield 36, 3) := by decide +kernel
theorem dX3_part_62 : decode cX3_part 62 = .ok (.aload_n 0, 1) := by decide +kernel
theorem dX3_part_63 : decode cX3_part 63 = .ok (.getfield 52, 3) := by decide +kernel
theorem dX3_part_66 : decode cX3_part 66 = .ok (.iconst 2, 1) := by decide +kernel
theorem dX3_part_67 : decode cX3_part 67 = .ok (.if_icmp .ne 35, 3) := by decide +kernel
theorem dX3_part_70 : decode cX3_part 70 = .ok (.aload_n 0, 1) := by decide +kernel
theorem dX3_part_71 : decode cX3_part 71 = .ok (.iconst 0, 1) := by decide +kernel
theorem dX3_part_72 : decode cX3_part 72 = .ok (.sipush 1000, 3) := by decide +kernel
theorem dX3_part_75 : decode cX3_part 75 = .ok (.invokevirtual 100, 3) := by decide +kernel
theorem dX3_part_78 : decode cX3_part 78 = .ok (.ifCond .ne 8, 3) := by decide +kernel
theorem dX3_part_81 : decode cX3_part 81 = .ok (.aload_n 0, 1) := by decide +kernel
theorem dX3_part_82 : decode cX3_part 82 = .ok (.invokevirtual 66, 3) := by decide +kernel
theorem dX3_part_85 : decode cX3_part 85 = .ok (.ireturn, 1) := by decide +kernel
theorem dX3_part_86 : decode cX3_part 86 = .ok (.aload_n 0, 1) := by decide +kernel
theorem dX3_part_87 : decode cX3_part 87 = .ok (.iconst 0, 1) := by decide +kernel
theorem dX3_part_88 : decode cX3_part 88 = .ok (.aload_n 0, 1) := by decide +kernel
theorem dX3_part_89 : decode cX3_part 89 = .ok (.getfield 104, 3) := by decide +kernel
theorem dX3_part_92 : decode cX3_part 92 = .ok (.invokevirtual 128, 3) := by decide +kernel
theorem dX3_part_95 : decode cX3_part 95 = .ok (.pop, 1) := by decide +kernel
theorem dX3_part_96 : decode cX3_part 96 = .ok (.aload_n 0, 1) := by decide +kernel
theorem dX3_part_97 : decode cX3_part 97 = .ok (.invokevirtual 42, 3) := by decide +kernel
theorem dX3_part_100 : decode cX3_part 100 = .ok (.iconst 1, 1) := by decide +kernel
theorem dX3_part_101 : decode cX3_part 101 = .ok (.ireturn, 1) := by decide +kernel
theorem dX3_part_102 : decode cX3_part 102 = .ok (.aload_n 0, 1) := by decide +kernel
theorem dX3_part_103 : decode cX3_part 103 = .ok (.aload_n 0, 1) := by decide +kernel
theorem dX3_part_104 : decode cX3_part 104 = .ok (.getfield 26, 3) := by decide +kernel
theorem dX3_part_107 : decode cX3_part 107 = .ok (.ifCond .eq 8, 3) := by decide +kernel
theorem dX3_part_110 : decode cX3_part 110 = .ok (.ldc 155, 2) := by decide +kernel
theorem dX3_part_112 : decode cX3_part 112 = .ok (.goto 5, 3) := by decide +kernel
theorem dX3_part_115 : decode cX3_part 115 = .ok (.ldc 157, 2) := by decide +kernel
theorem dX3_part_117 : decode cX3_part 117 = .ok (.invokevirtual 74, 3) := by decide +kernel
theorem dX3_part_120 : decode cX3_part 120 = .ok (.istore_n 1, 1) := by decide +kernel
theorem dX3_part_121 : decode cX3_part 121 = .ok (.iload_n 1, 1) := by decide +kernel
theorem dX3_part_122 : decode cX3_part 122 = .ok (.iconst (-1), 1) := by decide +kernel
theorem dX3_part_123 : decode cX3_part 123 = .ok (.if_icmp .ne 8, 3) := by decide +kernel
theorem dX3_part_126 : decode cX3_part 126 = .ok (.aload_n 0, 1) := by decide +kernel
theorem dX3_part_127 : decode cX3_part 127 = .ok (.invokevirtual 66, 3) := by decide +kernel
theorem dX3_part_130 : decode cX3_part 130 = .ok (.ireturn, 1) := by decide +kernel
theorem dX3_part_131 : decode cX3_part 131 = .ok (.aload_n 0, 1) := by decide +kernel
theorem dX3_part_132 : decode cX3_part 132 = .ok (.invokevirtual 42, 3) := by decide +kernel
theorem dX3_part_135 : decode cX3_part 135 = .ok (.aload_n 0, 1) := by decide +kernel
theorem dX3_part_136 : decode cX3_part 136 = .ok (.getfield 26, 3) := by decide +kernel
theorem dX3_part_139 : decode cX3_part 139 = .ok (.ifCond .ne 23, 3) := by decide +kernel
theorem dX3_part_142 : decode cX3_part 142 = .ok (.iload_n 1, 1) := by decide +kernel
theorem dX3_part_143 : decode cX3_part 143 = .ok (.iconst 5, 1) := by decide +kernel
theorem dX3_part_144 : decode cX3_part 144 = .ok (.if_icmp .lt 18, 3) := by decide +kernel
theorem dX3_part_147 : decode cX3_part 147 = .ok (.aload_n 0, 1) := by decide +kernel
theorem dX3_part_148 : decode cX3_part 148 = .ok (.iload_n 1, 1) := by decide +kernel
theorem dX3_part_149 : decode cX3_part 149 = .ok (.iconst 5, 1) := by decide +kernel
theorem dX3_part_150 : decode cX3_part 150 = .ok (.if_icmp .ne 7, 3) := by decide +kernel
theorem dX3_part_153 : decode cX3_part 153 = .ok (.iconst 1, 1) := by decide +kernel
theorem dX3_part_154 : decode cX3_part 154 = .ok (.goto 4, 3) := by decide +kernel
theorem dX3_part_157 : decode cX3_part 157 = .ok (.iconst 0, 1) := by decide +kernel
theorem dX3_part_158 : decode cX3_part 158 = .ok (.invokevirtual 159, 3) := by decide +kernel
theorem dX3_part_161 : decode cX3_part 161 = .ok (.ireturn, 1) := by decide +kernel
theorem dX3_part_162 : decode cX3_part 162 = .ok (.aload_n 0, 1) := by decide +kernel
theorem dX3_part_163 : decode cX3_part 163 = .ok (.iconst 1, 1) := by decide +kernel
theorem dX3_part_164 : decode cX3_part 164 = .ok (.iload_n 1, 1) := by decide +kernel
theorem dX3_part_165 : decode cX3_part 165 = .ok (.invokevirtual 128, 3) := by decide +kernel
theorem dX3_part_168 : decode cX3_part 168 = .ok (.pop, 1) := by decide +kernel
theorem dX3_part_169 : decode cX3_part 169 = .ok (.iconst 1, 1) := by decide +kernel
theorem dX3_part_170 : decode cX3_part 170 = .ok (.ireturn, 1) := by decide +kernel
theorem dX3_term_0 : decode cX3_term 0 = .ok (.aload_n 0, 1) := by decide +kernel
theorem dX3_term_1 : decode cX3_term 1 = .ok (.invokevirtual 152, 3) := by decide +kernel
theorem dX3_term_4 : decode cX3_term 4 = .ok (.ifCond .ne 5, 3) := by decide +kernel
theorem dX3_term_7 : decode cX3_term 7 = .ok (.iconst 0, 1) := by decide +kernel
theorem dX3_term_8 : decode cX3_term 8 = .ok (.ireturn, 1) := by decide +kernel
theorem dX3_term_9 : decode cX3_term 9 = .ok (.iconst 0, 1) := by decide +kernel
theorem dX3_term_10 : decode cX3_term 10 = .ok (.istore_n 1, 1) := by decide +kernel
theorem dX3_term_11 : decode cX3_term 11 = .ok (.iload_n 1, 1) := by decide +kernel
theorem dX3_term_12 : decode cX3_term 12 = .ok (.sipush 400, 3) := by decide +kernel
theorem dX3_term_15 : decode cX3_term 15 = .ok (.if_icmp .ge 85, 3) := by decide +kernel
theorem dX3_term_18 : decode cX3_term 18 = .ok (.aload_n 0, 1) := by decide +kernel
theorem dX3_term_19 : decode cX3_term 19 = .ok (.bipush 42, 2) := by decide +kernel
theorem dX3_term_21 : decode cX3_term 21 = .ok (.invokevirtual 62, 3) := by decide +kernel
theorem dX3_term_24 : decode cX3_term 24 = .ok (.ifCond .ne 21, 3) := by decide +kernel
theorem dX3_term_27 : decode cX3_term 27 = .ok (.aload_n 0, 1) := by decide +kernel
theorem dX3_term_28 : decode cX3_term 28 = .ok (.bipush 47, 2) := by decide +kernel
theorem dX3_term_30 : decode cX3_term 30 = .ok (.invokevirtual 62, 3) := by decide +kernel
theorem dX3_term_33 : decode cX3_term 33 = .ok (.ifCond .ne 12, 3) := by decide +kernel
theorem dX3_term_36 : decode cX3_term 36 = .ok (.aload_n 0, 1) := by decide +kernel
theorem dX3_term_37 : decode cX3_term 37 = .ok (.bipush 37, 2) := by decide +kernel
theorem dX3_term_39 : decode cX3_term 39 = .ok (.invokevirtual 62, 3) := by decide +kernel
theorem dX3_term_42 : decode cX3_term 42 = .ok (.ifCond .eq 58, 3) := by decide +kernel
theorem dX3_term_45 : decode cX3_term 45 = .ok (.aload_n 0, 1) := by decide +kernel
theorem dX3_term_46 : decode cX3_term 46 = .ok (.bipush 42, 2) := by decide +kernel
theorem dX3_term_48 : decode cX3_term 48 = .ok (.invokevirtual 62, 3) := by decide +kernel
theorem dX3_term_51 : decode cX3_term 51 = .ok (.ifCond .eq 7, 3) := by decide +kernel
theorem dX3_term_54 : decode cX3_term 54 = .ok (.iconst 4, 1) := by decide +kernel
theorem dX3_term_55 : decode cX3_term 55 = .ok (.goto 18, 3) := by decide +kernel
theorem dX3_term_58 : decode cX3_term 58 = .ok (.aload_n 0, 1) := by decide +kernel
theorem dX3_term_59 : decode cX3_term 59 = .ok (.bipush 47, 2) := by decide +kernel
theorem dX3_term_61 : decode cX3_term 61 = .ok (.invokevirtual 62, 3) := by decide +kernel
theorem dX3_term_64 : decode cX3_term 64 = .ok (.ifCond .eq 7, 3) := by decide +kernel
theorem dX3_term_67 : decode cX3_term 67 = .ok (.iconst 5, 1) := by decide +kernel
theorem dX3_term_68 : decode cX3_term 68 = .ok (.goto 5, 3) := by decide +kernel
theorem dX3_term_71 : decode cX3_term 71 = .ok (.bipush 6, 2) := by decide +kernel
theorem dX3_term_73 : decode cX3_term 73 = .ok (.istore_n 2, 1) := by decide +kernel
theorem dX3_term_74 : decode cX3_term 74 = .ok (.aload_n 0, 1) := by decide +kernel
theorem dX3_term_75 : decode cX3_term 75 = .ok (.invokevirtual 42, 3) := by decide +kernel
theorem dX3_term_78 : decode cX3_term 78 = .ok (.aload_n 0, 1) := by decide +kernel
theorem dX3_term_79 : decode cX3_term 79 = .ok (.invokevirtual 152, 3) := by decide +kernel
theorem dX3_term_82 : decode cX3_term 82 = .ok (.ifCond .ne 5, 3) := by decide +kernel
theorem dX3_term_85 : decode cX3_term 85 = .ok (.iconst 0, 1) := by decide +kernel
theorem dX3_term_86 : decode cX3_term 86 = .ok (.ireturn, 1) := by decide +kernel
theorem dX3_term_87 : decode cX3_term 87 = .ok (.aload_n 0, 1) := by decide +kernel
theorem dX3_term_88 : decode cX3_term 88 = .ok (.iload_n 2, 1) := by decide +kernel
theorem dX3_term_89 : decode cX3_term 89 = .ok (.iconst 0, 1) := by decide +kernel
theorem dX3_term_90 : decode cX3_term 90 = .ok (.invokevirtual 128, 3) := by decide +kernel
theorem dX3_term_93 : decode cX3_term 93 = .ok (.pop, 1) := by decide +kernel
theorem dX3_term_94 : decode cX3_term 94 = .ok (.iinc 1 1, 3) := by decide +kernel
theorem dX3_term_97 : decode cX3_term 97 = .ok (.goto (-86), 3) := by decide +kernel
theorem dX3_term_100 : decode cX3_term 100 = .ok (.iconst 1, 1) := by decide +kernel
theorem dX3_term_101 : decode cX3_term 101 = .ok (.ireturn, 1) := by decide +kernel
theorem dX3_sum_0 : decode cX3_sum 0 = .ok (.aload_n 0, 1) := by decide +kernel
theorem dX3_sum_1 : decode cX3_sum 1 = .ok (.invokevirtual 149, 3) := by decide +kernel
theorem dX3_sum_4 : decode cX3_sum 4 = .ok (.ifCond .ne 5, 3) := by decide +kernel
theorem dX3_sum_7 : decode cX3_sum 7 = .ok (.iconst 0, 1) := by decide +kernel
theorem dX3_sum_8 : decode cX3_sum 8 = .ok (.ireturn, 1) := by decide +kernel
theorem dX3_sum_9 : decode cX3_sum 9 = .ok (.iconst 0, 1) := by decide +kernel
theorem dX3_sum_10 : decode cX3_sum 10 = .ok (.istore_n 1, 1) := by decide +kernel
theorem dX3_sum_11 : decode cX3_sum 11 = .ok (.iload_n 1, 1) := by decide +kernel
theorem dX3_sum_12 : decode cX3_sum 12 = .ok (.sipush 400, 3) := by decide +kernel
theorem dX3_sum_15 : decode cX3_sum 15 = .ok (.if_icmp .ge 62, 3) := by decide +kernel
theorem dX3_sum_18 : decode cX3_sum 18 = .ok (.aload_n 0, 1) := by decide +kernel
theorem dX3_sum_19 : decode cX3_sum 19 = .ok (.bipush 43, 2) := by decide +kernel
theorem dX3_sum_21 : decode cX3_sum 21 = .ok (.invokevirtual 62, 3) := by decide +kernel
theorem dX3_sum_24 : decode cX3_sum 24 = .ok (.ifCond .ne 12, 3) := by decide +kernel
theorem dX3_sum_27 : decode cX3_sum 27 = .ok (.aload_n 0, 1) := by decide +kernel
theorem dX3_sum_28 : decode cX3_sum 28 = .ok (.bipush 45, 2) := by decide +kernel
theorem dX3_sum_30 : decode cX3_sum 30 = .ok (.invokevirtual 62, 3) := by decide +kernel
theorem dX3_sum_33 : decode cX3_sum 33 = .ok (.ifCond .eq 44, 3) := by decide +kernel
theorem dX3_sum_36 : decode cX3_sum 36 = .ok (.aload_n 0, 1) := by decide +kernel
theorem dX3_sum_37 : decode cX3_sum 37 = .ok (.bipush 43, 2) := by decide +kernel
theorem dX3_sum_39 : decode cX3_sum 39 = .ok (.invokevirtual 62, 3) := by decide +kernel
theorem dX3_sum_42 : decode cX3_sum 42 = .ok (.ifCond .eq 7, 3) := by decide +kernel
theorem dX3_sum_45 : decode cX3_sum 45 = .ok (.iconst 2, 1) := by decide +kernel
theorem dX3_sum_46 : decode cX3_sum 46 = .ok (.goto 4, 3) := by decide +kernel
theorem dX3_sum_49 : decode cX3_sum 49 = .ok (.iconst 3, 1) := by decide +kernel
theorem dX3_sum_50 : decode cX3_sum 50 = .ok (.istore_n 2, 1) := by decide +kernel
theorem dX3_sum_51 : decode cX3_sum 51 = .ok (.aload_n 0, 1) := by decide +kernel
theorem dX3_sum_52 : decode cX3_sum 52 = .ok (.invokevirtual 42, 3) := by decide +kernel
theorem dX3_sum_55 : decode cX3_sum 55 = .ok (.aload_n 0, 1) := by decide +kernel
theorem dX3_sum_56 : decode cX3_sum 56 = .ok (.invokevirtual 149, 3) := by decide +kernel
theorem dX3_sum_59 : decode cX3_sum 59 = .ok (.ifCond .ne 5, 3) := by decide +kernel
theorem dX3_sum_62 : decode cX3_sum 62 = .ok (.iconst 0, 1) := by decide +kernel
theorem dX3_sum_63 : decode cX3_sum 63 = .ok (.ireturn, 1) := by decide +kernel
theorem dX3_sum_64 : decode cX3_sum 64 = .ok (.aload_n 0, 1) := by decide +kernel
theorem dX3_sum_65 : decode cX3_sum 65 = .ok (.iload_n 2, 1) := by decide +kernel
theorem dX3_sum_66 : decode cX3_sum 66 = .ok (.iconst 0, 1) := by decide +kernel
theorem dX3_sum_67 : decode cX3_sum 67 = .ok (.invokevirtual 128, 3) := by decide +kernel
theorem dX3_sum_70 : decode cX3_sum 70 = .ok (.pop, 1) := by decide +kernel
theorem dX3_sum_71 : decode cX3_sum 71 = .ok (.iinc 1 1, 3) := by decide +kernel
theorem dX3_sum_74 : decode cX3_sum 74 = .ok (.goto (-63), 3) := by decide +kernel
theorem dX3_sum_77 : decode cX3_sum 77 = .ok (.iconst 1, 1) := by decide +kernel
theorem dX3_sum_78 : decode cX3_sum 78 = .ok (.ireturn, 1) := by decide +kernel
theorem dX3_isKeyword_0 : decode cX3_isKeyword 0 = .ok (.aload_n 0, 1) := by decide +kernel
theorem dX3_isKeyword_1 : decode cX3_isKeyword 1 = .ok (.aload_n 1, 1) := by decide +kernel
theorem dX3_isKeyword_2 : decode cX3_isKeyword 2 = .ok (.invokevirtual 74, 3) := by decide +kernel
theorem dX3_isKeyword_5 : decode cX3_isKeyword 5 = .ok (.iconst (-1), 1) := by decide +kernel
theorem dX3_isKeyword_6 : decode cX3_isKeyword 6 = .ok (.if_icmp .ne 5, 3) := by decide +kernel
theorem dX3_isKeyword_9 : decode cX3_isKeyword 9 = .ok (.iconst 0, 1) := by decide +kernel
theorem dX3_isKeyword_10 : decode cX3_isKeyword 10 = .ok (.ireturn, 1) := by decide +kernel
theorem dX3_isKeyword_11 : decode cX3_isKeyword 11 = .ok (.aload_n 0, 1) := by decide +kernel
theorem dX3_isKeyword_12 : decode cX3_isKeyword 12 = .ok (.invokevirtual 42, 3) := by decide +kernel
theorem dX3_isKeyword_15 : decode cX3_isKeyword 15 = .ok (.iconst 1, 1) := by decide +kernel
theorem dX3_isKeyword_16 : decode cX3_isKeyword 16 = .ok (.ireturn, 1) := by decide +kernel
theorem dX3_plain_0 : decode cX3_plain 0 = .ok (.iconst 0, 1) := by decide +kernel
theorem dX3_plain_1 : decode cX3_plain 1 = .ok (.istore_n 1, 1) := by decide +kernel
theorem dX3_plain_2 : decode cX3_plain 2 = .ok (.iconst 0, 1) := by decide +kernel
theorem dX3_plain_3 : decode cX3_plain 3 = .ok (.istore_n 2, 1) := by decide +kernel
theorem dX3_plain_4 : decode cX3_plain 4 = .ok (.iload_n 2, 1) := by decide +kernel
theorem dX3_plain_5 : decode cX3_plain 5 = .ok (.sipush 400, 3) := by decide +kernel
theorem dX3_plain_8 : decode cX3_plain 8 = .ok (.if_icmp .ge 28, 3) := by decide +kernel
theorem dX3_plain_11 : decode cX3_plain 11 = .ok (.aload_n 0, 1) := by decide +kernel
theorem dX3_plain_12 : decode cX3_plain 12 = .ok (.ldc 141, 2) := by decide +kernel
theorem dX3_plain_14 : decode cX3_plain 14 = .ok (.invokevirtual 91, 3) := by decide +kernel
theorem dX3_plain_17 : decode cX3_plain 17 = .ok (.ifCond .eq 19, 3) := by decide +kernel
theorem dX3_plain_20 : decode cX3_plain 20 = .ok (.iload_n 1, 1) := by decide +kernel
theorem dX3_plain_21 : decode cX3_plain 21 = .ok (.ifCond .ne 7, 3) := by decide +kernel
theorem dX3_plain_24 : decode cX3_plain 24 = .ok (.iconst 1, 1) := by decide +kernel
theorem dX3_plain_25 : decode cX3_plain 25 = .ok (.goto 4, 3) := by decide +kernel
theorem dX3_plain_28 : decode cX3_plain 28 = .ok (.iconst 0, 1) := by decide +kernel
theorem dX3_plain_29 : decode cX3_plain 29 = .ok (.istore_n 1, 1) := by decide +kernel
theorem dX3_plain_30 : decode cX3_plain 30 = .ok (.iinc 2 1, 3) := by decide +kernel
theorem dX3_plain_33 : decode cX3_plain 33 = .ok (.goto (-29), 3) := by decide +kernel
theorem dX3_plain_36 : decode cX3_plain 36 = .ok (.aload_n 0, 1) := by decide +kernel
theorem dX3_plain_37 : decode cX3_plain 37 = .ok (.bipush 40, 2) := by decide +kernel
theorem dX3_plain_39 : decode cX3_plain 39 = .ok (.invokevirtual 62, 3) := by decide +kernel
theorem dX3_plain_42 : decode cX3_plain 42 = .ok (.ifCond .eq 28, 3) := by decide +kernel
theorem dX3_plain_45 : decode cX3_plain 45 = .ok (.aload_n 0, 1) := by decide +kernel
theorem dX3_plain_46 : decode cX3_plain 46 = .ok (.invokevirtual 143, 3) := by decide +kernel
theorem dX3_plain_49 : decode cX3_plain 49 = .ok (.ifCond .eq 19, 3) := by decide +kernel
theorem dX3_plain_52 : decode cX3_plain 52 = .ok (.aload_n 0, 1) := by decide +kernel
theorem dX3_plain_53 : decode cX3_plain 53 = .ok (.invokevirtual 111, 3) := by decide +kernel
theorem dX3_plain_56 : decode cX3_plain 56 = .ok (.ifCond .eq 12, 3) := by decide +kernel
theorem dX3_plain_59 : decode cX3_plain 59 = .ok (.aload_n 0, 1) := by decide +kernel
theorem dX3_plain_60 : decode cX3_plain 60 = .ok (.bipush 41, 2) := by decide +kernel
theorem dX3_plain_62 : decode cX3_plain 62 = .ok (.invokevirtual 146, 3) := by decide +kernel
theorem dX3_plain_65 : decode cX3_plain 65 = .ok (.ifCond .ne 85, 3) := by decide +kernel
theorem dX3_plain_68 : decode cX3_plain 68 = .ok (.iconst 0, 1) := by decide +kernel
theorem dX3_plain_69 : decode cX3_plain 69 = .ok (.ireturn, 1) := by decide +kernel
theorem dX3_plain_70 : decode cX3_plain 70 = .ok (.aload_n 0, 1) := by decide +kernel
theorem dX3_plain_71 : decode cX3_plain 71 = .ok (.invokevirtual 83, 3) := by decide +kernel
theorem dX3_plain_74 : decode cX3_plain 74 = .ok (.ifCond .ne 5, 3) := by decide +kernel
theorem dX3_plain_77 : decode cX3_plain 77 = .ok (.iconst 0, 1) := by decide +kernel
theorem dX3_plain_78 : decode cX3_plain 78 = .ok (.ireturn, 1) := by decide +kernel
theorem dX3_plain_79 : decode cX3_plain 79 = .ok (.aload_n 0, 1) := by decide +kernel
theorem dX3_plain_80 : decode cX3_plain 80 = .ok (.bipush 60, 2) := by decide +kernel
theorem dX3_plain_82 : decode cX3_plain 82 = .ok (.invokevirtual 62, 3) := by decide +kernel
theorem dX3_plain_85 : decode cX3_plain 85 = .ok (.ifCond .eq 8, 3) := by decide +kernel
theorem dX3_plain_88 : decode cX3_plain 88 = .ok (.bipush 7, 2) := by decide +kernel
theorem dX3_plain_90 : decode cX3_plain 90 = .ok (.goto 19, 3) := by decide +kernel
theorem dX3_plain_93 : decode cX3_plain 93 = .ok (.aload_n 0, 1) := by decide +kernel
theorem dX3_plain_94 : decode cX3_plain 94 = .ok (.bipush 62, 2) := by decide +kernel
theorem dX3_plain_96 : decode cX3_plain 96 = .ok (.invokevirtual 62, 3) := by decide +kernel
theorem dX3_plain_99 : decode cX3_plain 99 = .ok (.ifCond .eq 8, 3) := by decide +kernel
theorem dX3_plain_102 : decode cX3_plain 102 = .ok (.bipush 8, 2) := by decide +kernel
theorem dX3_plain_104 : decode cX3_plain 104 = .ok (.goto 5, 3) := by decide +kernel
theorem dX3_plain_107 : decode cX3_plain 107 = .ok (.bipush 9, 2) := by decide +kernel
theorem dX3_plain_109 : decode cX3_plain 109 = .ok (.istore_n 2, 1) := by decide +kernel
theorem dX3_plain_110 : decode cX3_plain 110 = .ok (.iload_n 2, 1) := by decide +kernel
theorem dX3_plain_111 : decode cX3_plain 111 = .ok (.bipush 9, 2) := by decide +kernel
theorem dX3_plain_113 : decode cX3_plain 113 = .ok (.if_icmp .ne 17, 3) := by decide +kernel
theorem dX3_plain_116 : decode cX3_plain 116 = .ok (.aload_n 0, 1) := by decide +kernel
theorem dX3_plain_117 : decode cX3_plain 117 = .ok (.bipush 61, 2) := by decide +kernel
theorem dX3_plain_119 : decode cX3_plain 119 = .ok (.invokevirtual 62, 3) := by decide +kernel
theorem dX3_plain_122 : decode cX3_plain 122 = .ok (.ifCond .ne 8, 3) := by decide +kernel
theorem dX3_plain_125 : decode cX3_plain 125 = .ok (.aload_n 0, 1) := by decide +kernel
theorem dX3_plain_126 : decode cX3_plain 126 = .ok (.invokevirtual 66, 3) := by decide +kernel
theorem dX3_plain_129 : decode cX3_plain 129 = .ok (.ireturn, 1) := by decide +kernel
theorem dX3_plain_130 : decode cX3_plain 130 = .ok (.aload_n 0, 1) := by decide +kernel
theorem dX3_plain_131 : decode cX3_plain 131 = .ok (.invokevirtual 42, 3) := by decide +kernel
theorem dX3_plain_134 : decode cX3_plain 134 = .ok (.aload_n 0, 1) := by decide +kernel
theorem dX3_plain_135 : decode cX3_plain 135 = .ok (.invokevirtual 83, 3) := by decide +kernel
theorem dX3_plain_138 : decode cX3_plain 138 = .ok (.ifCond .ne 5, 3) := by decide +kernel
theorem dX3_plain_141 : decode cX3_plain 141 = .ok (.iconst 0, 1) := by decide +kernel
theorem dX3_plain_142 : decode cX3_plain 142 = .ok (.ireturn, 1) := by decide +kernel
theorem dX3_plain_143 : decode cX3_plain 143 = .ok (.aload_n 0, 1) := by decide +kernel
theorem dX3_plain_144 : decode cX3_plain 144 = .ok (.iload_n 2, 1) := by decide +kernel
theorem dX3_plain_145 : decode cX3_plain 145 = .ok (.iconst 0, 1) := by decide +kernel
theorem dX3_plain_146 : decode cX3_plain 146 = .ok (.invokevirtual 128, 3) := by decide +kernel
theorem dX3_plain_149 : decode cX3_plain 149 = .ok (.pop, 1) := by decide +kernel
theorem dX3_plain_150 : decode cX3_plain 150 = .ok (.iload_n 1, 1) := by decide +kernel
theorem dX3_plain_151 : decode cX3_plain 151 = .ok (.ifCond .eq 11, 3) := by decide +kernel
theorem dX3_plain_154 : decode cX3_plain 154 = .ok (.aload_n 0, 1) := by decide +kernel
theorem dX3_plain_155 : decode cX3_plain 155 = .ok (.bipush 10, 2) := by decide +kernel
theorem dX3_plain_157 : decode cX3_plain 157 = .ok (.iconst 0, 1) := by decide +kernel
theorem dX3_plain_158 : decode cX3_plain 158 = .ok (.invokevirtual 128, 3) := by decide +kernel
theorem dX3_plain_161 : decode cX3_plain 161 = .ok (.pop, 1) := by decide +kernel
theorem dX3_plain_162 : decode cX3_plain 162 = .ok (.iconst 1, 1) := by decide +kernel
theorem dX3_plain_163 : decode cX3_plain 163 = .ok (.ireturn, 1) := by decide +kernel
theorem dX3_land_0 : decode cX3_land 0 = .ok (.iload_n 1, 1) := by decide +kernel
theorem dX3_land_1 : decode cX3_land 1 = .ok (.ifCond .lt 25, 3) := by decide +kernel
theorem dX3_land_4 : decode cX3_land 4 = .ok (.iload_n 1, 1) := by decide +kernel
theorem dX3_land_5 : decode cX3_land 5 = .ok (.iconst 1, 1) := by decide +kernel
theorem dX3_land_6 : decode cX3_land 6 = .ok (.iadd, 1) := by decide +kernel
theorem dX3_land_7 : decode cX3_land 7 = .ok (.aload_n 0, 1) := by decide +kernel
theorem dX3_land_8 : decode cX3_land 8 = .ok (.getfield 30, 3) := by decide +kernel
theorem dX3_land_11 : decode cX3_land 11 = .ok (.if_icmp .ge 15, 3) := by decide +kernel
theorem dX3_land_14 : decode cX3_land 14 = .ok (.aload_n 0, 1) := by decide +kernel
theorem dX3_land_15 : decode cX3_land 15 = .ok (.getfield 18, 3) := by decide +kernel
theorem dX3_land_18 : decode cX3_land 18 = .ok (.iload_n 1, 1) := by decide +kernel
theorem dX3_land_19 : decode cX3_land 19 = .ok (.iconst 1, 1) := by decide +kernel
theorem dX3_land_20 : decode cX3_land 20 = .ok (.iadd, 1) := by decide +kernel
theorem dX3_land_21 : decode cX3_land 21 = .ok (.aload_n 0, 1) := by decide +kernel
theorem dX3_land_22 : decode cX3_land 22 = .ok (.getfield 30, 3) := by decide +kernel
theorem dX3_land_25 : decode cX3_land 25 = .ok (.iastore, 1) := by decide +kernel
theorem dX3_land_26 : decode cX3_land 26 = .ok (.return_, 1) := by decide +kernel
theorem dX3_both_0 : decode cX3_both 0 = .ok (.aload_n 0, 1) := by decide +kernel
theorem dX3_both_1 : decode cX3_both 1 = .ok (.invokevirtual 136, 3) := by decide +kernel
theorem dX3_both_4 : decode cX3_both 4 = .ok (.ifCond .ne 5, 3) := by decide +kernel
theorem dX3_both_7 : decode cX3_both 7 = .ok (.iconst 0, 1) := by decide +kernel
theorem dX3_both_8 : decode cX3_both 8 = .ok (.ireturn, 1) := by decide +kernel
theorem dX3_both_9 : decode cX3_both 9 = .ok (.iconst 0, 1) := by decide +kernel
theorem dX3_both_10 : decode cX3_both 10 = .ok (.istore_n 1, 1) := by decide +kernel
theorem dX3_both_11 : decode cX3_both 11 = .ok (.iload_n 1, 1) := by decide +kernel
theorem dX3_both_12 : decode cX3_both 12 = .ok (.sipush 400, 3) := by decide +kernel
theorem dX3_both_15 : decode cX3_both 15 = .ok (.if_icmp .ge 40, 3) := by decide +kernel
theorem dX3_both_18 : decode cX3_both 18 = .ok (.aload_n 0, 1) := by decide +kernel
theorem dX3_both_19 : decode cX3_both 19 = .ok (.ldc 139, 2) := by decide +kernel
theorem dX3_both_21 : decode cX3_both 21 = .ok (.invokevirtual 91, 3) := by decide +kernel
theorem dX3_both_24 : decode cX3_both 24 = .ok (.ifCond .eq 31, 3) := by decide +kernel
theorem dX3_both_27 : decode cX3_both 27 = .ok (.aload_n 0, 1) := by decide +kernel
theorem dX3_both_28 : decode cX3_both 28 = .ok (.bipush 11, 2) := by decide +kernel
theorem dX3_both_30 : decode cX3_both 30 = .ok (.iconst 0, 1) := by decide +kernel
theorem dX3_both_31 : decode cX3_both 31 = .ok (.invokevirtual 128, 3) := by decide +kernel
theorem dX3_both_34 : decode cX3_both 34 = .ok (.istore_n 2, 1) := by decide +kernel
theorem dX3_both_35 : decode cX3_both 35 = .ok (.aload_n 0, 1) := by decide +kernel
theorem dX3_both_36 : decode cX3_both 36 = .ok (.invokevirtual 136, 3) := by decide +kernel
theorem dX3_both_39 : decode cX3_both 39 = .ok (.ifCond .ne 5, 3) := by decide +kernel
theorem dX3_both_42 : decode cX3_both 42 = .ok (.iconst 0, 1) := by decide +kernel
theorem dX3_both_43 : decode cX3_both 43 = .ok (.ireturn, 1) := by decide +kernel
theorem dX3_both_44 : decode cX3_both 44 = .ok (.aload_n 0, 1) := by decide +kernel
theorem dX3_both_45 : decode cX3_both 45 = .ok (.iload_n 2, 1) := by decide +kernel
theorem dX3_both_46 : decode cX3_both 46 = .ok (.invokevirtual 132, 3) := by decide +kernel
theorem dX3_both_49 : decode cX3_both 49 = .ok (.iinc 1 1, 3) := by decide +kernel
theorem dX3_both_52 : decode cX3_both 52 = .ok (.goto (-41), 3) := by decide +kernel
theorem dX3_both_55 : decode cX3_both 55 = .ok (.iconst 1, 1) := by decide +kernel
theorem dX3_both_56 : decode cX3_both 56 = .ok (.ireturn, 1) := by decide +kernel
theorem dX3_test_0 : decode cX3_test 0 = .ok (.aload_n 0, 1) := by decide +kernel
theorem dX3_test_1 : decode cX3_test 1 = .ok (.invokevirtual 121, 3) := by decide +kernel
theorem dX3_test_4 : decode cX3_test 4 = .ok (.ifCond .ne 5, 3) := by decide +kernel
theorem dX3_test_7 : decode cX3_test 7 = .ok (.iconst 0, 1) := by decide +kernel
theorem dX3_test_8 : decode cX3_test 8 = .ok (.ireturn, 1) := by decide +kernel
theorem dX3_test_9 : decode cX3_test 9 = .ok (.iconst 0, 1) := by decide +kernel
theorem dX3_test_10 : decode cX3_test 10 = .ok (.istore_n 1, 1) := by decide +kernel
theorem dX3_test_11 : decode cX3_test 11 = .ok (.iload_n 1, 1) := by decide +kernel
theorem dX3_test_12 : decode cX3_test 12 = .ok (.sipush 400, 3) := by decide +kernel
theorem dX3_test_15 : decode cX3_test 15 = .ok (.if_icmp .ge 40, 3) := by decide +kernel
theorem dX3_test_18 : decode cX3_test 18 = .ok (.aload_n 0, 1) := by decide +kernel
theorem dX3_test_19 : decode cX3_test 19 = .ok (.ldc 124, 2) := by decide +kernel
theorem dX3_test_21 : decode cX3_test 21 = .ok (.invokevirtual 91, 3) := by decide +kernel
theorem dX3_test_24 : decode cX3_test 24 = .ok (.ifCond .eq 31, 3) := by decide +kernel
theorem dX3_test_27 : decode cX3_test 27 = .ok (.aload_n 0, 1) := by decide +kernel
theorem dX3_test_28 : decode cX3_test 28 = .ok (.bipush 12, 2) := by decide +kernel
theorem dX3_test_30 : decode cX3_test 30 = .ok (.iconst 0, 1) := by decide +kernel
theorem dX3_test_31 : decode cX3_test 31 = .ok (.invokevirtual 128, 3) := by decide +kernel
theorem dX3_test_34 : decode cX3_test 34 = .ok (.istore_n 2, 1) := by decide +kernel
theorem dX3_test_35 : decode cX3_test 35 = .ok (.aload_n 0, 1) := by decide +kernel
theorem dX3_test_36 : decode cX3_test 36 = .ok (.invokevirtual 121, 3) := by decide +kernel
theorem dX3_test_39 : decode cX3_test 39 = .ok (.ifCond .ne 5, 3) := by decide +kernel
theorem dX3_test_42 : decode cX3_test 42 = .ok (.iconst 0, 1) := by decide +kernel
theorem dX3_test_43 : decode cX3_test 43 = .ok (.ireturn, 1) := by decide +kernel
theorem dX3_test_44 : decode cX3_test 44 = .ok (.aload_n 0, 1) := by decide +kernel
theorem dX3_test_45 : decode cX3_test 45 = .ok (.iload_n 2, 1) := by decide +kernel
theorem dX3_test_46 : decode cX3_test 46 = .ok (.invokevirtual 132, 3) := by decide +kernel
theorem dX3_test_49 : decode cX3_test 49 = .ok (.iinc 1 1, 3) := by decide +kernel
theorem dX3_test_52 : decode cX3_test 52 = .ok (.goto (-41), 3) := by decide +kernel
theorem dX3_test_55 : decode cX3_test 55 = .ok (.iconst 1, 1) := by decide +kernel
theorem dX3_test_56 : decode cX3_test 56 = .ok (.ireturn, 1) := by decide +kernel
theorem dX4_combine_0 : decode cX4_combine 0 = .ok (.iload_n 0, 1) := by decide +kernel
theorem dX4_combine_1 : decode cX4_combine 1 = .ok (.tableswitch 107 2 9 #[47, 55, 63, 107, 107, 71, 83, 95], 47) := by decide +kernel
theorem dX4_combine_48 : decode cX4_combine 48 = .ok (.lload_n 1, 1) := by decide +kernel
theorem dX4_combine_49 : decode cX4_combine 49 = .ok (.lload_n 3, 1) := by decide +kernel
theorem dX4_combine_50 : decode cX4_combine 50 = .ok (.ladd, 1) := by decide +kernel
theorem dX4_combine_51 : decode cX4_combine 51 = .ok (.lstore 5, 2) := by decide +kernel
theorem dX4_combine_53 : decode cX4_combine 53 = .ok (.goto 80, 3) := by decide +kernel
theorem dX4_combine_56 : decode cX4_combine 56 = .ok (.lload_n 1, 1) := by decide +kernel
theorem dX4_combine_57 : decode cX4_combine 57 = .ok (.lload_n 3, 1) := by decide +kernel
theorem dX4_combine_58 : decode cX4_combine 58 = .ok (.lsub, 1) := by decide +kernel
theorem dX4_combine_59 : decode cX4_combine 59 = .ok (.lstore 5, 2) := by decide +kernel
theorem dX4_combine_61 : decode cX4_combine 61 = .ok (.goto 72, 3) := by decide +kernel
theorem dX4_combine_64 : decode cX4_combine 64 = .ok (.lload_n 1, 1) := by decide +kernel
theorem dX4_combine_65 : decode cX4_combine 65 = .ok (.lload_n 3, 1) := by decide +kernel
theorem dX4_combine_66 : decode cX4_combine 66 = .ok (.lmul, 1) := by decide +kernel
theorem dX4_combine_67 : decode cX4_combine 67 = .ok (.lstore 5, 2) := by decide +kernel
theorem dX4_combine_69 : decode cX4_combine 69 = .ok (.goto 64, 3) := by decide +kernel
theorem dX4_combine_72 : decode cX4_combine 72 = .ok (.lload_n 1, 1) := by decide +kernel
theorem dX4_combine_73 : decode cX4_combine 73 = .ok (.lload_n 3, 1) := by decide +kernel
theorem dX4_combine_74 : decode cX4_combine 74 = .ok (.lcmp, 1) := by decide +kernel
theorem dX4_combine_75 : decode cX4_combine 75 = .ok (.ifCond .ge 7, 3) := by decide +kernel
theorem dX4_combine_78 : decode cX4_combine 78 = .ok (.iconst 1, 1) := by decide +kernel
theorem dX4_combine_79 : decode cX4_combine 79 = .ok (.goto 4, 3) := by decide +kernel
theorem dX4_combine_82 : decode cX4_combine 82 = .ok (.iconst 0, 1) := by decide +kernel
theorem dX4_combine_83 : decode cX4_combine 83 = .ok (.ireturn, 1) := by decide +kernel
theorem dX4_combine_84 : decode cX4_combine 84 = .ok (.lload_n 1, 1) := by decide +kernel
theorem dX4_combine_85 : decode cX4_combine 85 = .ok (.lload_n 3, 1) := by decide +kernel
theorem dX4_combine_86 : decode cX4_combine 86 = .ok (.lcmp, 1) := by decide +kernel
theorem dX4_combine_87 : decode cX4_combine 87 = .ok (.ifCond .le 7, 3) := by decide +kernel
theorem dX4_combine_90 : decode cX4_combine 90 = .ok (.iconst 1, 1) := by decide +kernel
theorem dX4_combine_91 : decode cX4_combine 91 = .ok (.goto 4, 3) := by decide +kernel
theorem dX4_combine_94 : decode cX4_combine 94 = .ok (.iconst 0, 1) := by decide +kernel
theorem dX4_combine_95 : decode cX4_combine 95 = .ok (.ireturn, 1) := by decide +kernel
theorem dX4_combine_96 : decode cX4_combine 96 = .ok (.lload_n 1, 1) := by decide +kernel
theorem dX4_combine_97 : decode cX4_combine 97 = .ok (.lload_n 3, 1) := by decide +kernel
theorem dX4_combine_98 : decode cX4_combine 98 = .ok (.lcmp, 1) := by decide +kernel
theorem dX4_combine_99 : decode cX4_combine 99 = .ok (.ifCond .ne 7, 3) := by decide +kernel
theorem dX4_combine_102 : decode cX4_combine 102 = .ok (.iconst 1, 1) := by decide +kernel
theorem dX4_combine_103 : decode cX4_combine 103 = .ok (.goto 4, 3) := by decide +kernel
theorem dX4_combine_106 : decode cX4_combine 106 = .ok (.iconst 0, 1) := by decide +kernel
theorem dX4_combine_107 : decode cX4_combine 107 = .ok (.ireturn, 1) := by decide +kernel
theorem dX4_combine_108 : decode cX4_combine 108 = .ok (.lload_n 3, 1) := by decide +kernel
theorem dX4_combine_109 : decode cX4_combine 109 = .ok (.lconst 0, 1) := by decide +kernel
theorem dX4_combine_110 : decode cX4_combine 110 = .ok (.lcmp, 1) := by decide +kernel
theorem dX4_combine_111 : decode cX4_combine 111 = .ok (.ifCond .ne 6, 3) := by decide +kernel
theorem dX4_combine_114 : decode cX4_combine 114 = .ok (.ldc 26, 2) := by decide +kernel
theorem dX4_combine_116 : decode cX4_combine 116 = .ok (.ireturn, 1) := by decide +kernel
theorem dX4_combine_117 : decode cX4_combine 117 = .ok (.iload_n 0, 1) := by decide +kernel
theorem dX4_combine_118 : decode cX4_combine 118 = .ok (.iconst 5, 1) := by decide +kernel
theorem dX4_combine_119 : decode cX4_combine 119 = .ok (.if_icmp .ne 9, 3) := by decide +kernel
theorem dX4_combine_122 : decode cX4_combine 122 = .ok (.lload_n 1, 1) := by decide +kernel
theorem dX4_combine_123 : decode cX4_combine 123 = .ok (.lload_n 3, 1) := by decide +kernel
theorem dX4_combine_124 : decode cX4_combine 124 = .ok (.ldiv, 1) := by decide +kernel
theorem dX4_combine_125 : decode cX4_combine 125 = .ok (.goto 6, 3) := by decide +kernel
theorem dX4_combine_128 : decode cX4_combine 128 = .ok (.lload_n 1, 1) := by decide +kernel
theorem dX4_combine_129 : decode cX4_combine 129 = .ok (.lload_n 3, 1) := by decide +kernel
theorem dX4_combine_130 : decode cX4_combine 130 = .ok (.lrem, 1) := by decide +kernel
theorem dX4_combine_131 : decode cX4_combine 131 = .ok (.lstore 5, 2) := by decide +kernel
theorem dX4_combine_133 : decode cX4_combine 133 = .ok (.lload 5, 2) := by decide +kernel
theorem dX4_combine_135 : decode cX4_combine 135 = .ok (.ldc2_w 31, 3) := by decide +kernel
theorem dX4_combine_138 : decode cX4_combine 138 = .ok (.lcmp, 1) := by decide +kernel
theorem dX4_combine_139 : decode cX4_combine 139 = .ok (.ifCond .gt 12, 3) := by decide +kernel
theorem dX4_combine_142 : decode cX4_combine 142 = .ok (.lload 5, 2) := by decide +kernel
theorem dX4_combine_144 : decode cX4_combine 144 = .ok (.ldc2_w 33, 3) := by decide +kernel
theorem dX4_combine_147 : decode cX4_combine 147 = .ok (.lcmp, 1) := by decide +kernel
theorem dX4_combine_148 : decode cX4_combine 148 = .ok (.ifCond .ge 8, 3) := by decide +kernel
theorem dX4_combine_151 : decode cX4_combine 151 = .ok (.ldc 26, 2) := by decide +kernel
theorem dX4_combine_153 : decode cX4_combine 153 = .ok (.goto 6, 3) := by decide +kernel
theorem dX4_combine_156 : decode cX4_combine 156 = .ok (.lload 5, 2) := by decide +kernel
theorem dX4_combine_158 : decode cX4_combine 158 = .ok (.l2i, 1) := by decide +kernel
theorem dX4_combine_159 : decode cX4_combine 159 = .ok (.ireturn, 1) := by decide +kernel
theorem dX4_reckon_0 : decode cX4_reckon 0 = .ok (.iconst 0, 1) := by decide +kernel
theorem dX4_reckon_1 : decode cX4_reckon 1 = .ok (.istore 5, 2) := by decide +kernel
theorem dX4_reckon_3 : decode cX4_reckon 3 = .ok (.aload_n 0, 1) := by decide +kernel
theorem dX4_reckon_4 : decode cX4_reckon 4 = .ok (.getfield 11, 3) := by decide +kernel
theorem dX4_reckon_7 : decode cX4_reckon 7 = .ok (.iconst 0, 1) := by decide +kernel
theorem dX4_reckon_8 : decode cX4_reckon 8 = .ok (.iconst 0, 1) := by decide +kernel
theorem dX4_reckon_9 : decode cX4_reckon 9 = .ok (.iastore, 1) := by decide +kernel
theorem dX4_reckon_10 : decode cX4_reckon 10 = .ok (.iload_n 3, 1) := by decide +kernel
theorem dX4_reckon_11 : decode cX4_reckon 11 = .ok (.aload_n 1, 1) := by decide +kernel
theorem dX4_reckon_12 : decode cX4_reckon 12 = .ok (.arraylength, 1) := by decide +kernel
theorem dX4_reckon_13 : decode cX4_reckon 13 = .ok (.invokestatic 17, 3) := by decide +kernel
theorem dX4_reckon_16 : decode cX4_reckon 16 = .ok (.istore 6, 2) := by decide +kernel
theorem dX4_reckon_18 : decode cX4_reckon 18 = .ok (.iload_n 2, 1) := by decide +kernel
theorem dX4_reckon_19 : decode cX4_reckon 19 = .ok (.iconst 0, 1) := by decide +kernel
theorem dX4_reckon_20 : decode cX4_reckon 20 = .ok (.invokestatic 23, 3) := by decide +kernel
theorem dX4_reckon_23 : decode cX4_reckon 23 = .ok (.istore 7, 2) := by decide +kernel
theorem dX4_reckon_25 : decode cX4_reckon 25 = .ok (.iload 7, 2) := by decide +kernel
theorem dX4_reckon_27 : decode cX4_reckon 27 = .ok (.iconst 1, 1) := by decide +kernel
theorem dX4_reckon_28 : decode cX4_reckon 28 = .ok (.iadd, 1) := by decide +kernel
theorem dX4_reckon_29 : decode cX4_reckon 29 = .ok (.iload 6, 2) := by decide +kernel
theorem dX4_reckon_31 : decode cX4_reckon 31 = .ok (.if_icmp .ge 235, 3) := by decide +kernel
theorem dX4_reckon_34 : decode cX4_reckon 34 = .ok (.aload_n 1, 1) := by decide +kernel
theorem dX4_reckon_35 : decode cX4_reckon 35 = .ok (.iload 7, 2) := by decide +kernel
theorem dX4_reckon_37 : decode cX4_reckon 37 = .ok (.iaload, 1) := by decide +kernel
theorem dX4_reckon_38 : decode cX4_reckon 38 = .ok (.istore 8, 2) := by decide +kernel
theorem dX4_reckon_40 : decode cX4_reckon 40 = .ok (.aload_n 1, 1) := by decide +kernel
theorem dX4_reckon_41 : decode cX4_reckon 41 = .ok (.iload 7, 2) := by decide +kernel
theorem dX4_reckon_43 : decode cX4_reckon 43 = .ok (.iconst 1, 1) := by decide +kernel
theorem dX4_reckon_44 : decode cX4_reckon 44 = .ok (.iadd, 1) := by decide +kernel
theorem dX4_reckon_45 : decode cX4_reckon 45 = .ok (.iaload, 1) := by decide +kernel
theorem dX4_reckon_46 : decode cX4_reckon 46 = .ok (.istore 9, 2) := by decide +kernel
theorem dX4_reckon_48 : decode cX4_reckon 48 = .ok (.iload 8, 2) := by decide +kernel
theorem dX4_reckon_50 : decode cX4_reckon 50 = .ok (.ifCond .eq 9, 3) := by decide +kernel
theorem dX4_reckon_53 : decode cX4_reckon 53 = .ok (.iload 8, 2) := by decide +kernel
theorem dX4_reckon_55 : decode cX4_reckon 55 = .ok (.iconst 1, 1) := by decide +kernel
theorem dX4_reckon_56 : decode cX4_reckon 56 = .ok (.if_icmp .ne 65, 3) := by decide +kernel
theorem dX4_reckon_59 : decode cX4_reckon 59 = .ok (.iload 5, 2) := by decide +kernel
theorem dX4_reckon_61 : decode cX4_reckon 61 = .ok (.iconst 1, 1) := by decide +kernel
theorem dX4_reckon_62 : decode cX4_reckon 62 = .ok (.iadd, 1) := by decide +kernel
theorem dX4_reckon_63 : decode cX4_reckon 63 = .ok (.aload_n 0, 1) := by decide +kernel
theorem dX4_reckon_64 : decode cX4_reckon 64 = .ok (.getfield 11, 3) := by decide +kernel
theorem dX4_reckon_67 : decode cX4_reckon 67 = .ok (.arraylength, 1) := by decide +kernel
theorem dX4_reckon_68 : decode cX4_reckon 68 = .ok (.if_icmp .ge 22, 3) := by decide +kernel
theorem dX4_reckon_71 : decode cX4_reckon 71 = .ok (.iload 8, 2) := by decide +kernel
theorem dX4_reckon_73 : decode cX4_reckon 73 = .ok (.iconst 1, 1) := by decide +kernel
theorem dX4_reckon_74 : decode cX4_reckon 74 = .ok (.if_icmp .ne 19, 3) := by decide +kernel
theorem dX4_reckon_77 : decode cX4_reckon 77 = .ok (.iload 9, 2) := by decide +kernel
theorem dX4_reckon_79 : decode cX4_reckon 79 = .ok (.ifCond .lt 11, 3) := by decide +kernel
theorem dX4_reckon_82 : decode cX4_reckon 82 = .ok (.iload 9, 2) := by decide +kernel
theorem dX4_reckon_84 : decode cX4_reckon 84 = .ok (.aload 4, 2) := by decide +kernel
theorem dX4_reckon_86 : decode cX4_reckon 86 = .ok (.arraylength, 1) := by decide +kernel
theorem dX4_reckon_87 : decode cX4_reckon 87 = .ok (.if_icmp .lt 6, 3) := by decide +kernel
theorem dX4_reckon_90 : decode cX4_reckon 90 = .ok (.ldc 26, 2) := by decide +kernel
theorem dX4_reckon_92 : decode cX4_reckon 92 = .ok (.ireturn, 1) := by decide +kernel
theorem dX4_reckon_93 : decode cX4_reckon 93 = .ok (.iinc 5 1, 3) := by decide +kernel
theorem dX4_reckon_96 : decode cX4_reckon 96 = .ok (.aload_n 0, 1) := by decide +kernel
theorem dX4_reckon_97 : decode cX4_reckon 97 = .ok (.getfield 11, 3) := by decide +kernel
theorem dX4_reckon_100 : decode cX4_reckon 100 = .ok (.iload 5, 2) := by decide +kernel
theorem dX4_reckon_102 : decode cX4_reckon 102 = .ok (.iload 8, 2) := by decide +kernel
theorem dX4_reckon_104 : decode cX4_reckon 104 = .ok (.ifCond .ne 8, 3) := by decide +kernel
theorem dX4_reckon_107 : decode cX4_reckon 107 = .ok (.iload 9, 2) := by decide +kernel
theorem dX4_reckon_109 : decode cX4_reckon 109 = .ok (.goto 8, 3) := by decide +kernel
theorem dX4_reckon_112 : decode cX4_reckon 112 = .ok (.aload 4, 2) := by decide +kernel
theorem dX4_reckon_114 : decode cX4_reckon 114 = .ok (.iload 9, 2) := by decide +kernel
theorem dX4_reckon_116 : decode cX4_reckon 116 = .ok (.iaload, 1) := by decide +kernel
theorem dX4_reckon_117 : decode cX4_reckon 117 = .ok (.iastore, 1) := by decide +kernel
theorem dX4_reckon_118 : decode cX4_reckon 118 = .ok (.goto 142, 3) := by decide +kernel
theorem dX4_reckon_121 : decode cX4_reckon 121 = .ok (.iload 8, 2) := by decide +kernel
theorem dX4_reckon_123 : decode cX4_reckon 123 = .ok (.bipush 10, 2) := by decide +kernel
theorem dX4_reckon_125 : decode cX4_reckon 125 = .ok (.if_icmp .ne 22, 3) := by decide +kernel
theorem dX4_reckon_128 : decode cX4_reckon 128 = .ok (.aload_n 0, 1) := by decide +kernel
theorem dX4_reckon_129 : decode cX4_reckon 129 = .ok (.getfield 11, 3) := by decide +kernel
theorem dX4_reckon_132 : decode cX4_reckon 132 = .ok (.iload 5, 2) := by decide +kernel
theorem dX4_reckon_134 : decode cX4_reckon 134 = .ok (.iconst 1, 1) := by decide +kernel
theorem dX4_reckon_135 : decode cX4_reckon 135 = .ok (.aload_n 0, 1) := by decide +kernel
theorem dX4_reckon_136 : decode cX4_reckon 136 = .ok (.getfield 11, 3) := by decide +kernel
theorem dX4_reckon_139 : decode cX4_reckon 139 = .ok (.iload 5, 2) := by decide +kernel
theorem dX4_reckon_141 : decode cX4_reckon 141 = .ok (.iaload, 1) := by decide +kernel
theorem dX4_reckon_142 : decode cX4_reckon 142 = .ok (.isub, 1) := by decide +kernel
theorem dX4_reckon_143 : decode cX4_reckon 143 = .ok (.iastore, 1) := by decide +kernel
theorem dX4_reckon_144 : decode cX4_reckon 144 = .ok (.goto 116, 3) := by decide +kernel
theorem dX4_reckon_147 : decode cX4_reckon 147 = .ok (.iload 5, 2) := by decide +kernel
theorem dX4_reckon_149 : decode cX4_reckon 149 = .ok (.iconst 1, 1) := by decide +kernel
theorem dX4_reckon_150 : decode cX4_reckon 150 = .ok (.if_icmp .ge 6, 3) := by decide +kernel
theorem dX4_reckon_153 : decode cX4_reckon 153 = .ok (.ldc 26, 2) := by decide +kernel
theorem dX4_reckon_155 : decode cX4_reckon 155 = .ok (.ireturn, 1) := by decide +kernel
theorem dX4_reckon_156 : decode cX4_reckon 156 = .ok (.iload 8, 2) := by decide +kernel
theorem dX4_reckon_158 : decode cX4_reckon 158 = .ok (.bipush 11, 2) := by decide +kernel
theorem dX4_reckon_160 : decode cX4_reckon 160 = .ok (.if_icmp .eq 10, 3) := by decide +kernel
theorem dX4_reckon_163 : decode cX4_reckon 163 = .ok (.iload 8, 2) := by decide +kernel
theorem dX4_reckon_165 : decode cX4_reckon 165 = .ok (.bipush 12, 2) := by decide +kernel
theorem dX4_reckon_167 : decode cX4_reckon 167 = .ok (.if_icmp .ne 45, 3) := by decide +kernel
theorem dX4_reckon_170 : decode cX4_reckon 170 = .ok (.aload_n 0, 1) := by decide +kernel
theorem dX4_reckon_171 : decode cX4_reckon 171 = .ok (.getfield 11, 3) := by decide +kernel
theorem dX4_reckon_174 : decode cX4_reckon 174 = .ok (.iload 5, 2) := by decide +kernel
theorem dX4_reckon_176 : decode cX4_reckon 176 = .ok (.iaload, 1) := by decide +kernel
theorem dX4_reckon_177 : decode cX4_reckon 177 = .ok (.iload 8, 2) := by decide +kernel
theorem dX4_reckon_179 : decode cX4_reckon 179 = .ok (.bipush 12, 2) := by decide +kernel
theorem dX4_reckon_181 : decode cX4_reckon 181 = .ok (.if_icmp .ne 7, 3) := by decide +kernel
theorem dX4_reckon_184 : decode cX4_reckon 184 = .ok (.iconst 1, 1) := by decide +kernel
theorem dX4_reckon_185 : decode cX4_reckon 185 = .ok (.goto 4, 3) := by decide +kernel
theorem dX4_reckon_188 : decode cX4_reckon 188 = .ok (.iconst 0, 1) := by decide +kernel
theorem dX4_reckon_189 : decode cX4_reckon 189 = .ok (.if_icmp .ne 17, 3) := by decide +kernel
theorem dX4_reckon_192 : decode cX4_reckon 192 = .ok (.iload 7, 2) := by decide +kernel
theorem dX4_reckon_194 : decode cX4_reckon 194 = .ok (.iload 9, 2) := by decide +kernel
theorem dX4_reckon_196 : decode cX4_reckon 196 = .ok (.iconst 2, 1) := by decide +kernel
theorem dX4_reckon_197 : decode cX4_reckon 197 = .ok (.isub, 1) := by decide +kernel
theorem dX4_reckon_198 : decode cX4_reckon 198 = .ok (.invokestatic 23, 3) := by decide +kernel
theorem dX4_reckon_201 : decode cX4_reckon 201 = .ok (.istore 7, 2) := by decide +kernel
theorem dX4_reckon_203 : decode cX4_reckon 203 = .ok (.goto 57, 3) := by decide +kernel
theorem dX4_reckon_206 : decode cX4_reckon 206 = .ok (.iinc 5 (-1), 3) := by decide +kernel
theorem dX4_reckon_209 : decode cX4_reckon 209 = .ok (.goto 51, 3) := by decide +kernel
theorem dX4_reckon_212 : decode cX4_reckon 212 = .ok (.iinc 5 (-1), 3) := by decide +kernel
theorem dX4_reckon_215 : decode cX4_reckon 215 = .ok (.aload_n 0, 1) := by decide +kernel
theorem dX4_reckon_216 : decode cX4_reckon 216 = .ok (.getfield 11, 3) := by decide +kernel
theorem dX4_reckon_219 : decode cX4_reckon 219 = .ok (.iload 5, 2) := by decide +kernel
theorem dX4_reckon_221 : decode cX4_reckon 221 = .ok (.iload 8, 2) := by decide +kernel
theorem dX4_reckon_223 : decode cX4_reckon 223 = .ok (.aload_n 0, 1) := by decide +kernel
theorem dX4_reckon_224 : decode cX4_reckon 224 = .ok (.getfield 11, 3) := by decide +kernel
theorem dX4_reckon_227 : decode cX4_reckon 227 = .ok (.iload 5, 2) := by decide +kernel
theorem dX4_reckon_229 : decode cX4_reckon 229 = .ok (.iaload, 1) := by decide +kernel
theorem dX4_reckon_230 : decode cX4_reckon 230 = .ok (.i2l, 1) := by decide +kernel
theorem dX4_reckon_231 : decode cX4_reckon 231 = .ok (.aload_n 0, 1) := by decide +kernel
theorem dX4_reckon_232 : decode cX4_reckon 232 = .ok (.getfield 11, 3) := by decide +kernel
theorem dX4_reckon_235 : decode cX4_reckon 235 = .ok (.iload 5, 2) := by decide +kernel
theorem dX4_reckon_237 : decode cX4_reckon 237 = .ok (.iconst 1, 1) := by decide +kernel
theorem dX4_reckon_238 : decode cX4_reckon 238 = .ok (.iadd, 1) := by decide +kernel
theorem dX4_reckon_239 : decode cX4_reckon 239 = .ok (.iaload, 1) := by decide +kernel
theorem dX4_reckon_240 : decode cX4_reckon 240 = .ok (.i2l, 1) := by decide +kernel
theorem dX4_reckon_241 : decode cX4_reckon 241 = .ok (.invokestatic 27, 3) := by decide +kernel
theorem dX4_reckon_244 : decode cX4_reckon 244 = .ok (.iastore, 1) := by decide +kernel
theorem dX4_reckon_245 : decode cX4_reckon 245 = .ok (.aload_n 0, 1) := by decide +kernel
theorem dX4_reckon_246 : decode cX4_reckon 246 = .ok (.getfield 11, 3) := by decide +kernel
theorem dX4_reckon_249 : decode cX4_reckon 249 = .ok (.iload 5, 2) := by decide +kernel
theorem dX4_reckon_251 : decode cX4_reckon 251 = .ok (.iaload, 1) := by decide +kernel
theorem dX4_reckon_252 : decode cX4_reckon 252 = .ok (.ldc 26, 2) := by decide +kernel
theorem dX4_reckon_254 : decode cX4_reckon 254 = .ok (.if_icmp .ne 6, 3) := by decide +kernel
theorem dX4_reckon_257 : decode cX4_reckon 257 = .ok (.ldc 26, 2) := by decide +kernel
theorem dX4_reckon_259 : decode cX4_reckon 259 = .ok (.ireturn, 1) := by decide +kernel
theorem dX4_reckon_260 : decode cX4_reckon 260 = .ok (.iinc 7 2, 3) := by decide +kernel
theorem dX4_reckon_263 : decode cX4_reckon 263 = .ok (.goto (-238), 3) := by decide +kernel
theorem dX4_reckon_266 : decode cX4_reckon 266 = .ok (.aload_n 0, 1) := by decide +kernel
theorem dX4_reckon_267 : decode cX4_reckon 267 = .ok (.getfield 11, 3) := by decide +kernel
theorem dX4_reckon_270 : decode cX4_reckon 270 = .ok (.iload 5, 2) := by decide +kernel
theorem dX4_reckon_272 : decode cX4_reckon 272 = .ok (.iaload, 1) := by decide +kernel
theorem dX4_reckon_273 : decode cX4_reckon 273 = .ok (.ireturn, 1) := by decide +kernel
theorem dX6_addFour_0 : decode cX6_addFour 0 = .ok (.bipush 24, 2) := by decide +kernel
theorem dX6_addFour_2 : decode cX6_addFour 2 = .ok (.istore_n 2, 1) := by decide +kernel
theorem dX6_addFour_3 : decode cX6_addFour 3 = .ok (.iload_n 2, 1) := by decide +kernel
theorem dX6_addFour_4 : decode cX6_addFour 4 = .ok (.ifCond .lt 45, 3) := by decide +kernel
theorem dX6_addFour_7 : decode cX6_addFour 7 = .ok (.aload_n 0, 1) := by decide +kernel
theorem dX6_addFour_8 : decode cX6_addFour 8 = .ok (.getfield 15, 3) := by decide +kernel
theorem dX6_addFour_11 : decode cX6_addFour 11 = .ok (.sipush 400, 3) := by decide +kernel
theorem dX6_addFour_14 : decode cX6_addFour 14 = .ok (.if_icmp .ge 35, 3) := by decide +kernel
theorem dX6_addFour_17 : decode cX6_addFour 17 = .ok (.aload_n 0, 1) := by decide +kernel
theorem dX6_addFour_18 : decode cX6_addFour 18 = .ok (.getfield 9, 3) := by decide +kernel
theorem dX6_addFour_21 : decode cX6_addFour 21 = .ok (.aload_n 0, 1) := by decide +kernel
theorem dX6_addFour_22 : decode cX6_addFour 22 = .ok (.getfield 15, 3) := by decide +kernel
theorem dX6_addFour_25 : decode cX6_addFour 25 = .ok (.iload_n 1, 1) := by decide +kernel
theorem dX6_addFour_26 : decode cX6_addFour 26 = .ok (.iload_n 2, 1) := by decide +kernel
theorem dX6_addFour_27 : decode cX6_addFour 27 = .ok (.iushr, 1) := by decide +kernel
theorem dX6_addFour_28 : decode cX6_addFour 28 = .ok (.sipush 255, 3) := by decide +kernel
theorem dX6_addFour_31 : decode cX6_addFour 31 = .ok (.iand, 1) := by decide +kernel
theorem dX6_addFour_32 : decode cX6_addFour 32 = .ok (.iastore, 1) := by decide +kernel
theorem dX6_addFour_33 : decode cX6_addFour 33 = .ok (.aload_n 0, 1) := by decide +kernel
theorem dX6_addFour_34 : decode cX6_addFour 34 = .ok (.dup, 1) := by decide +kernel
theorem dX6_addFour_35 : decode cX6_addFour 35 = .ok (.getfield 15, 3) := by decide +kernel
theorem dX6_addFour_38 : decode cX6_addFour 38 = .ok (.iconst 1, 1) := by decide +kernel
theorem dX6_addFour_39 : decode cX6_addFour 39 = .ok (.iadd, 1) := by decide +kernel
theorem dX6_addFour_40 : decode cX6_addFour 40 = .ok (.putfield 15, 3) := by decide +kernel
theorem dX6_addFour_43 : decode cX6_addFour 43 = .ok (.iinc 2 (-8), 3) := by decide +kernel
theorem dX6_addFour_46 : decode cX6_addFour 46 = .ok (.goto (-43), 3) := by decide +kernel
theorem dX6_addFour_49 : decode cX6_addFour 49 = .ok (.return_, 1) := by decide +kernel
theorem dX7_hasChild_0 : decode cX7_hasChild 0 = .ok (.iload_n 1, 1) := by decide +kernel
theorem dX7_hasChild_1 : decode cX7_hasChild 1 = .ok (.ifCond .lt 20, 3) := by decide +kernel
theorem dX7_hasChild_4 : decode cX7_hasChild 4 = .ok (.iload_n 1, 1) := by decide +kernel
theorem dX7_hasChild_5 : decode cX7_hasChild 5 = .ok (.aload_n 0, 1) := by decide +kernel
theorem dX7_hasChild_6 : decode cX7_hasChild 6 = .ok (.getfield 55, 3) := by decide +kernel
theorem dX7_hasChild_9 : decode cX7_hasChild 9 = .ok (.if_icmp .ge 12, 3) := by decide +kernel
theorem dX7_hasChild_12 : decode cX7_hasChild 12 = .ok (.iload_n 1, 1) := by decide +kernel
theorem dX7_hasChild_13 : decode cX7_hasChild 13 = .ok (.iconst 4, 1) := by decide +kernel
theorem dX7_hasChild_14 : decode cX7_hasChild 14 = .ok (.if_icmp .ge 7, 3) := by decide +kernel
theorem dX7_hasChild_17 : decode cX7_hasChild 17 = .ok (.iconst 1, 1) := by decide +kernel
theorem dX7_hasChild_18 : decode cX7_hasChild 18 = .ok (.goto 4, 3) := by decide +kernel
theorem dX7_hasChild_21 : decode cX7_hasChild 21 = .ok (.iconst 0, 1) := by decide +kernel
theorem dX7_hasChild_22 : decode cX7_hasChild 22 = .ok (.ireturn, 1) := by decide +kernel
theorem dX7_hasLaw_0 : decode cX7_hasLaw 0 = .ok (.iload_n 1, 1) := by decide +kernel
theorem dX7_hasLaw_1 : decode cX7_hasLaw 1 = .ok (.ifCond .lt 21, 3) := by decide +kernel
theorem dX7_hasLaw_4 : decode cX7_hasLaw 4 = .ok (.iload_n 1, 1) := by decide +kernel
theorem dX7_hasLaw_5 : decode cX7_hasLaw 5 = .ok (.aload_n 0, 1) := by decide +kernel
theorem dX7_hasLaw_6 : decode cX7_hasLaw 6 = .ok (.getfield 58, 3) := by decide +kernel
theorem dX7_hasLaw_9 : decode cX7_hasLaw 9 = .ok (.if_icmp .ge 13, 3) := by decide +kernel
theorem dX7_hasLaw_12 : decode cX7_hasLaw 12 = .ok (.iload_n 1, 1) := by decide +kernel
theorem dX7_hasLaw_13 : decode cX7_hasLaw 13 = .ok (.bipush 6, 2) := by decide +kernel
theorem dX7_hasLaw_15 : decode cX7_hasLaw 15 = .ok (.if_icmp .ge 7, 3) := by decide +kernel
theorem dX7_hasLaw_18 : decode cX7_hasLaw 18 = .ok (.iconst 1, 1) := by decide +kernel
theorem dX7_hasLaw_19 : decode cX7_hasLaw 19 = .ok (.goto 4, 3) := by decide +kernel
theorem dX7_hasLaw_22 : decode cX7_hasLaw 22 = .ok (.iconst 0, 1) := by decide +kernel
theorem dX7_hasLaw_23 : decode cX7_hasLaw 23 = .ok (.ireturn, 1) := by decide +kernel
theorem dX7_lawOf_0 : decode cX7_lawOf 0 = .ok (.aload_n 0, 1) := by decide +kernel
theorem dX7_lawOf_1 : decode cX7_lawOf 1 = .ok (.iload_n 1, 1) := by decide +kernel
theorem dX7_lawOf_2 : decode cX7_lawOf 2 = .ok (.invokevirtual 61, 3) := by decide +kernel
theorem dX7_lawOf_5 : decode cX7_lawOf 5 = .ok (.ifCond .eq 12, 3) := by decide +kernel
theorem dX7_lawOf_8 : decode cX7_lawOf 8 = .ok (.aload_n 0, 1) := by decide +kernel
theorem dX7_lawOf_9 : decode cX7_lawOf 9 = .ok (.getfield 44, 3) := by decide +kernel
theorem dX7_lawOf_12 : decode cX7_lawOf 12 = .ok (.iload_n 1, 1) := by decide +kernel
theorem dX7_lawOf_13 : decode cX7_lawOf 13 = .ok (.aaload, 1) := by decide +kernel
theorem dX7_lawOf_14 : decode cX7_lawOf 14 = .ok (.goto 4, 3) := by decide +kernel
theorem dX7_lawOf_17 : decode cX7_lawOf 17 = .ok (.aconst_null, 1) := by decide +kernel
theorem dX7_lawOf_18 : decode cX7_lawOf 18 = .ok (.areturn, 1) := by decide +kernel
theorem dX7_lawInForce_0 : decode cX7_lawInForce 0 = .ok (.aload_n 0, 1) := by decide +kernel
theorem dX7_lawInForce_1 : decode cX7_lawInForce 1 = .ok (.aload_n 0, 1) := by decide +kernel
theorem dX7_lawInForce_2 : decode cX7_lawInForce 2 = .ok (.getfield 48, 3) := by decide +kernel
theorem dX7_lawInForce_5 : decode cX7_lawInForce 5 = .ok (.invokevirtual 65, 3) := by decide +kernel
theorem dX7_lawInForce_8 : decode cX7_lawInForce 8 = .ok (.areturn, 1) := by decide +kernel
theorem dX7_addLane_0 : decode cX7_addLane 0 = .ok (.aload_n 0, 1) := by decide +kernel
theorem dX7_addLane_1 : decode cX7_addLane 1 = .ok (.getfield 52, 3) := by decide +kernel
theorem dX7_addLane_4 : decode cX7_addLane 4 = .ok (.bipush 10, 2) := by decide +kernel
theorem dX7_addLane_6 : decode cX7_addLane 6 = .ok (.if_icmp .lt 5, 3) := by decide +kernel
theorem dX7_addLane_9 : decode cX7_addLane 9 = .ok (.iconst (-1), 1) := by decide +kernel
theorem dX7_addLane_10 : decode cX7_addLane 10 = .ok (.ireturn, 1) := by decide +kernel
theorem dX7_addLane_11 : decode cX7_addLane 11 = .ok (.aload_n 0, 1) := by decide +kernel
theorem dX7_addLane_12 : decode cX7_addLane 12 = .ok (.getfield 9, 3) := by decide +kernel
theorem dX7_addLane_15 : decode cX7_addLane 15 = .ok (.aload_n 0, 1) := by decide +kernel
theorem dX7_addLane_16 : decode cX7_addLane 16 = .ok (.getfield 52, 3) := by decide +kernel
theorem dX7_addLane_19 : decode cX7_addLane 19 = .ok (.iload_n 1, 1) := by decide +kernel
theorem dX7_addLane_20 : decode cX7_addLane 20 = .ok (.iastore, 1) := by decide +kernel
theorem dX7_addLane_21 : decode cX7_addLane 21 = .ok (.aload_n 0, 1) := by decide +kernel
theorem dX7_addLane_22 : decode cX7_addLane 22 = .ok (.getfield 15, 3) := by decide +kernel
theorem dX7_addLane_25 : decode cX7_addLane 25 = .ok (.aload_n 0, 1) := by decide +kernel
theorem dX7_addLane_26 : decode cX7_addLane 26 = .ok (.getfield 52, 3) := by decide +kernel
theorem dX7_addLane_29 : decode cX7_addLane 29 = .ok (.iload_n 2, 1) := by decide +kernel
theorem dX7_addLane_30 : decode cX7_addLane 30 = .ok (.iastore, 1) := by decide +kernel
theorem dX7_addLane_31 : decode cX7_addLane 31 = .ok (.aload_n 0, 1) := by decide +kernel
theorem dX7_addLane_32 : decode cX7_addLane 32 = .ok (.getfield 18, 3) := by decide +kernel
theorem dX7_addLane_35 : decode cX7_addLane 35 = .ok (.aload_n 0, 1) := by decide +kernel
theorem dX7_addLane_36 : decode cX7_addLane 36 = .ok (.getfield 52, 3) := by decide +kernel
theorem dX7_addLane_39 : decode cX7_addLane 39 = .ok (.iload_n 3, 1) := by decide +kernel
theorem dX7_addLane_40 : decode cX7_addLane 40 = .ok (.iastore, 1) := by decide +kernel
theorem dX7_addLane_41 : decode cX7_addLane 41 = .ok (.aload_n 0, 1) := by decide +kernel
theorem dX7_addLane_42 : decode cX7_addLane 42 = .ok (.getfield 21, 3) := by decide +kernel
theorem dX7_addLane_45 : decode cX7_addLane 45 = .ok (.aload_n 0, 1) := by decide +kernel
theorem dX7_addLane_46 : decode cX7_addLane 46 = .ok (.getfield 52, 3) := by decide +kernel
theorem dX7_addLane_49 : decode cX7_addLane 49 = .ok (.iload 4, 2) := by decide +kernel
theorem dX7_addLane_51 : decode cX7_addLane 51 = .ok (.iastore, 1) := by decide +kernel
theorem dX7_addLane_52 : decode cX7_addLane 52 = .ok (.aload_n 0, 1) := by decide +kernel
theorem dX7_addLane_53 : decode cX7_addLane 53 = .ok (.getfield 24, 3) := by decide +kernel
theorem dX7_addLane_56 : decode cX7_addLane 56 = .ok (.aload_n 0, 1) := by decide +kernel
theorem dX7_addLane_57 : decode cX7_addLane 57 = .ok (.getfield 52, 3) := by decide +kernel
theorem dX7_addLane_60 : decode cX7_addLane 60 = .ok (.iconst (-1), 1) := by decide +kernel
theorem dX7_addLane_61 : decode cX7_addLane 61 = .ok (.iastore, 1) := by decide +kernel
theorem dX7_addLane_62 : decode cX7_addLane 62 = .ok (.aload_n 0, 1) := by decide +kernel
theorem dX7_addLane_63 : decode cX7_addLane 63 = .ok (.dup, 1) := by decide +kernel
theorem dX7_addLane_64 : decode cX7_addLane 64 = .ok (.getfield 52, 3) := by decide +kernel
theorem dX7_addLane_67 : decode cX7_addLane 67 = .ok (.iconst 1, 1) := by decide +kernel
theorem dX7_addLane_68 : decode cX7_addLane 68 = .ok (.iadd, 1) := by decide +kernel
theorem dX7_addLane_69 : decode cX7_addLane 69 = .ok (.putfield 52, 3) := by decide +kernel
theorem dX7_addLane_72 : decode cX7_addLane 72 = .ok (.aload_n 0, 1) := by decide +kernel
theorem dX7_addLane_73 : decode cX7_addLane 73 = .ok (.getfield 52, 3) := by decide +kernel
theorem dX7_addLane_76 : decode cX7_addLane 76 = .ok (.iconst 1, 1) := by decide +kernel
theorem dX7_addLane_77 : decode cX7_addLane 77 = .ok (.isub, 1) := by decide +kernel
theorem dX7_addLane_78 : decode cX7_addLane 78 = .ok (.ireturn, 1) := by decide +kernel
theorem dX7_addChild_0 : decode cX7_addChild 0 = .ok (.aload_n 0, 1) := by decide +kernel
theorem dX7_addChild_1 : decode cX7_addChild 1 = .ok (.getfield 55, 3) := by decide +kernel
theorem dX7_addChild_4 : decode cX7_addChild 4 = .ok (.iconst 4, 1) := by decide +kernel
theorem dX7_addChild_5 : decode cX7_addChild 5 = .ok (.if_icmp .lt 5, 3) := by decide +kernel
theorem dX7_addChild_8 : decode cX7_addChild 8 = .ok (.iconst (-1), 1) := by decide +kernel
theorem dX7_addChild_9 : decode cX7_addChild 9 = .ok (.ireturn, 1) := by decide +kernel
theorem dX7_addChild_10 : decode cX7_addChild 10 = .ok (.aload_n 0, 1) := by decide +kernel
theorem dX7_addChild_11 : decode cX7_addChild 11 = .ok (.getfield 27, 3) := by decide +kernel
theorem dX7_addChild_14 : decode cX7_addChild 14 = .ok (.aload_n 0, 1) := by decide +kernel
theorem dX7_addChild_15 : decode cX7_addChild 15 = .ok (.getfield 55, 3) := by decide +kernel
theorem dX7_addChild_18 : decode cX7_addChild 18 = .ok (.iload_n 1, 1) := by decide +kernel
theorem dX7_addChild_19 : decode cX7_addChild 19 = .ok (.iastore, 1) := by decide +kernel
theorem dX7_addChild_20 : decode cX7_addChild 20 = .ok (.aload_n 0, 1) := by decide +kernel
theorem dX7_addChild_21 : decode cX7_addChild 21 = .ok (.getfield 30, 3) := by decide +kernel
theorem dX7_addChild_24 : decode cX7_addChild 24 = .ok (.aload_n 0, 1) := by decide +kernel
theorem dX7_addChild_25 : decode cX7_addChild 25 = .ok (.getfield 55, 3) := by decide +kernel
theorem dX7_addChild_28 : decode cX7_addChild 28 = .ok (.iload_n 2, 1) := by decide +kernel
theorem dX7_addChild_29 : decode cX7_addChild 29 = .ok (.iastore, 1) := by decide +kernel
theorem dX7_addChild_30 : decode cX7_addChild 30 = .ok (.aload_n 0, 1) := by decide +kernel
theorem dX7_addChild_31 : decode cX7_addChild 31 = .ok (.getfield 33, 3) := by decide +kernel
theorem dX7_addChild_34 : decode cX7_addChild 34 = .ok (.aload_n 0, 1) := by decide +kernel
theorem dX7_addChild_35 : decode cX7_addChild 35 = .ok (.getfield 55, 3) := by decide +kernel
theorem dX7_addChild_38 : decode cX7_addChild 38 = .ok (.iconst (-1), 1) := by decide +kernel
theorem dX7_addChild_39 : decode cX7_addChild 39 = .ok (.iastore, 1) := by decide +kernel
theorem dX7_addChild_40 : decode cX7_addChild 40 = .ok (.aload_n 0, 1) := by decide +kernel
theorem dX7_addChild_41 : decode cX7_addChild 41 = .ok (.dup, 1) := by decide +kernel
theorem dX7_addChild_42 : decode cX7_addChild 42 = .ok (.getfield 55, 3) := by decide +kernel
theorem dX7_addChild_45 : decode cX7_addChild 45 = .ok (.iconst 1, 1) := by decide +kernel
theorem dX7_addChild_46 : decode cX7_addChild 46 = .ok (.iadd, 1) := by decide +kernel
theorem dX7_addChild_47 : decode cX7_addChild 47 = .ok (.putfield 55, 3) := by decide +kernel
theorem dX7_addChild_50 : decode cX7_addChild 50 = .ok (.aload_n 0, 1) := by decide +kernel
theorem dX7_addChild_51 : decode cX7_addChild 51 = .ok (.getfield 55, 3) := by decide +kernel
theorem dX7_addChild_54 : decode cX7_addChild 54 = .ok (.iconst 1, 1) := by decide +kernel
theorem dX7_addChild_55 : decode cX7_addChild 55 = .ok (.isub, 1) := by decide +kernel
theorem dX7_addChild_56 : decode cX7_addChild 56 = .ok (.ireturn, 1) := by decide +kernel
theorem dX7_endBeyond_0 : decode cX7_endBeyond 0 = .ok (.aload_n 0, 1) := by decide +kernel
theorem dX7_endBeyond_1 : decode cX7_endBeyond 1 = .ok (.iload_n 1, 1) := by decide +kernel
theorem dX7_endBeyond_2 : decode cX7_endBeyond 2 = .ok (.iload_n 2, 1) := by decide +kernel
theorem dX7_endBeyond_3 : decode cX7_endBeyond 3 = .ok (.invokevirtual 72, 3) := by decide +kernel
theorem dX7_endBeyond_6 : decode cX7_endBeyond 6 = .ok (.ifCond .ne 5, 3) := by decide +kernel
theorem dX7_endBeyond_9 : decode cX7_endBeyond 9 = .ok (.iload_n 2, 1) := by decide +kernel
theorem dX7_endBeyond_10 : decode cX7_endBeyond 10 = .ok (.ireturn, 1) := by decide +kernel
theorem dX7_endBeyond_11 : decode cX7_endBeyond 11 = .ok (.aload_n 0, 1) := by decide +kernel
theorem dX7_endBeyond_12 : decode cX7_endBeyond 12 = .ok (.getfield 9, 3) := by decide +kernel
theorem dX7_endBeyond_15 : decode cX7_endBeyond 15 = .ok (.iload_n 1, 1) := by decide +kernel
theorem dX7_endBeyond_16 : decode cX7_endBeyond 16 = .ok (.iaload, 1) := by decide +kernel
theorem dX7_endBeyond_17 : decode cX7_endBeyond 17 = .ok (.iload_n 2, 1) := by decide +kernel
theorem dX7_endBeyond_18 : decode cX7_endBeyond 18 = .ok (.if_icmp .ne 12, 3) := by decide +kernel
theorem dX7_endBeyond_21 : decode cX7_endBeyond 21 = .ok (.aload_n 0, 1) := by decide +kernel
theorem dX7_endBeyond_22 : decode cX7_endBeyond 22 = .ok (.getfield 15, 3) := by decide +kernel
theorem dX7_endBeyond_25 : decode cX7_endBeyond 25 = .ok (.iload_n 1, 1) := by decide +kernel
theorem dX7_endBeyond_26 : decode cX7_endBeyond 26 = .ok (.iaload, 1) := by decide +kernel
theorem dX7_endBeyond_27 : decode cX7_endBeyond 27 = .ok (.goto 9, 3) := by decide +kernel
theorem dX7_endBeyond_30 : decode cX7_endBeyond 30 = .ok (.aload_n 0, 1) := by decide +kernel
theorem dX7_endBeyond_31 : decode cX7_endBeyond 31 = .ok (.getfield 9, 3) := by decide +kernel
theorem dX7_endBeyond_34 : decode cX7_endBeyond 34 = .ok (.iload_n 1, 1) := by decide +kernel
theorem dX7_endBeyond_35 : decode cX7_endBeyond 35 = .ok (.iaload, 1) := by decide +kernel
theorem dX7_endBeyond_36 : decode cX7_endBeyond 36 = .ok (.ireturn, 1) := by decide +kernel
theorem dX7_goAlong_0 : decode cX7_goAlong 0 = .ok (.aload_n 0, 1) := by decide +kernel
theorem dX7_goAlong_1 : decode cX7_goAlong 1 = .ok (.iload_n 1, 1) := by decide +kernel
theorem dX7_goAlong_2 : decode cX7_goAlong 2 = .ok (.invokevirtual 76, 3) := by decide +kernel
theorem dX7_goAlong_5 : decode cX7_goAlong 5 = .ok (.ifCond .eq 27, 3) := by decide +kernel
theorem dX7_goAlong_8 : decode cX7_goAlong 8 = .ok (.aload_n 0, 1) := by decide +kernel
theorem dX7_goAlong_9 : decode cX7_goAlong 9 = .ok (.getfield 30, 3) := by decide +kernel
theorem dX7_goAlong_12 : decode cX7_goAlong 12 = .ok (.iload_n 1, 1) := by decide +kernel
theorem dX7_goAlong_13 : decode cX7_goAlong 13 = .ok (.aload_n 0, 1) := by decide +kernel
theorem dX7_goAlong_14 : decode cX7_goAlong 14 = .ok (.iload_n 2, 1) := by decide +kernel
theorem dX7_goAlong_15 : decode cX7_goAlong 15 = .ok (.aload_n 0, 1) := by decide +kernel
theorem dX7_goAlong_16 : decode cX7_goAlong 16 = .ok (.getfield 30, 3) := by decide +kernel
theorem dX7_goAlong_19 : decode cX7_goAlong 19 = .ok (.iload_n 1, 1) := by decide +kernel
theorem dX7_goAlong_20 : decode cX7_goAlong 20 = .ok (.iaload, 1) := by decide +kernel
theorem dX7_goAlong_21 : decode cX7_goAlong 21 = .ok (.invokevirtual 79, 3) := by decide +kernel
theorem dX7_goAlong_24 : decode cX7_goAlong 24 = .ok (.iastore, 1) := by decide +kernel
theorem dX7_goAlong_25 : decode cX7_goAlong 25 = .ok (.aload_n 0, 1) := by decide +kernel
theorem dX7_goAlong_26 : decode cX7_goAlong 26 = .ok (.getfield 33, 3) := by decide +kernel
theorem dX7_goAlong_29 : decode cX7_goAlong 29 = .ok (.iload_n 1, 1) := by decide +kernel
theorem dX7_goAlong_30 : decode cX7_goAlong 30 = .ok (.iload_n 2, 1) := by decide +kernel
theorem dX7_goAlong_31 : decode cX7_goAlong 31 = .ok (.iastore, 1) := by decide +kernel
theorem dX7_goAlong_32 : decode cX7_goAlong 32 = .ok (.return_, 1) := by decide +kernel
theorem dX7_namedLanes_0 : decode cX7_namedLanes 0 = .ok (.iconst 0, 1) := by decide +kernel
theorem dX7_namedLanes_1 : decode cX7_namedLanes 1 = .ok (.istore_n 1, 1) := by decide +kernel
theorem dX7_namedLanes_2 : decode cX7_namedLanes 2 = .ok (.iconst 0, 1) := by decide +kernel
theorem dX7_namedLanes_3 : decode cX7_namedLanes 3 = .ok (.istore_n 2, 1) := by decide +kernel
theorem dX7_namedLanes_4 : decode cX7_namedLanes 4 = .ok (.iload_n 2, 1) := by decide +kernel
theorem dX7_namedLanes_5 : decode cX7_namedLanes 5 = .ok (.aload_n 0, 1) := by decide +kernel
theorem dX7_namedLanes_6 : decode cX7_namedLanes 6 = .ok (.getfield 52, 3) := by decide +kernel
theorem dX7_namedLanes_9 : decode cX7_namedLanes 9 = .ok (.if_icmp .ge 30, 3) := by decide +kernel
theorem dX7_namedLanes_12 : decode cX7_namedLanes 12 = .ok (.aload_n 0, 1) := by decide +kernel
theorem dX7_namedLanes_13 : decode cX7_namedLanes 13 = .ok (.iload_n 2, 1) := by decide +kernel
theorem dX7_namedLanes_14 : decode cX7_namedLanes 14 = .ok (.invokevirtual 69, 3) := by decide +kernel
theorem dX7_namedLanes_17 : decode cX7_namedLanes 17 = .ok (.ifCond .eq 16, 3) := by decide +kernel
theorem dX7_namedLanes_20 : decode cX7_namedLanes 20 = .ok (.aload_n 0, 1) := by decide +kernel
theorem dX7_namedLanes_21 : decode cX7_namedLanes 21 = .ok (.getfield 24, 3) := by decide +kernel
theorem dX7_namedLanes_24 : decode cX7_namedLanes 24 = .ok (.iload_n 2, 1) := by decide +kernel
theorem dX7_namedLanes_25 : decode cX7_namedLanes 25 = .ok (.iaload, 1) := by decide +kernel
theorem dX7_namedLanes_26 : decode cX7_namedLanes 26 = .ok (.iconst (-1), 1) := by decide +kernel
theorem dX7_namedLanes_27 : decode cX7_namedLanes 27 = .ok (.if_icmp .eq 6, 3) := by decide +kernel
theorem dX7_namedLanes_30 : decode cX7_namedLanes 30 = .ok (.iinc 1 1, 3) := by decide +kernel
theorem dX7_namedLanes_33 : decode cX7_namedLanes 33 = .ok (.iinc 2 1, 3) := by decide +kernel
theorem dX7_namedLanes_36 : decode cX7_namedLanes 36 = .ok (.goto (-32), 3) := by decide +kernel
theorem dX7_namedLanes_39 : decode cX7_namedLanes 39 = .ok (.iload_n 1, 1) := by decide +kernel
theorem dX7_namedLanes_40 : decode cX7_namedLanes 40 = .ok (.ireturn, 1) := by decide +kernel
theorem dX7_become_0 : decode cX7_become 0 = .ok (.aload_n 1, 1) := by decide +kernel
theorem dX7_become_1 : decode cX7_become 1 = .ok (.getfield 9, 3) := by decide +kernel
theorem dX7_become_4 : decode cX7_become 4 = .ok (.iconst 0, 1) := by decide +kernel
theorem dX7_become_5 : decode cX7_become 5 = .ok (.aload_n 0, 1) := by decide +kernel
theorem dX7_become_6 : decode cX7_become 6 = .ok (.getfield 9, 3) := by decide +kernel
theorem dX7_become_9 : decode cX7_become 9 = .ok (.iconst 0, 1) := by decide +kernel
theorem dX7_become_10 : decode cX7_become 10 = .ok (.bipush 10, 2) := by decide +kernel
theorem dX7_become_12 : decode cX7_become 12 = .ok (.invokestatic 83, 3) := by decide +kernel
theorem dX7_become_15 : decode cX7_become 15 = .ok (.aload_n 1, 1) := by decide +kernel
theorem dX7_become_16 : decode cX7_become 16 = .ok (.getfield 15, 3) := by decide +kernel
theorem dX7_become_19 : decode cX7_become 19 = .ok (.iconst 0, 1) := by decide +kernel
theorem dX7_become_20 : decode cX7_become 20 = .ok (.aload_n 0, 1) := by decide +kernel
theorem dX7_become_21 : decode cX7_become 21 = .ok (.getfield 15, 3) := by decide +kernel
theorem dX7_become_24 : decode cX7_become 24 = .ok (.iconst 0, 1) := by decide +kernel
theorem dX7_become_25 : decode cX7_become 25 = .ok (.bipush 10, 2) := by decide +kernel
theorem dX7_become_27 : decode cX7_become 27 = .ok (.invokestatic 83, 3) := by decide +kernel
theorem dX7_become_30 : decode cX7_become 30 = .ok (.aload_n 1, 1) := by decide +kernel
theorem dX7_become_31 : decode cX7_become 31 = .ok (.getfield 18, 3) := by decide +kernel
theorem dX7_become_34 : decode cX7_become 34 = .ok (.iconst 0, 1) := by decide +kernel
theorem dX7_become_35 : decode cX7_become 35 = .ok (.aload_n 0, 1) := by decide +kernel
theorem dX7_become_36 : decode cX7_become 36 = .ok (.getfield 18, 3) := by decide +kernel
theorem dX7_become_39 : decode cX7_become 39 = .ok (.iconst 0, 1) := by decide +kernel
theorem dX7_become_40 : decode cX7_become 40 = .ok (.bipush 10, 2) := by decide +kernel
theorem dX7_become_42 : decode cX7_become 42 = .ok (.invokestatic 83, 3) := by decide +kernel
theorem dX7_become_45 : decode cX7_become 45 = .ok (.aload_n 1, 1) := by decide +kernel
theorem dX7_become_46 : decode cX7_become 46 = .ok (.getfield 21, 3) := by decide +kernel
theorem dX7_become_49 : decode cX7_become 49 = .ok (.iconst 0, 1) := by decide +kernel
theorem dX7_become_50 : decode cX7_become 50 = .ok (.aload_n 0, 1) := by decide +kernel
theorem dX7_become_51 : decode cX7_become 51 = .ok (.getfield 21, 3) := by decide +kernel
theorem dX7_become_54 : decode cX7_become 54 = .ok (.iconst 0, 1) := by decide +kernel
theorem dX7_become_55 : decode cX7_become 55 = .ok (.bipush 10, 2) := by decide +kernel
theorem dX7_become_57 : decode cX7_become 57 = .ok (.invokestatic 83, 3) := by decide +kernel
theorem dX7_become_60 : decode cX7_become 60 = .ok (.aload_n 1, 1) := by decide +kernel
theorem dX7_become_61 : decode cX7_become 61 = .ok (.getfield 24, 3) := by decide +kernel
theorem dX7_become_64 : decode cX7_become 64 = .ok (.iconst 0, 1) := by decide +kernel
theorem dX7_become_65 : decode cX7_become 65 = .ok (.aload_n 0, 1) := by decide +kernel
theorem dX7_become_66 : decode cX7_become 66 = .ok (.getfield 24, 3) := by decide +kernel
theorem dX7_become_69 : decode cX7_become 69 = .ok (.iconst 0, 1) := by decide +kernel
theorem dX7_become_70 : decode cX7_become 70 = .ok (.bipush 10, 2) := by decide +kernel
theorem dX7_become_72 : decode cX7_become 72 = .ok (.invokestatic 83, 3) := by decide +kernel
theorem dX7_become_75 : decode cX7_become 75 = .ok (.aload_n 0, 1) := by decide +kernel
theorem dX7_become_76 : decode cX7_become 76 = .ok (.aload_n 1, 1) := by decide +kernel
theorem dX7_become_77 : decode cX7_become 77 = .ok (.getfield 52, 3) := by decide +kernel
theorem dX7_become_80 : decode cX7_become 80 = .ok (.putfield 52, 3) := by decide +kernel
theorem dX7_become_83 : decode cX7_become 83 = .ok (.aload_n 1, 1) := by decide +kernel
theorem dX7_become_84 : decode cX7_become 84 = .ok (.getfield 27, 3) := by decide +kernel
theorem dX7_become_87 : decode cX7_become 87 = .ok (.iconst 0, 1) := by decide +kernel
theorem dX7_become_88 : decode cX7_become 88 = .ok (.aload_n 0, 1) := by decide +kernel
theorem dX7_become_89 : decode cX7_become 89 = .ok (.getfield 27, 3) := by decide +kernel
theorem dX7_become_92 : decode cX7_become 92 = .ok (.iconst 0, 1) := by decide +kernel
theorem dX7_become_93 : decode cX7_become 93 = .ok (.iconst 4, 1) := by decide +kernel
theorem dX7_become_94 : decode cX7_become 94 = .ok (.invokestatic 83, 3) := by decide +kernel
theorem dX7_become_97 : decode cX7_become 97 = .ok (.aload_n 1, 1) := by decide +kernel
theorem dX7_become_98 : decode cX7_become 98 = .ok (.getfield 30, 3) := by decide +kernel
theorem dX7_become_101 : decode cX7_become 101 = .ok (.iconst 0, 1) := by decide +kernel
theorem dX7_become_102 : decode cX7_become 102 = .ok (.aload_n 0, 1) := by decide +kernel
theorem dX7_become_103 : decode cX7_become 103 = .ok (.getfield 30, 3) := by decide +kernel
theorem dX7_become_106 : decode cX7_become 106 = .ok (.iconst 0, 1) := by decide +kernel
theorem dX7_become_107 : decode cX7_become 107 = .ok (.iconst 4, 1) := by decide +kernel
theorem dX7_become_108 : decode cX7_become 108 = .ok (.invokestatic 83, 3) := by decide +kernel
theorem dX7_become_111 : decode cX7_become 111 = .ok (.aload_n 1, 1) := by decide +kernel
theorem dX7_become_112 : decode cX7_become 112 = .ok (.getfield 33, 3) := by decide +kernel
theorem dX7_become_115 : decode cX7_become 115 = .ok (.iconst 0, 1) := by decide +kernel
theorem dX7_become_116 : decode cX7_become 116 = .ok (.aload_n 0, 1) := by decide +kernel
theorem dX7_become_117 : decode cX7_become 117 = .ok (.getfield 33, 3) := by decide +kernel
theorem dX7_become_120 : decode cX7_become 120 = .ok (.iconst 0, 1) := by decide +kernel
theorem dX7_become_121 : decode cX7_become 121 = .ok (.iconst 4, 1) := by decide +kernel
theorem dX7_become_122 : decode cX7_become 122 = .ok (.invokestatic 83, 3) := by decide +kernel
theorem dX7_become_125 : decode cX7_become 125 = .ok (.aload_n 0, 1) := by decide +kernel
theorem dX7_become_126 : decode cX7_become 126 = .ok (.aload_n 1, 1) := by decide +kernel
theorem dX7_become_127 : decode cX7_become 127 = .ok (.getfield 55, 3) := by decide +kernel
theorem dX7_become_130 : decode cX7_become 130 = .ok (.putfield 55, 3) := by decide +kernel
theorem dX7_become_133 : decode cX7_become 133 = .ok (.aload_n 1, 1) := by decide +kernel
theorem dX7_become_134 : decode cX7_become 134 = .ok (.getfield 36, 3) := by decide +kernel
theorem dX7_become_137 : decode cX7_become 137 = .ok (.iconst 0, 1) := by decide +kernel
theorem dX7_become_138 : decode cX7_become 138 = .ok (.aload_n 0, 1) := by decide +kernel
theorem dX7_become_139 : decode cX7_become 139 = .ok (.getfield 36, 3) := by decide +kernel
theorem dX7_become_142 : decode cX7_become 142 = .ok (.iconst 0, 1) := by decide +kernel
theorem dX7_become_143 : decode cX7_become 143 = .ok (.bipush 6, 2) := by decide +kernel
theorem dX7_become_145 : decode cX7_become 145 = .ok (.invokestatic 83, 3) := by decide +kernel
theorem dX7_become_148 : decode cX7_become 148 = .ok (.aload_n 0, 1) := by decide +kernel
theorem dX7_become_149 : decode cX7_become 149 = .ok (.aload_n 1, 1) := by decide +kernel
theorem dX7_become_150 : decode cX7_become 150 = .ok (.getfield 89, 3) := by decide +kernel
theorem dX7_become_153 : decode cX7_become 153 = .ok (.putfield 89, 3) := by decide +kernel
theorem dX7_become_156 : decode cX7_become 156 = .ok (.aload_n 1, 1) := by decide +kernel
theorem dX7_become_157 : decode cX7_become 157 = .ok (.getfield 39, 3) := by decide +kernel
theorem dX7_become_160 : decode cX7_become 160 = .ok (.iconst 0, 1) := by decide +kernel
theorem dX7_become_161 : decode cX7_become 161 = .ok (.aload_n 0, 1) := by decide +kernel
theorem dX7_become_162 : decode cX7_become 162 = .ok (.getfield 39, 3) := by decide +kernel
theorem dX7_become_165 : decode cX7_become 165 = .ok (.iconst 0, 1) := by decide +kernel
theorem dX7_become_166 : decode cX7_become 166 = .ok (.aload_n 0, 1) := by decide +kernel
theorem dX7_become_167 : decode cX7_become 167 = .ok (.getfield 39, 3) := by decide +kernel
theorem dX7_become_170 : decode cX7_become 170 = .ok (.arraylength, 1) := by decide +kernel
theorem dX7_become_171 : decode cX7_become 171 = .ok (.invokestatic 83, 3) := by decide +kernel
theorem dX7_become_174 : decode cX7_become 174 = .ok (.iconst 0, 1) := by decide +kernel
theorem dX7_become_175 : decode cX7_become 175 = .ok (.istore_n 2, 1) := by decide +kernel
theorem dX7_become_176 : decode cX7_become 176 = .ok (.iload_n 2, 1) := by decide +kernel
theorem dX7_become_177 : decode cX7_become 177 = .ok (.bipush 6, 2) := by decide +kernel
theorem dX7_become_179 : decode cX7_become 179 = .ok (.if_icmp .ge 21, 3) := by decide +kernel
theorem dX7_become_182 : decode cX7_become 182 = .ok (.aload_n 0, 1) := by decide +kernel
theorem dX7_become_183 : decode cX7_become 183 = .ok (.getfield 44, 3) := by decide +kernel
theorem dX7_become_186 : decode cX7_become 186 = .ok (.iload_n 2, 1) := by decide +kernel
theorem dX7_become_187 : decode cX7_become 187 = .ok (.aload_n 1, 1) := by decide +kernel
theorem dX7_become_188 : decode cX7_become 188 = .ok (.getfield 44, 3) := by decide +kernel
theorem dX7_become_191 : decode cX7_become 191 = .ok (.iload_n 2, 1) := by decide +kernel
theorem dX7_become_192 : decode cX7_become 192 = .ok (.aaload, 1) := by decide +kernel
theorem dX7_become_193 : decode cX7_become 193 = .ok (.aastore, 1) := by decide +kernel
theorem dX7_become_194 : decode cX7_become 194 = .ok (.iinc 2 1, 3) := by decide +kernel
theorem dX7_become_197 : decode cX7_become 197 = .ok (.goto (-21), 3) := by decide +kernel
theorem dX7_become_200 : decode cX7_become 200 = .ok (.aload_n 0, 1) := by decide +kernel
theorem dX7_become_201 : decode cX7_become 201 = .ok (.aload_n 1, 1) := by decide +kernel
theorem dX7_become_202 : decode cX7_become 202 = .ok (.getfield 58, 3) := by decide +kernel
theorem dX7_become_205 : decode cX7_become 205 = .ok (.putfield 58, 3) := by decide +kernel
theorem dX7_become_208 : decode cX7_become 208 = .ok (.aload_n 0, 1) := by decide +kernel
theorem dX7_become_209 : decode cX7_become 209 = .ok (.aload_n 1, 1) := by decide +kernel
theorem dX7_become_210 : decode cX7_become 210 = .ok (.getfield 48, 3) := by decide +kernel
theorem dX7_become_213 : decode cX7_become 213 = .ok (.putfield 48, 3) := by decide +kernel
theorem dX7_become_216 : decode cX7_become 216 = .ok (.return_, 1) := by decide +kernel
theorem dX8_isPlace_0 : decode cX8_isPlace 0 = .ok (.iload_n 0, 1) := by decide +kernel
theorem dX8_isPlace_1 : decode cX8_isPlace 1 = .ok (.ifCond .lt 13, 3) := by decide +kernel
theorem dX8_isPlace_4 : decode cX8_isPlace 4 = .ok (.iload_n 0, 1) := by decide +kernel
theorem dX8_isPlace_5 : decode cX8_isPlace 5 = .ok (.bipush 64, 2) := by decide +kernel
theorem dX8_isPlace_7 : decode cX8_isPlace 7 = .ok (.if_icmp .ge 7, 3) := by decide +kernel
theorem dX8_isPlace_10 : decode cX8_isPlace 10 = .ok (.iconst 1, 1) := by decide +kernel
theorem dX8_isPlace_11 : decode cX8_isPlace 11 = .ok (.goto 4, 3) := by decide +kernel
theorem dX8_isPlace_14 : decode cX8_isPlace 14 = .ok (.iconst 0, 1) := by decide +kernel
theorem dX8_isPlace_15 : decode cX8_isPlace 15 = .ok (.ireturn, 1) := by decide +kernel
theorem dX8_between_0 : decode cX8_between 0 = .ok (.iload_n 1, 1) := by decide +kernel
theorem dX8_between_1 : decode cX8_between 1 = .ok (.invokestatic 72, 3) := by decide +kernel
theorem dX8_between_4 : decode cX8_between 4 = .ok (.ifCond .eq 24, 3) := by decide +kernel
theorem dX8_between_7 : decode cX8_between 7 = .ok (.iload_n 2, 1) := by decide +kernel
theorem dX8_between_8 : decode cX8_between 8 = .ok (.invokestatic 72, 3) := by decide +kernel
theorem dX8_between_11 : decode cX8_between 11 = .ok (.ifCond .eq 17, 3) := by decide +kernel
theorem dX8_between_14 : decode cX8_between 14 = .ok (.aload_n 0, 1) := by decide +kernel
theorem dX8_between_15 : decode cX8_between 15 = .ok (.getfield 15, 3) := by decide +kernel
theorem dX8_between_18 : decode cX8_between 18 = .ok (.iload_n 1, 1) := by decide +kernel
theorem dX8_between_19 : decode cX8_between 19 = .ok (.bipush 8, 2) := by decide +kernel
theorem dX8_between_21 : decode cX8_between 21 = .ok (.imul, 1) := by decide +kernel
theorem dX8_between_22 : decode cX8_between 22 = .ok (.iload_n 2, 1) := by decide +kernel
theorem dX8_between_23 : decode cX8_between 23 = .ok (.iadd, 1) := by decide +kernel
theorem dX8_between_24 : decode cX8_between 24 = .ok (.iaload, 1) := by decide +kernel
theorem dX8_between_25 : decode cX8_between 25 = .ok (.goto 5, 3) := by decide +kernel
theorem dX8_between_28 : decode cX8_between 28 = .ok (.ldc 27, 2) := by decide +kernel
theorem dX8_between_30 : decode cX8_between 30 = .ok (.ireturn, 1) := by decide +kernel
theorem dX8_shorten_0 : decode cX8_shorten 0 = .ok (.iconst 0, 1) := by decide +kernel
theorem dX8_shorten_1 : decode cX8_shorten 1 = .ok (.istore_n 2, 1) := by decide +kernel
theorem dX8_shorten_2 : decode cX8_shorten 2 = .ok (.iload_n 2, 1) := by decide +kernel
theorem dX8_shorten_3 : decode cX8_shorten 3 = .ok (.bipush 8, 2) := by decide +kernel
theorem dX8_shorten_5 : decode cX8_shorten 5 = .ok (.if_icmp .ge 75, 3) := by decide +kernel
theorem dX8_shorten_8 : decode cX8_shorten 8 = .ok (.aload_n 0, 1) := by decide +kernel
theorem dX8_shorten_9 : decode cX8_shorten 9 = .ok (.iload_n 2, 1) := by decide +kernel
theorem dX8_shorten_10 : decode cX8_shorten 10 = .ok (.iload_n 1, 1) := by decide +kernel
theorem dX8_shorten_11 : decode cX8_shorten 11 = .ok (.invokevirtual 69, 3) := by decide +kernel
theorem dX8_shorten_14 : decode cX8_shorten 14 = .ok (.istore_n 3, 1) := by decide +kernel
theorem dX8_shorten_15 : decode cX8_shorten 15 = .ok (.iconst 0, 1) := by decide +kernel
theorem dX8_shorten_16 : decode cX8_shorten 16 = .ok (.istore 4, 2) := by decide +kernel
theorem dX8_shorten_18 : decode cX8_shorten 18 = .ok (.iload_n 3, 1) := by decide +kernel
theorem dX8_shorten_19 : decode cX8_shorten 19 = .ok (.ldc 27, 2) := by decide +kernel
theorem dX8_shorten_21 : decode cX8_shorten 21 = .ok (.if_icmp .ge 53, 3) := by decide +kernel
theorem dX8_shorten_24 : decode cX8_shorten 24 = .ok (.iload 4, 2) := by decide +kernel
theorem dX8_shorten_26 : decode cX8_shorten 26 = .ok (.bipush 8, 2) := by decide +kernel
theorem dX8_shorten_28 : decode cX8_shorten 28 = .ok (.if_icmp .ge 46, 3) := by decide +kernel
theorem dX8_shorten_31 : decode cX8_shorten 31 = .ok (.iload_n 3, 1) := by decide +kernel
theorem dX8_shorten_32 : decode cX8_shorten 32 = .ok (.aload_n 0, 1) := by decide +kernel
theorem dX8_shorten_33 : decode cX8_shorten 33 = .ok (.iload_n 1, 1) := by decide +kernel
theorem dX8_shorten_34 : decode cX8_shorten 34 = .ok (.iload 4, 2) := by decide +kernel
theorem dX8_shorten_36 : decode cX8_shorten 36 = .ok (.invokevirtual 69, 3) := by decide +kernel
theorem dX8_shorten_39 : decode cX8_shorten 39 = .ok (.iadd, 1) := by decide +kernel
theorem dX8_shorten_40 : decode cX8_shorten 40 = .ok (.istore 5, 2) := by decide +kernel
theorem dX8_shorten_42 : decode cX8_shorten 42 = .ok (.iload 5, 2) := by decide +kernel
theorem dX8_shorten_44 : decode cX8_shorten 44 = .ok (.aload_n 0, 1) := by decide +kernel
theorem dX8_shorten_45 : decode cX8_shorten 45 = .ok (.iload_n 2, 1) := by decide +kernel
theorem dX8_shorten_46 : decode cX8_shorten 46 = .ok (.iload 4, 2) := by decide +kernel
theorem dX8_shorten_48 : decode cX8_shorten 48 = .ok (.invokevirtual 69, 3) := by decide +kernel
theorem dX8_shorten_51 : decode cX8_shorten 51 = .ok (.if_icmp .ge 17, 3) := by decide +kernel
theorem dX8_shorten_54 : decode cX8_shorten 54 = .ok (.aload_n 0, 1) := by decide +kernel
theorem dX8_shorten_55 : decode cX8_shorten 55 = .ok (.getfield 15, 3) := by decide +kernel
theorem dX8_shorten_58 : decode cX8_shorten 58 = .ok (.iload_n 2, 1) := by decide +kernel
theorem dX8_shorten_59 : decode cX8_shorten 59 = .ok (.bipush 8, 2) := by decide +kernel
theorem dX8_shorten_61 : decode cX8_shorten 61 = .ok (.imul, 1) := by decide +kernel
theorem dX8_shorten_62 : decode cX8_shorten 62 = .ok (.iload 4, 2) := by decide +kernel
theorem dX8_shorten_64 : decode cX8_shorten 64 = .ok (.iadd, 1) := by decide +kernel
theorem dX8_shorten_65 : decode cX8_shorten 65 = .ok (.iload 5, 2) := by decide +kernel
theorem dX8_shorten_67 : decode cX8_shorten 67 = .ok (.iastore, 1) := by decide +kernel
theorem dX8_shorten_68 : decode cX8_shorten 68 = .ok (.iinc 4 1, 3) := by decide +kernel
theorem dX8_shorten_71 : decode cX8_shorten 71 = .ok (.goto (-53), 3) := by decide +kernel
theorem dX8_shorten_74 : decode cX8_shorten 74 = .ok (.iinc 2 1, 3) := by decide +kernel
theorem dX8_shorten_77 : decode cX8_shorten 77 = .ok (.goto (-75), 3) := by decide +kernel
theorem dX8_shorten_80 : decode cX8_shorten 80 = .ok (.return_, 1) := by decide +kernel
theorem dX8_measure_0 : decode cX8_measure 0 = .ok (.aload_n 0, 1) := by decide +kernel
theorem dX8_measure_1 : decode cX8_measure 1 = .ok (.getfield 9, 3) := by decide +kernel
theorem dX8_measure_4 : decode cX8_measure 4 = .ok (.ldc 27, 2) := by decide +kernel
theorem dX8_measure_6 : decode cX8_measure 6 = .ok (.invokestatic 28, 3) := by decide +kernel
theorem dX8_measure_9 : decode cX8_measure 9 = .ok (.iconst 0, 1) := by decide +kernel
theorem dX8_measure_10 : decode cX8_measure 10 = .ok (.istore_n 2, 1) := by decide +kernel
theorem dX8_measure_11 : decode cX8_measure 11 = .ok (.iload_n 2, 1) := by decide +kernel
theorem dX8_measure_12 : decode cX8_measure 12 = .ok (.aload_n 1, 1) := by decide +kernel
theorem dX8_measure_13 : decode cX8_measure 13 = .ok (.getfield 34, 3) := by decide +kernel
theorem dX8_measure_16 : decode cX8_measure 16 = .ok (.if_icmp .ge 93, 3) := by decide +kernel
theorem dX8_measure_19 : decode cX8_measure 19 = .ok (.aload_n 1, 1) := by decide +kernel
theorem dX8_measure_20 : decode cX8_measure 20 = .ok (.getfield 40, 3) := by decide +kernel
theorem dX8_measure_23 : decode cX8_measure 23 = .ok (.iload_n 2, 1) := by decide +kernel
theorem dX8_measure_24 : decode cX8_measure 24 = .ok (.iaload, 1) := by decide +kernel
theorem dX8_measure_25 : decode cX8_measure 25 = .ok (.bipush 8, 2) := by decide +kernel
theorem dX8_measure_27 : decode cX8_measure 27 = .ok (.imul, 1) := by decide +kernel
theorem dX8_measure_28 : decode cX8_measure 28 = .ok (.aload_n 1, 1) := by decide +kernel
theorem dX8_measure_29 : decode cX8_measure 29 = .ok (.getfield 43, 3) := by decide +kernel
theorem dX8_measure_32 : decode cX8_measure 32 = .ok (.iload_n 2, 1) := by decide +kernel
theorem dX8_measure_33 : decode cX8_measure 33 = .ok (.iaload, 1) := by decide +kernel
theorem dX8_measure_34 : decode cX8_measure 34 = .ok (.iadd, 1) := by decide +kernel
theorem dX8_measure_35 : decode cX8_measure 35 = .ok (.istore_n 3, 1) := by decide +kernel
theorem dX8_measure_36 : decode cX8_measure 36 = .ok (.aload_n 1, 1) := by decide +kernel
theorem dX8_measure_37 : decode cX8_measure 37 = .ok (.getfield 43, 3) := by decide +kernel
theorem dX8_measure_40 : decode cX8_measure 40 = .ok (.iload_n 2, 1) := by decide +kernel
theorem dX8_measure_41 : decode cX8_measure 41 = .ok (.iaload, 1) := by decide +kernel
theorem dX8_measure_42 : decode cX8_measure 42 = .ok (.bipush 8, 2) := by decide +kernel
theorem dX8_measure_44 : decode cX8_measure 44 = .ok (.imul, 1) := by decide +kernel
theorem dX8_measure_45 : decode cX8_measure 45 = .ok (.aload_n 1, 1) := by decide +kernel
theorem dX8_measure_46 : decode cX8_measure 46 = .ok (.getfield 40, 3) := by decide +kernel
theorem dX8_measure_49 : decode cX8_measure 49 = .ok (.iload_n 2, 1) := by decide +kernel
theorem dX8_measure_50 : decode cX8_measure 50 = .ok (.iaload, 1) := by decide +kernel
theorem dX8_measure_51 : decode cX8_measure 51 = .ok (.iadd, 1) := by decide +kernel
theorem dX8_measure_52 : decode cX8_measure 52 = .ok (.istore 4, 2) := by decide +kernel
theorem dX8_measure_54 : decode cX8_measure 54 = .ok (.iload_n 3, 1) := by decide +kernel
theorem dX8_measure_55 : decode cX8_measure 55 = .ok (.invokestatic 46, 3) := by decide +kernel
theorem dX8_measure_58 : decode cX8_measure 58 = .ok (.ifCond .eq 45, 3) := by decide +kernel
theorem dX8_measure_61 : decode cX8_measure 61 = .ok (.iload 4, 2) := by decide +kernel
theorem dX8_measure_63 : decode cX8_measure 63 = .ok (.invokestatic 46, 3) := by decide +kernel
theorem dX8_measure_66 : decode cX8_measure 66 = .ok (.ifCond .eq 37, 3) := by decide +kernel
theorem dX8_measure_69 : decode cX8_measure 69 = .ok (.aload_n 0, 1) := by decide +kernel
theorem dX8_measure_70 : decode cX8_measure 70 = .ok (.getfield 9, 3) := by decide +kernel
theorem dX8_measure_73 : decode cX8_measure 73 = .ok (.iload_n 3, 1) := by decide +kernel
theorem dX8_measure_74 : decode cX8_measure 74 = .ok (.aload_n 0, 1) := by decide +kernel
theorem dX8_measure_75 : decode cX8_measure 75 = .ok (.getfield 9, 3) := by decide +kernel
theorem dX8_measure_78 : decode cX8_measure 78 = .ok (.iload_n 3, 1) := by decide +kernel
theorem dX8_measure_79 : decode cX8_measure 79 = .ok (.iaload, 1) := by decide +kernel
theorem dX8_measure_80 : decode cX8_measure 80 = .ok (.aload_n 1, 1) := by decide +kernel
theorem dX8_measure_81 : decode cX8_measure 81 = .ok (.getfield 50, 3) := by decide +kernel
theorem dX8_measure_84 : decode cX8_measure 84 = .ok (.iload_n 2, 1) := by decide +kernel
theorem dX8_measure_85 : decode cX8_measure 85 = .ok (.iaload, 1) := by decide +kernel
theorem dX8_measure_86 : decode cX8_measure 86 = .ok (.invokestatic 53, 3) := by decide +kernel
theorem dX8_measure_89 : decode cX8_measure 89 = .ok (.iastore, 1) := by decide +kernel
theorem dX8_measure_90 : decode cX8_measure 90 = .ok (.aload_n 0, 1) := by decide +kernel
theorem dX8_measure_91 : decode cX8_measure 91 = .ok (.getfield 9, 3) := by decide +kernel
theorem dX8_measure_94 : decode cX8_measure 94 = .ok (.iload 4, 2) := by decide +kernel
theorem dX8_measure_96 : decode cX8_measure 96 = .ok (.aload_n 0, 1) := by decide +kernel
theorem dX8_measure_97 : decode cX8_measure 97 = .ok (.getfield 9, 3) := by decide +kernel
theorem dX8_measure_100 : decode cX8_measure 100 = .ok (.iload_n 3, 1) := by decide +kernel
theorem dX8_measure_101 : decode cX8_measure 101 = .ok (.iaload, 1) := by decide +kernel
theorem dX8_measure_102 : decode cX8_measure 102 = .ok (.iastore, 1) := by decide +kernel
theorem dX8_measure_103 : decode cX8_measure 103 = .ok (.iinc 2 1, 3) := by decide +kernel
theorem dX8_measure_106 : decode cX8_measure 106 = .ok (.goto (-95), 3) := by decide +kernel
theorem dX8_measure_109 : decode cX8_measure 109 = .ok (.aload_n 0, 1) := by decide +kernel
theorem dX8_measure_110 : decode cX8_measure 110 = .ok (.getfield 9, 3) := by decide +kernel
theorem dX8_measure_113 : decode cX8_measure 113 = .ok (.iconst 0, 1) := by decide +kernel
theorem dX8_measure_114 : decode cX8_measure 114 = .ok (.aload_n 0, 1) := by decide +kernel
theorem dX8_measure_115 : decode cX8_measure 115 = .ok (.getfield 15, 3) := by decide +kernel
theorem dX8_measure_118 : decode cX8_measure 118 = .ok (.iconst 0, 1) := by decide +kernel
theorem dX8_measure_119 : decode cX8_measure 119 = .ok (.aload_n 0, 1) := by decide +kernel
theorem dX8_measure_120 : decode cX8_measure 120 = .ok (.getfield 15, 3) := by decide +kernel
theorem dX8_measure_123 : decode cX8_measure 123 = .ok (.arraylength, 1) := by decide +kernel
theorem dX8_measure_124 : decode cX8_measure 124 = .ok (.invokestatic 59, 3) := by decide +kernel
theorem dX8_measure_127 : decode cX8_measure 127 = .ok (.iconst 0, 1) := by decide +kernel
theorem dX8_measure_128 : decode cX8_measure 128 = .ok (.istore_n 2, 1) := by decide +kernel
theorem dX8_measure_129 : decode cX8_measure 129 = .ok (.iload_n 2, 1) := by decide +kernel
theorem dX8_measure_130 : decode cX8_measure 130 = .ok (.bipush 8, 2) := by decide +kernel
theorem dX8_measure_132 : decode cX8_measure 132 = .ok (.if_icmp .ge 21, 3) := by decide +kernel
theorem dX8_measure_135 : decode cX8_measure 135 = .ok (.aload_n 0, 1) := by decide +kernel
theorem dX8_measure_136 : decode cX8_measure 136 = .ok (.getfield 15, 3) := by decide +kernel
theorem dX8_measure_139 : decode cX8_measure 139 = .ok (.iload_n 2, 1) := by decide +kernel
theorem dX8_measure_140 : decode cX8_measure 140 = .ok (.bipush 8, 2) := by decide +kernel
theorem dX8_measure_142 : decode cX8_measure 142 = .ok (.imul, 1) := by decide +kernel
theorem dX8_measure_143 : decode cX8_measure 143 = .ok (.iload_n 2, 1) := by decide +kernel
theorem dX8_measure_144 : decode cX8_measure 144 = .ok (.iadd, 1) := by decide +kernel
theorem dX8_measure_145 : decode cX8_measure 145 = .ok (.iconst 0, 1) := by decide +kernel
theorem dX8_measure_146 : decode cX8_measure 146 = .ok (.iastore, 1) := by decide +kernel
theorem dX8_measure_147 : decode cX8_measure 147 = .ok (.iinc 2 1, 3) := by decide +kernel
theorem dX8_measure_150 : decode cX8_measure 150 = .ok (.goto (-21), 3) := by decide +kernel
theorem dX8_measure_153 : decode cX8_measure 153 = .ok (.iconst 0, 1) := by decide +kernel
theorem dX8_measure_154 : decode cX8_measure 154 = .ok (.istore_n 2, 1) := by decide +kernel
theorem dX8_measure_155 : decode cX8_measure 155 = .ok (.iload_n 2, 1) := by decide +kernel
theorem dX8_measure_156 : decode cX8_measure 156 = .ok (.bipush 8, 2) := by decide +kernel
theorem dX8_measure_158 : decode cX8_measure 158 = .ok (.if_icmp .ge 14, 3) := by decide +kernel
theorem dX8_measure_161 : decode cX8_measure 161 = .ok (.aload_n 0, 1) := by decide +kernel
theorem dX8_measure_162 : decode cX8_measure 162 = .ok (.iload_n 2, 1) := by decide +kernel
theorem dX8_measure_163 : decode cX8_measure 163 = .ok (.invokevirtual 65, 3) := by decide +kernel
theorem dX8_measure_166 : decode cX8_measure 166 = .ok (.iinc 2 1, 3) := by decide +kernel
theorem dX8_measure_169 : decode cX8_measure 169 = .ok (.goto (-14), 3) := by decide +kernel
theorem dX8_measure_172 : decode cX8_measure 172 = .ok (.return_, 1) := by decide +kernel
theorem dX8_cornersWithLanes_0 : decode cX8_cornersWithLanes 0 = .ok (.iconst 0, 1) := by decide +kernel
theorem dX8_cornersWithLanes_1 : decode cX8_cornersWithLanes 1 = .ok (.istore_n 2, 1) := by decide +kernel
theorem dX8_cornersWithLanes_2 : decode cX8_cornersWithLanes 2 = .ok (.iconst 0, 1) := by decide +kernel
theorem dX8_cornersWithLanes_3 : decode cX8_cornersWithLanes 3 = .ok (.istore_n 3, 1) := by decide +kernel
theorem dX8_cornersWithLanes_4 : decode cX8_cornersWithLanes 4 = .ok (.iload_n 3, 1) := by decide +kernel
theorem dX8_cornersWithLanes_5 : decode cX8_cornersWithLanes 5 = .ok (.aload_n 1, 1) := by decide +kernel
theorem dX8_cornersWithLanes_6 : decode cX8_cornersWithLanes 6 = .ok (.getfield 34, 3) := by decide +kernel
theorem dX8_cornersWithLanes_9 : decode cX8_cornersWithLanes 9 = .ok (.if_icmp .ge 29, 3) := by decide +kernel
theorem dX8_cornersWithLanes_12 : decode cX8_cornersWithLanes 12 = .ok (.iload_n 2, 1) := by decide +kernel
theorem dX8_cornersWithLanes_13 : decode cX8_cornersWithLanes 13 = .ok (.iconst 1, 1) := by decide +kernel
theorem dX8_cornersWithLanes_14 : decode cX8_cornersWithLanes 14 = .ok (.aload_n 1, 1) := by decide +kernel
theorem dX8_cornersWithLanes_15 : decode cX8_cornersWithLanes 15 = .ok (.getfield 40, 3) := by decide +kernel
theorem dX8_cornersWithLanes_18 : decode cX8_cornersWithLanes 18 = .ok (.iload_n 3, 1) := by decide +kernel
theorem dX8_cornersWithLanes_19 : decode cX8_cornersWithLanes 19 = .ok (.iaload, 1) := by decide +kernel
theorem dX8_cornersWithLanes_20 : decode cX8_cornersWithLanes 20 = .ok (.ishl, 1) := by decide +kernel
theorem dX8_cornersWithLanes_21 : decode cX8_cornersWithLanes 21 = .ok (.iconst 1, 1) := by decide +kernel
theorem dX8_cornersWithLanes_22 : decode cX8_cornersWithLanes 22 = .ok (.aload_n 1, 1) := by decide +kernel
theorem dX8_cornersWithLanes_23 : decode cX8_cornersWithLanes 23 = .ok (.getfield 43, 3) := by decide +kernel
theorem dX8_cornersWithLanes_26 : decode cX8_cornersWithLanes 26 = .ok (.iload_n 3, 1) := by decide +kernel
theorem dX8_cornersWithLanes_27 : decode cX8_cornersWithLanes 27 = .ok (.iaload, 1) := by decide +kernel
theorem dX8_cornersWithLanes_28 : decode cX8_cornersWithLanes 28 = .ok (.ishl, 1) := by decide +kernel
theorem dX8_cornersWithLanes_29 : decode cX8_cornersWithLanes 29 = .ok (.ior, 1) := by decide +kernel
theorem dX8_cornersWithLanes_30 : decode cX8_cornersWithLanes 30 = .ok (.ior, 1) := by decide +kernel
theorem dX8_cornersWithLanes_31 : decode cX8_cornersWithLanes 31 = .ok (.istore_n 2, 1) := by decide +kernel
theorem dX8_cornersWithLanes_32 : decode cX8_cornersWithLanes 32 = .ok (.iinc 3 1, 3) := by decide +kernel
theorem dX8_cornersWithLanes_35 : decode cX8_cornersWithLanes 35 = .ok (.goto (-31), 3) := by decide +kernel
theorem dX8_cornersWithLanes_38 : decode cX8_cornersWithLanes 38 = .ok (.iload_n 2, 1) := by decide +kernel
theorem dX8_cornersWithLanes_39 : decode cX8_cornersWithLanes 39 = .ok (.ireturn, 1) := by decide +kernel
theorem dX8_meets_0 : decode cX8_meets 0 = .ok (.iconst 0, 1) := by decide +kernel
theorem dX8_meets_1 : decode cX8_meets 1 = .ok (.istore_n 3, 1) := by decide +kernel
theorem dX8_meets_2 : decode cX8_meets 2 = .ok (.iload_n 3, 1) := by decide +kernel
theorem dX8_meets_3 : decode cX8_meets 3 = .ok (.aload_n 2, 1) := by decide +kernel
theorem dX8_meets_4 : decode cX8_meets 4 = .ok (.arraylength, 1) := by decide +kernel
theorem dX8_meets_5 : decode cX8_meets 5 = .ok (.if_icmp .ge 23, 3) := by decide +kernel
theorem dX8_meets_8 : decode cX8_meets 8 = .ok (.aload_n 0, 1) := by decide +kernel
theorem dX8_meets_9 : decode cX8_meets 9 = .ok (.iload_n 1, 1) := by decide +kernel
theorem dX8_meets_10 : decode cX8_meets 10 = .ok (.aload_n 2, 1) := by decide +kernel
theorem dX8_meets_11 : decode cX8_meets 11 = .ok (.iload_n 3, 1) := by decide +kernel
theorem dX8_meets_12 : decode cX8_meets 12 = .ok (.iaload, 1) := by decide +kernel
theorem dX8_meets_13 : decode cX8_meets 13 = .ok (.invokevirtual 69, 3) := by decide +kernel
theorem dX8_meets_16 : decode cX8_meets 16 = .ok (.iload_n 3, 1) := by decide +kernel
theorem dX8_meets_17 : decode cX8_meets 17 = .ok (.if_icmp .gt 5, 3) := by decide +kernel
theorem dX8_meets_20 : decode cX8_meets 20 = .ok (.iload_n 3, 1) := by decide +kernel
theorem dX8_meets_21 : decode cX8_meets 21 = .ok (.ireturn, 1) := by decide +kernel
theorem dX8_meets_22 : decode cX8_meets 22 = .ok (.iinc 3 1, 3) := by decide +kernel
theorem dX8_meets_25 : decode cX8_meets 25 = .ok (.goto (-23), 3) := by decide +kernel
theorem dX8_meets_28 : decode cX8_meets 28 = .ok (.ldc 27, 2) := by decide +kernel
theorem dX8_meets_30 : decode cX8_meets 30 = .ok (.ireturn, 1) := by decide +kernel
theorem dX8_slow_0 : decode cX8_slow 0 = .ok (.iconst 0, 1) := by decide +kernel
theorem dX8_slow_1 : decode cX8_slow 1 = .ok (.istore_n 2, 1) := by decide +kernel
theorem dX8_slow_2 : decode cX8_slow 2 = .ok (.iload_n 2, 1) := by decide +kernel
theorem dX8_slow_3 : decode cX8_slow 3 = .ok (.bipush 8, 2) := by decide +kernel
theorem dX8_slow_5 : decode cX8_slow 5 = .ok (.if_icmp .ge 30, 3) := by decide +kernel
theorem dX8_slow_8 : decode cX8_slow 8 = .ok (.aload_n 0, 1) := by decide +kernel
theorem dX8_slow_9 : decode cX8_slow 9 = .ok (.getfield 24, 3) := by decide +kernel
theorem dX8_slow_12 : decode cX8_slow 12 = .ok (.iload_n 2, 1) := by decide +kernel
theorem dX8_slow_13 : decode cX8_slow 13 = .ok (.aload_n 0, 1) := by decide +kernel
theorem dX8_slow_14 : decode cX8_slow 14 = .ok (.getfield 24, 3) := by decide +kernel
theorem dX8_slow_17 : decode cX8_slow 17 = .ok (.iload_n 2, 1) := by decide +kernel
theorem dX8_slow_18 : decode cX8_slow 18 = .ok (.iaload, 1) := by decide +kernel
theorem dX8_slow_19 : decode cX8_slow 19 = .ok (.aload_n 0, 1) := by decide +kernel
theorem dX8_slow_20 : decode cX8_slow 20 = .ok (.iload_n 2, 1) := by decide +kernel
theorem dX8_slow_21 : decode cX8_slow 21 = .ok (.aload_n 1, 1) := by decide +kernel
theorem dX8_slow_22 : decode cX8_slow 22 = .ok (.invokevirtual 75, 3) := by decide +kernel
theorem dX8_slow_25 : decode cX8_slow 25 = .ok (.invokestatic 79, 3) := by decide +kernel
theorem dX8_slow_28 : decode cX8_slow 28 = .ok (.iastore, 1) := by decide +kernel
theorem dX8_slow_29 : decode cX8_slow 29 = .ok (.iinc 2 1, 3) := by decide +kernel
theorem dX8_slow_32 : decode cX8_slow 32 = .ok (.goto (-30), 3) := by decide +kernel
theorem dX8_slow_35 : decode cX8_slow 35 = .ok (.return_, 1) := by decide +kernel
theorem dX8_quickest_0 : decode cX8_quickest 0 = .ok (.iconst 0, 1) := by decide +kernel
theorem dX8_quickest_1 : decode cX8_quickest 1 = .ok (.istore_n 1, 1) := by decide +kernel
theorem dX8_quickest_2 : decode cX8_quickest 2 = .ok (.iconst 1, 1) := by decide +kernel
theorem dX8_quickest_3 : decode cX8_quickest 3 = .ok (.istore_n 2, 1) := by decide +kernel
theorem dX8_quickest_4 : decode cX8_quickest 4 = .ok (.iload_n 2, 1) := by decide +kernel
theorem dX8_quickest_5 : decode cX8_quickest 5 = .ok (.bipush 8, 2) := by decide +kernel
theorem dX8_quickest_7 : decode cX8_quickest 7 = .ok (.if_icmp .ge 26, 3) := by decide +kernel
theorem dX8_quickest_10 : decode cX8_quickest 10 = .ok (.aload_n 0, 1) := by decide +kernel
theorem dX8_quickest_11 : decode cX8_quickest 11 = .ok (.getfield 24, 3) := by decide +kernel
theorem dX8_quickest_14 : decode cX8_quickest 14 = .ok (.iload_n 2, 1) := by decide +kernel
theorem dX8_quickest_15 : decode cX8_quickest 15 = .ok (.iaload, 1) := by decide +kernel
theorem dX8_quickest_16 : decode cX8_quickest 16 = .ok (.aload_n 0, 1) := by decide +kernel
theorem dX8_quickest_17 : decode cX8_quickest 17 = .ok (.getfield 24, 3) := by decide +kernel
theorem dX8_quickest_20 : decode cX8_quickest 20 = .ok (.iload_n 1, 1) := by decide +kernel
theorem dX8_quickest_21 : decode cX8_quickest 21 = .ok (.iaload, 1) := by decide +kernel
theorem dX8_quickest_22 : decode cX8_quickest 22 = .ok (.if_icmp .ge 5, 3) := by decide +kernel
theorem dX8_quickest_25 : decode cX8_quickest 25 = .ok (.iload_n 2, 1) := by decide +kernel
theorem dX8_quickest_26 : decode cX8_quickest 26 = .ok (.istore_n 1, 1) := by decide +kernel
theorem dX8_quickest_27 : decode cX8_quickest 27 = .ok (.iinc 2 1, 3) := by decide +kernel
theorem dX8_quickest_30 : decode cX8_quickest 30 = .ok (.goto (-26), 3) := by decide +kernel
theorem dX8_quickest_33 : decode cX8_quickest 33 = .ok (.iload_n 1, 1) := by decide +kernel
theorem dX8_quickest_34 : decode cX8_quickest 34 = .ok (.ireturn, 1) := by decide +kernel
theorem dJ6_bitCount_0f7a4_0 : decode cJ6_bitCount_0f7a4 0 = .ok (.iload_n 0, 1) := by decide +kernel
theorem dJ6_bitCount_0f7a4_1 : decode cJ6_bitCount_0f7a4 1 = .ok (.iload_n 0, 1) := by decide +kernel
theorem dJ6_bitCount_0f7a4_2 : decode cJ6_bitCount_0f7a4 2 = .ok (.iconst 1, 1) := by decide +kernel
theorem dJ6_bitCount_0f7a4_3 : decode cJ6_bitCount_0f7a4 3 = .ok (.iushr, 1) := by decide +kernel
theorem dJ6_bitCount_0f7a4_4 : decode cJ6_bitCount_0f7a4 4 = .ok (.ldc_w 265, 3) := by decide +kernel
theorem dJ6_bitCount_0f7a4_7 : decode cJ6_bitCount_0f7a4 7 = .ok (.iand, 1) := by decide +kernel
theorem dJ6_bitCount_0f7a4_8 : decode cJ6_bitCount_0f7a4 8 = .ok (.isub, 1) := by decide +kernel
theorem dJ6_bitCount_0f7a4_9 : decode cJ6_bitCount_0f7a4 9 = .ok (.istore_n 0, 1) := by decide +kernel
theorem dJ6_bitCount_0f7a4_10 : decode cJ6_bitCount_0f7a4 10 = .ok (.iload_n 0, 1) := by decide +kernel
theorem dJ6_bitCount_0f7a4_11 : decode cJ6_bitCount_0f7a4 11 = .ok (.ldc_w 266, 3) := by decide +kernel
theorem dJ6_bitCount_0f7a4_14 : decode cJ6_bitCount_0f7a4 14 = .ok (.iand, 1) := by decide +kernel
theorem dJ6_bitCount_0f7a4_15 : decode cJ6_bitCount_0f7a4 15 = .ok (.iload_n 0, 1) := by decide +kernel
theorem dJ6_bitCount_0f7a4_16 : decode cJ6_bitCount_0f7a4 16 = .ok (.iconst 2, 1) := by decide +kernel
theorem dJ6_bitCount_0f7a4_17 : decode cJ6_bitCount_0f7a4 17 = .ok (.iushr, 1) := by decide +kernel
theorem dJ6_bitCount_0f7a4_18 : decode cJ6_bitCount_0f7a4 18 = .ok (.ldc_w 266, 3) := by decide +kernel
theorem dJ6_bitCount_0f7a4_21 : decode cJ6_bitCount_0f7a4 21 = .ok (.iand, 1) := by decide +kernel
theorem dJ6_bitCount_0f7a4_22 : decode cJ6_bitCount_0f7a4 22 = .ok (.iadd, 1) := by decide +kernel
theorem dJ6_bitCount_0f7a4_23 : decode cJ6_bitCount_0f7a4 23 = .ok (.istore_n 0, 1) := by decide +kernel
theorem dJ6_bitCount_0f7a4_24 : decode cJ6_bitCount_0f7a4 24 = .ok (.iload_n 0, 1) := by decide +kernel
theorem dJ6_bitCount_0f7a4_25 : decode cJ6_bitCount_0f7a4 25 = .ok (.iload_n 0, 1) := by decide +kernel
theorem dJ6_bitCount_0f7a4_26 : decode cJ6_bitCount_0f7a4 26 = .ok (.iconst 4, 1) := by decide +kernel
theorem dJ6_bitCount_0f7a4_27 : decode cJ6_bitCount_0f7a4 27 = .ok (.iushr, 1) := by decide +kernel
theorem dJ6_bitCount_0f7a4_28 : decode cJ6_bitCount_0f7a4 28 = .ok (.iadd, 1) := by decide +kernel
theorem dJ6_bitCount_0f7a4_29 : decode cJ6_bitCount_0f7a4 29 = .ok (.ldc_w 267, 3) := by decide +kernel
theorem dJ6_bitCount_0f7a4_32 : decode cJ6_bitCount_0f7a4 32 = .ok (.iand, 1) := by decide +kernel
theorem dJ6_bitCount_0f7a4_33 : decode cJ6_bitCount_0f7a4 33 = .ok (.istore_n 0, 1) := by decide +kernel
theorem dJ6_bitCount_0f7a4_34 : decode cJ6_bitCount_0f7a4 34 = .ok (.iload_n 0, 1) := by decide +kernel
theorem dJ6_bitCount_0f7a4_35 : decode cJ6_bitCount_0f7a4 35 = .ok (.iload_n 0, 1) := by decide +kernel
theorem dJ6_bitCount_0f7a4_36 : decode cJ6_bitCount_0f7a4 36 = .ok (.bipush 8, 2) := by decide +kernel
theorem dJ6_bitCount_0f7a4_38 : decode cJ6_bitCount_0f7a4 38 = .ok (.iushr, 1) := by decide +kernel
theorem dJ6_bitCount_0f7a4_39 : decode cJ6_bitCount_0f7a4 39 = .ok (.iadd, 1) := by decide +kernel
theorem dJ6_bitCount_0f7a4_40 : decode cJ6_bitCount_0f7a4 40 = .ok (.istore_n 0, 1) := by decide +kernel
theorem dJ6_bitCount_0f7a4_41 : decode cJ6_bitCount_0f7a4 41 = .ok (.iload_n 0, 1) := by decide +kernel
theorem dJ6_bitCount_0f7a4_42 : decode cJ6_bitCount_0f7a4 42 = .ok (.iload_n 0, 1) := by decide +kernel
theorem dJ6_bitCount_0f7a4_43 : decode cJ6_bitCount_0f7a4 43 = .ok (.bipush 16, 2) := by decide +kernel
theorem dJ6_bitCount_0f7a4_45 : decode cJ6_bitCount_0f7a4 45 = .ok (.iushr, 1) := by decide +kernel
theorem dJ6_bitCount_0f7a4_46 : decode cJ6_bitCount_0f7a4 46 = .ok (.iadd, 1) := by decide +kernel
theorem dJ6_bitCount_0f7a4_47 : decode cJ6_bitCount_0f7a4 47 = .ok (.istore_n 0, 1) := by decide +kernel
theorem dJ6_bitCount_0f7a4_48 : decode cJ6_bitCount_0f7a4 48 = .ok (.iload_n 0, 1) := by decide +kernel
theorem dJ6_bitCount_0f7a4_49 : decode cJ6_bitCount_0f7a4 49 = .ok (.bipush 63, 2) := by decide +kernel
theorem dJ6_bitCount_0f7a4_51 : decode cJ6_bitCount_0f7a4 51 = .ok (.iand, 1) := by decide +kernel
theorem dJ6_bitCount_0f7a4_52 : decode cJ6_bitCount_0f7a4 52 = .ok (.ireturn, 1) := by decide +kernel
theorem dX8_cornersWithin_0 : decode cX8_cornersWithin 0 = .ok (.iconst 0, 1) := by decide +kernel
theorem dX8_cornersWithin_1 : decode cX8_cornersWithin 1 = .ok (.istore_n 3, 1) := by decide +kernel
theorem dX8_cornersWithin_2 : decode cX8_cornersWithin 2 = .ok (.iconst 0, 1) := by decide +kernel
theorem dX8_cornersWithin_3 : decode cX8_cornersWithin 3 = .ok (.istore 4, 2) := by decide +kernel
theorem dX8_cornersWithin_5 : decode cX8_cornersWithin 5 = .ok (.iload 4, 2) := by decide +kernel
theorem dX8_cornersWithin_7 : decode cX8_cornersWithin 7 = .ok (.bipush 8, 2) := by decide +kernel
theorem dX8_cornersWithin_9 : decode cX8_cornersWithin 9 = .ok (.if_icmp .ge 27, 3) := by decide +kernel
theorem dX8_cornersWithin_12 : decode cX8_cornersWithin 12 = .ok (.aload_n 0, 1) := by decide +kernel
theorem dX8_cornersWithin_13 : decode cX8_cornersWithin 13 = .ok (.iload_n 2, 1) := by decide +kernel
theorem dX8_cornersWithin_14 : decode cX8_cornersWithin 14 = .ok (.iload 4, 2) := by decide +kernel
theorem dX8_cornersWithin_16 : decode cX8_cornersWithin 16 = .ok (.invokevirtual 69, 3) := by decide +kernel
theorem dX8_cornersWithin_19 : decode cX8_cornersWithin 19 = .ok (.iload_n 1, 1) := by decide +kernel
theorem dX8_cornersWithin_20 : decode cX8_cornersWithin 20 = .ok (.if_icmp .gt 10, 3) := by decide +kernel
theorem dX8_cornersWithin_23 : decode cX8_cornersWithin 23 = .ok (.iload_n 3, 1) := by decide +kernel
theorem dX8_cornersWithin_24 : decode cX8_cornersWithin 24 = .ok (.iconst 1, 1) := by decide +kernel
theorem dX8_cornersWithin_25 : decode cX8_cornersWithin 25 = .ok (.iload 4, 2) := by decide +kernel
theorem dX8_cornersWithin_27 : decode cX8_cornersWithin 27 = .ok (.ishl, 1) := by decide +kernel
theorem dX8_cornersWithin_28 : decode cX8_cornersWithin 28 = .ok (.ior, 1) := by decide +kernel
theorem dX8_cornersWithin_29 : decode cX8_cornersWithin 29 = .ok (.istore_n 3, 1) := by decide +kernel
theorem dX8_cornersWithin_30 : decode cX8_cornersWithin 30 = .ok (.iinc 4 1, 3) := by decide +kernel
theorem dX8_cornersWithin_33 : decode cX8_cornersWithin 33 = .ok (.goto (-28), 3) := by decide +kernel
theorem dX8_cornersWithin_36 : decode cX8_cornersWithin 36 = .ok (.iload_n 3, 1) := by decide +kernel
theorem dX8_cornersWithin_37 : decode cX8_cornersWithin 37 = .ok (.ireturn, 1) := by decide +kernel
theorem dX8_doCover_0 : decode cX8_doCover 0 = .ok (.iconst 0, 1) := by decide +kernel
theorem dX8_doCover_1 : decode cX8_doCover 1 = .ok (.istore_n 3, 1) := by decide +kernel
theorem dX8_doCover_2 : decode cX8_doCover 2 = .ok (.iconst 0, 1) := by decide +kernel
theorem dX8_doCover_3 : decode cX8_doCover 3 = .ok (.istore 4, 2) := by decide +kernel
theorem dX8_doCover_5 : decode cX8_doCover 5 = .ok (.iload 4, 2) := by decide +kernel
theorem dX8_doCover_7 : decode cX8_doCover 7 = .ok (.bipush 8, 2) := by decide +kernel
theorem dX8_doCover_9 : decode cX8_doCover 9 = .ok (.if_icmp .ge 29, 3) := by decide +kernel
theorem dX8_doCover_12 : decode cX8_doCover 12 = .ok (.iload_n 1, 1) := by decide +kernel
theorem dX8_doCover_13 : decode cX8_doCover 13 = .ok (.iload 4, 2) := by decide +kernel
theorem dX8_doCover_15 : decode cX8_doCover 15 = .ok (.ishr, 1) := by decide +kernel
theorem dX8_doCover_16 : decode cX8_doCover 16 = .ok (.iconst 1, 1) := by decide +kernel
theorem dX8_doCover_17 : decode cX8_doCover 17 = .ok (.iand, 1) := by decide +kernel
theorem dX8_doCover_18 : decode cX8_doCover 18 = .ok (.iconst 1, 1) := by decide +kernel
theorem dX8_doCover_19 : decode cX8_doCover 19 = .ok (.if_icmp .ne 13, 3) := by decide +kernel
theorem dX8_doCover_22 : decode cX8_doCover 22 = .ok (.iload_n 3, 1) := by decide +kernel
theorem dX8_doCover_23 : decode cX8_doCover 23 = .ok (.aload_n 0, 1) := by decide +kernel
theorem dX8_doCover_24 : decode cX8_doCover 24 = .ok (.getfield 18, 3) := by decide +kernel
theorem dX8_doCover_27 : decode cX8_doCover 27 = .ok (.iload 4, 2) := by decide +kernel
theorem dX8_doCover_29 : decode cX8_doCover 29 = .ok (.iaload, 1) := by decide +kernel
theorem dX8_doCover_30 : decode cX8_doCover 30 = .ok (.ior, 1) := by decide +kernel
theorem dX8_doCover_31 : decode cX8_doCover 31 = .ok (.istore_n 3, 1) := by decide +kernel
theorem dX8_doCover_32 : decode cX8_doCover 32 = .ok (.iinc 4 1, 3) := by decide +kernel
theorem dX8_doCover_35 : decode cX8_doCover 35 = .ok (.goto (-30), 3) := by decide +kernel
theorem dX8_doCover_38 : decode cX8_doCover 38 = .ok (.iload_n 2, 1) := by decide +kernel
theorem dX8_doCover_39 : decode cX8_doCover 39 = .ok (.iload_n 3, 1) := by decide +kernel
theorem dX8_doCover_40 : decode cX8_doCover 40 = .ok (.iconst (-1), 1) := by decide +kernel
theorem dX8_doCover_41 : decode cX8_doCover 41 = .ok (.ixor, 1) := by decide +kernel
theorem dX8_doCover_42 : decode cX8_doCover 42 = .ok (.iand, 1) := by decide +kernel
theorem dX8_doCover_43 : decode cX8_doCover 43 = .ok (.ifCond .ne 7, 3) := by decide +kernel
theorem dX8_doCover_46 : decode cX8_doCover 46 = .ok (.iconst 1, 1) := by decide +kernel
theorem dX8_doCover_47 : decode cX8_doCover 47 = .ok (.goto 4, 3) := by decide +kernel
theorem dX8_doCover_50 : decode cX8_doCover 50 = .ok (.iconst 0, 1) := by decide +kernel
theorem dX8_doCover_51 : decode cX8_doCover 51 = .ok (.ireturn, 1) := by decide +kernel
theorem dX8_fewestPosts_0 : decode cX8_fewestPosts 0 = .ok (.iconst 0, 1) := by decide +kernel
theorem dX8_fewestPosts_1 : decode cX8_fewestPosts 1 = .ok (.istore_n 3, 1) := by decide +kernel
theorem dX8_fewestPosts_2 : decode cX8_fewestPosts 2 = .ok (.iload_n 3, 1) := by decide +kernel
theorem dX8_fewestPosts_3 : decode cX8_fewestPosts 3 = .ok (.bipush 8, 2) := by decide +kernel
theorem dX8_fewestPosts_5 : decode cX8_fewestPosts 5 = .ok (.if_icmp .ge 21, 3) := by decide +kernel
theorem dX8_fewestPosts_8 : decode cX8_fewestPosts 8 = .ok (.aload_n 0, 1) := by decide +kernel
theorem dX8_fewestPosts_9 : decode cX8_fewestPosts 9 = .ok (.getfield 18, 3) := by decide +kernel
theorem dX8_fewestPosts_12 : decode cX8_fewestPosts 12 = .ok (.iload_n 3, 1) := by decide +kernel
theorem dX8_fewestPosts_13 : decode cX8_fewestPosts 13 = .ok (.aload_n 0, 1) := by decide +kernel
theorem dX8_fewestPosts_14 : decode cX8_fewestPosts 14 = .ok (.iload_n 1, 1) := by decide +kernel
theorem dX8_fewestPosts_15 : decode cX8_fewestPosts 15 = .ok (.iload_n 3, 1) := by decide +kernel
theorem dX8_fewestPosts_16 : decode cX8_fewestPosts 16 = .ok (.invokevirtual 82, 3) := by decide +kernel
theorem dX8_fewestPosts_19 : decode cX8_fewestPosts 19 = .ok (.iastore, 1) := by decide +kernel
theorem dX8_fewestPosts_20 : decode cX8_fewestPosts 20 = .ok (.iinc 3 1, 3) := by decide +kernel
theorem dX8_fewestPosts_23 : decode cX8_fewestPosts 23 = .ok (.goto (-21), 3) := by decide +kernel
theorem dX8_fewestPosts_26 : decode cX8_fewestPosts 26 = .ok (.sipush 255, 3) := by decide +kernel
theorem dX8_fewestPosts_29 : decode cX8_fewestPosts 29 = .ok (.istore_n 3, 1) := by decide +kernel
theorem dX8_fewestPosts_30 : decode cX8_fewestPosts 30 = .ok (.iconst 0, 1) := by decide +kernel
theorem dX8_fewestPosts_31 : decode cX8_fewestPosts 31 = .ok (.istore 4, 2) := by decide +kernel
theorem dX8_fewestPosts_33 : decode cX8_fewestPosts 33 = .ok (.iload 4, 2) := by decide +kernel
theorem dX8_fewestPosts_35 : decode cX8_fewestPosts 35 = .ok (.sipush 256, 3) := by decide +kernel
theorem dX8_fewestPosts_38 : decode cX8_fewestPosts 38 = .ok (.if_icmp .ge 34, 3) := by decide +kernel
theorem dX8_fewestPosts_41 : decode cX8_fewestPosts 41 = .ok (.iload 4, 2) := by decide +kernel
theorem dX8_fewestPosts_43 : decode cX8_fewestPosts 43 = .ok (.invokestatic 85, 3) := by decide +kernel
theorem dX8_fewestPosts_46 : decode cX8_fewestPosts 46 = .ok (.iload_n 3, 1) := by decide +kernel
theorem dX8_fewestPosts_47 : decode cX8_fewestPosts 47 = .ok (.invokestatic 85, 3) := by decide +kernel
theorem dX8_fewestPosts_50 : decode cX8_fewestPosts 50 = .ok (.if_icmp .ge 16, 3) := by decide +kernel
theorem dX8_fewestPosts_53 : decode cX8_fewestPosts 53 = .ok (.aload_n 0, 1) := by decide +kernel
theorem dX8_fewestPosts_54 : decode cX8_fewestPosts 54 = .ok (.iload 4, 2) := by decide +kernel
theorem dX8_fewestPosts_56 : decode cX8_fewestPosts 56 = .ok (.iload_n 2, 1) := by decide +kernel
theorem dX8_fewestPosts_57 : decode cX8_fewestPosts 57 = .ok (.invokevirtual 91, 3) := by decide +kernel
theorem dX8_fewestPosts_60 : decode cX8_fewestPosts 60 = .ok (.ifCond .eq 6, 3) := by decide +kernel
theorem dX8_fewestPosts_63 : decode cX8_fewestPosts 63 = .ok (.iload 4, 2) := by decide +kernel
theorem dX8_fewestPosts_65 : decode cX8_fewestPosts 65 = .ok (.istore_n 3, 1) := by decide +kernel
theorem dX8_fewestPosts_66 : decode cX8_fewestPosts 66 = .ok (.iinc 4 1, 3) := by decide +kernel
theorem dX8_fewestPosts_69 : decode cX8_fewestPosts 69 = .ok (.goto (-36), 3) := by decide +kernel
theorem dX8_fewestPosts_72 : decode cX8_fewestPosts 72 = .ok (.iload_n 3, 1) := by decide +kernel
theorem dX8_fewestPosts_73 : decode cX8_fewestPosts 73 = .ok (.ireturn, 1) := by decide +kernel
theorem dX8_nearestNamed_0 : decode cX8_nearestNamed 0 = .ok (.iconst (-1), 1) := by decide +kernel
theorem dX8_nearestNamed_1 : decode cX8_nearestNamed 1 = .ok (.istore 4, 2) := by decide +kernel
theorem dX8_nearestNamed_3 : decode cX8_nearestNamed 3 = .ok (.ldc 27, 2) := by decide +kernel
theorem dX8_nearestNamed_5 : decode cX8_nearestNamed 5 = .ok (.istore 5, 2) := by decide +kernel
theorem dX8_nearestNamed_7 : decode cX8_nearestNamed 7 = .ok (.iconst 0, 1) := by decide +kernel
theorem dX8_nearestNamed_8 : decode cX8_nearestNamed 8 = .ok (.istore 6, 2) := by decide +kernel
theorem dX8_nearestNamed_10 : decode cX8_nearestNamed 10 = .ok (.iload 6, 2) := by decide +kernel
theorem dX8_nearestNamed_12 : decode cX8_nearestNamed 12 = .ok (.aload_n 1, 1) := by decide +kernel
theorem dX8_nearestNamed_13 : decode cX8_nearestNamed 13 = .ok (.getfield 34, 3) := by decide +kernel
theorem dX8_nearestNamed_16 : decode cX8_nearestNamed 16 = .ok (.if_icmp .ge 64, 3) := by decide +kernel
theorem dX8_nearestNamed_19 : decode cX8_nearestNamed 19 = .ok (.aload_n 1, 1) := by decide +kernel
theorem dX8_nearestNamed_20 : decode cX8_nearestNamed 20 = .ok (.getfield 95, 3) := by decide +kernel
theorem dX8_nearestNamed_23 : decode cX8_nearestNamed 23 = .ok (.iload 6, 2) := by decide +kernel
theorem dX8_nearestNamed_25 : decode cX8_nearestNamed 25 = .ok (.iaload, 1) := by decide +kernel
theorem dX8_nearestNamed_26 : decode cX8_nearestNamed 26 = .ok (.iload_n 3, 1) := by decide +kernel
theorem dX8_nearestNamed_27 : decode cX8_nearestNamed 27 = .ok (.if_icmp .ne 47, 3) := by decide +kernel
theorem dX8_nearestNamed_30 : decode cX8_nearestNamed 30 = .ok (.aload_n 0, 1) := by decide +kernel
theorem dX8_nearestNamed_31 : decode cX8_nearestNamed 31 = .ok (.iload_n 2, 1) := by decide +kernel
theorem dX8_nearestNamed_32 : decode cX8_nearestNamed 32 = .ok (.aload_n 1, 1) := by decide +kernel
theorem dX8_nearestNamed_33 : decode cX8_nearestNamed 33 = .ok (.getfield 40, 3) := by decide +kernel
theorem dX8_nearestNamed_36 : decode cX8_nearestNamed 36 = .ok (.iload 6, 2) := by decide +kernel
theorem dX8_nearestNamed_38 : decode cX8_nearestNamed 38 = .ok (.iaload, 1) := by decide +kernel
theorem dX8_nearestNamed_39 : decode cX8_nearestNamed 39 = .ok (.invokevirtual 69, 3) := by decide +kernel
theorem dX8_nearestNamed_42 : decode cX8_nearestNamed 42 = .ok (.aload_n 0, 1) := by decide +kernel
theorem dX8_nearestNamed_43 : decode cX8_nearestNamed 43 = .ok (.iload_n 2, 1) := by decide +kernel
theorem dX8_nearestNamed_44 : decode cX8_nearestNamed 44 = .ok (.aload_n 1, 1) := by decide +kernel
theorem dX8_nearestNamed_45 : decode cX8_nearestNamed 45 = .ok (.getfield 43, 3) := by decide +kernel
theorem dX8_nearestNamed_48 : decode cX8_nearestNamed 48 = .ok (.iload 6, 2) := by decide +kernel
theorem dX8_nearestNamed_50 : decode cX8_nearestNamed 50 = .ok (.iaload, 1) := by decide +kernel
theorem dX8_nearestNamed_51 : decode cX8_nearestNamed 51 = .ok (.invokevirtual 69, 3) := by decide +kernel
theorem dX8_nearestNamed_54 : decode cX8_nearestNamed 54 = .ok (.invokestatic 53, 3) := by decide +kernel
theorem dX8_nearestNamed_57 : decode cX8_nearestNamed 57 = .ok (.istore 7, 2) := by decide +kernel
theorem dX8_nearestNamed_59 : decode cX8_nearestNamed 59 = .ok (.iload 7, 2) := by decide +kernel
theorem dX8_nearestNamed_61 : decode cX8_nearestNamed 61 = .ok (.iload 5, 2) := by decide +kernel
theorem dX8_nearestNamed_63 : decode cX8_nearestNamed 63 = .ok (.if_icmp .ge 11, 3) := by decide +kernel
theorem dX8_nearestNamed_66 : decode cX8_nearestNamed 66 = .ok (.iload 7, 2) := by decide +kernel
theorem dX8_nearestNamed_68 : decode cX8_nearestNamed 68 = .ok (.istore 5, 2) := by decide +kernel
theorem dX8_nearestNamed_70 : decode cX8_nearestNamed 70 = .ok (.iload 6, 2) := by decide +kernel
theorem dX8_nearestNamed_72 : decode cX8_nearestNamed 72 = .ok (.istore 4, 2) := by decide +kernel
theorem dX8_nearestNamed_74 : decode cX8_nearestNamed 74 = .ok (.iinc 6 1, 3) := by decide +kernel
theorem dX8_nearestNamed_77 : decode cX8_nearestNamed 77 = .ok (.goto (-67), 3) := by decide +kernel
theorem dX8_nearestNamed_80 : decode cX8_nearestNamed 80 = .ok (.iload 4, 2) := by decide +kernel
theorem dX8_nearestNamed_82 : decode cX8_nearestNamed 82 = .ok (.ireturn, 1) := by decide +kernel
theorem dX8_nearerEnd_0 : decode cX8_nearerEnd 0 = .ok (.aload_n 1, 1) := by decide +kernel
theorem dX8_nearerEnd_1 : decode cX8_nearerEnd 1 = .ok (.iload_n 3, 1) := by decide +kernel
theorem dX8_nearerEnd_2 : decode cX8_nearerEnd 2 = .ok (.invokevirtual 98, 3) := by decide +kernel
theorem dX8_nearerEnd_5 : decode cX8_nearerEnd 5 = .ok (.ifCond .ne 5, 3) := by decide +kernel
theorem dX8_nearerEnd_8 : decode cX8_nearerEnd 8 = .ok (.iload_n 2, 1) := by decide +kernel
theorem dX8_nearerEnd_9 : decode cX8_nearerEnd 9 = .ok (.ireturn, 1) := by decide +kernel
theorem dX8_nearerEnd_10 : decode cX8_nearerEnd 10 = .ok (.aload_n 1, 1) := by decide +kernel
theorem dX8_nearerEnd_11 : decode cX8_nearerEnd 11 = .ok (.getfield 40, 3) := by decide +kernel
theorem dX8_nearerEnd_14 : decode cX8_nearerEnd 14 = .ok (.iload_n 3, 1) := by decide +kernel
theorem dX8_nearerEnd_15 : decode cX8_nearerEnd 15 = .ok (.iaload, 1) := by decide +kernel
theorem dX8_nearerEnd_16 : decode cX8_nearerEnd 16 = .ok (.aload_n 1, 1) := by decide +kernel
theorem dX8_nearerEnd_17 : decode cX8_nearerEnd 17 = .ok (.getfield 43, 3) := by decide +kernel
theorem dX8_nearerEnd_20 : decode cX8_nearerEnd 20 = .ok (.iload_n 3, 1) := by decide +kernel
theorem dX8_nearerEnd_21 : decode cX8_nearerEnd 21 = .ok (.iaload, 1) := by decide +kernel
theorem dX8_nearerEnd_22 : decode cX8_nearerEnd 22 = .ok (.invokestatic 53, 3) := by decide +kernel
theorem dX8_nearerEnd_25 : decode cX8_nearerEnd 25 = .ok (.istore 4, 2) := by decide +kernel
theorem dX8_nearerEnd_27 : decode cX8_nearerEnd 27 = .ok (.aload_n 1, 1) := by decide +kernel
theorem dX8_nearerEnd_28 : decode cX8_nearerEnd 28 = .ok (.getfield 40, 3) := by decide +kernel
theorem dX8_nearerEnd_31 : decode cX8_nearerEnd 31 = .ok (.iload_n 3, 1) := by decide +kernel
theorem dX8_nearerEnd_32 : decode cX8_nearerEnd 32 = .ok (.iaload, 1) := by decide +kernel
theorem dX8_nearerEnd_33 : decode cX8_nearerEnd 33 = .ok (.aload_n 1, 1) := by decide +kernel
theorem dX8_nearerEnd_34 : decode cX8_nearerEnd 34 = .ok (.getfield 43, 3) := by decide +kernel
theorem dX8_nearerEnd_37 : decode cX8_nearerEnd 37 = .ok (.iload_n 3, 1) := by decide +kernel
theorem dX8_nearerEnd_38 : decode cX8_nearerEnd 38 = .ok (.iaload, 1) := by decide +kernel
theorem dX8_nearerEnd_39 : decode cX8_nearerEnd 39 = .ok (.invokestatic 79, 3) := by decide +kernel
theorem dX8_nearerEnd_42 : decode cX8_nearerEnd 42 = .ok (.istore 5, 2) := by decide +kernel
theorem dX8_nearerEnd_44 : decode cX8_nearerEnd 44 = .ok (.aload_n 0, 1) := by decide +kernel
theorem dX8_nearerEnd_45 : decode cX8_nearerEnd 45 = .ok (.iload_n 2, 1) := by decide +kernel
theorem dX8_nearerEnd_46 : decode cX8_nearerEnd 46 = .ok (.iload 5, 2) := by decide +kernel
theorem dX8_nearerEnd_48 : decode cX8_nearerEnd 48 = .ok (.invokevirtual 69, 3) := by decide +kernel
theorem dX8_nearerEnd_51 : decode cX8_nearerEnd 51 = .ok (.aload_n 0, 1) := by decide +kernel
theorem dX8_nearerEnd_52 : decode cX8_nearerEnd 52 = .ok (.iload_n 2, 1) := by decide +kernel
theorem dX8_nearerEnd_53 : decode cX8_nearerEnd 53 = .ok (.iload 4, 2) := by decide +kernel
theorem dX8_nearerEnd_55 : decode cX8_nearerEnd 55 = .ok (.invokevirtual 69, 3) := by decide +kernel
theorem dX8_nearerEnd_58 : decode cX8_nearerEnd 58 = .ok (.if_icmp .ge 8, 3) := by decide +kernel
theorem dX8_nearerEnd_61 : decode cX8_nearerEnd 61 = .ok (.iload 5, 2) := by decide +kernel
theorem dX8_nearerEnd_63 : decode cX8_nearerEnd 63 = .ok (.goto 5, 3) := by decide +kernel
theorem dX8_nearerEnd_66 : decode cX8_nearerEnd 66 = .ok (.iload 4, 2) := by decide +kernel
theorem dX8_nearerEnd_68 : decode cX8_nearerEnd 68 = .ok (.ireturn, 1) := by decide +kernel
theorem dX8_nextOnWay_0 : decode cX8_nextOnWay 0 = .ok (.iconst 0, 1) := by decide +kernel
theorem dX8_nextOnWay_1 : decode cX8_nextOnWay 1 = .ok (.istore_n 3, 1) := by decide +kernel
theorem dX8_nextOnWay_2 : decode cX8_nextOnWay 2 = .ok (.iload_n 3, 1) := by decide +kernel
theorem dX8_nextOnWay_3 : decode cX8_nextOnWay 3 = .ok (.bipush 8, 2) := by decide +kernel
theorem dX8_nextOnWay_5 : decode cX8_nextOnWay 5 = .ok (.if_icmp .ge 61, 3) := by decide +kernel
theorem dX8_nextOnWay_8 : decode cX8_nextOnWay 8 = .ok (.iload_n 1, 1) := by decide +kernel
theorem dX8_nextOnWay_9 : decode cX8_nextOnWay 9 = .ok (.invokestatic 72, 3) := by decide +kernel
theorem dX8_nextOnWay_12 : decode cX8_nextOnWay 12 = .ok (.ifCond .eq 17, 3) := by decide +kernel
theorem dX8_nextOnWay_15 : decode cX8_nextOnWay 15 = .ok (.aload_n 0, 1) := by decide +kernel
theorem dX8_nextOnWay_16 : decode cX8_nextOnWay 16 = .ok (.getfield 9, 3) := by decide +kernel
theorem dX8_nextOnWay_19 : decode cX8_nextOnWay 19 = .ok (.iload_n 1, 1) := by decide +kernel
theorem dX8_nextOnWay_20 : decode cX8_nextOnWay 20 = .ok (.bipush 8, 2) := by decide +kernel
theorem dX8_nextOnWay_22 : decode cX8_nextOnWay 22 = .ok (.imul, 1) := by decide +kernel
theorem dX8_nextOnWay_23 : decode cX8_nextOnWay 23 = .ok (.iload_n 3, 1) := by decide +kernel
theorem dX8_nextOnWay_24 : decode cX8_nextOnWay 24 = .ok (.iadd, 1) := by decide +kernel
theorem dX8_nextOnWay_25 : decode cX8_nextOnWay 25 = .ok (.iaload, 1) := by decide +kernel
theorem dX8_nextOnWay_26 : decode cX8_nextOnWay 26 = .ok (.goto 5, 3) := by decide +kernel
theorem dX8_nextOnWay_29 : decode cX8_nextOnWay 29 = .ok (.ldc 27, 2) := by decide +kernel
theorem dX8_nextOnWay_31 : decode cX8_nextOnWay 31 = .ok (.istore 4, 2) := by decide +kernel
theorem dX8_nextOnWay_33 : decode cX8_nextOnWay 33 = .ok (.iload 4, 2) := by decide +kernel
theorem dX8_nextOnWay_35 : decode cX8_nextOnWay 35 = .ok (.ldc 27, 2) := by decide +kernel
theorem dX8_nextOnWay_37 : decode cX8_nextOnWay 37 = .ok (.if_icmp .ge 23, 3) := by decide +kernel
theorem dX8_nextOnWay_40 : decode cX8_nextOnWay 40 = .ok (.iload 4, 2) := by decide +kernel
theorem dX8_nextOnWay_42 : decode cX8_nextOnWay 42 = .ok (.aload_n 0, 1) := by decide +kernel
theorem dX8_nextOnWay_43 : decode cX8_nextOnWay 43 = .ok (.iload_n 3, 1) := by decide +kernel
theorem dX8_nextOnWay_44 : decode cX8_nextOnWay 44 = .ok (.iload_n 2, 1) := by decide +kernel
theorem dX8_nextOnWay_45 : decode cX8_nextOnWay 45 = .ok (.invokevirtual 69, 3) := by decide +kernel
theorem dX8_nextOnWay_48 : decode cX8_nextOnWay 48 = .ok (.iadd, 1) := by decide +kernel
theorem dX8_nextOnWay_49 : decode cX8_nextOnWay 49 = .ok (.aload_n 0, 1) := by decide +kernel
theorem dX8_nextOnWay_50 : decode cX8_nextOnWay 50 = .ok (.iload_n 1, 1) := by decide +kernel
theorem dX8_nextOnWay_51 : decode cX8_nextOnWay 51 = .ok (.iload_n 2, 1) := by decide +kernel
theorem dX8_nextOnWay_52 : decode cX8_nextOnWay 52 = .ok (.invokevirtual 69, 3) := by decide +kernel
theorem dX8_nextOnWay_55 : decode cX8_nextOnWay 55 = .ok (.if_icmp .ne 5, 3) := by decide +kernel
theorem dX8_nextOnWay_58 : decode cX8_nextOnWay 58 = .ok (.iload_n 3, 1) := by decide +kernel
theorem dX8_nextOnWay_59 : decode cX8_nextOnWay 59 = .ok (.ireturn, 1) := by decide +kernel
theorem dX8_nextOnWay_60 : decode cX8_nextOnWay 60 = .ok (.iinc 3 1, 3) := by decide +kernel
theorem dX8_nextOnWay_63 : decode cX8_nextOnWay 63 = .ok (.goto (-61), 3) := by decide +kernel
theorem dX8_nextOnWay_66 : decode cX8_nextOnWay 66 = .ok (.iconst (-1), 1) := by decide +kernel
theorem dX8_nextOnWay_67 : decode cX8_nextOnWay 67 = .ok (.ireturn, 1) := by decide +kernel
theorem dX8_cornerOnWay_0 : decode cX8_cornerOnWay 0 = .ok (.iload_n 1, 1) := by decide +kernel
theorem dX8_cornerOnWay_1 : decode cX8_cornerOnWay 1 = .ok (.istore 4, 2) := by decide +kernel
theorem dX8_cornerOnWay_3 : decode cX8_cornerOnWay 3 = .ok (.iconst 0, 1) := by decide +kernel
theorem dX8_cornerOnWay_4 : decode cX8_cornerOnWay 4 = .ok (.istore 5, 2) := by decide +kernel
theorem dX8_cornerOnWay_6 : decode cX8_cornerOnWay 6 = .ok (.iload 5, 2) := by decide +kernel
theorem dX8_cornerOnWay_8 : decode cX8_cornerOnWay 8 = .ok (.bipush 8, 2) := by decide +kernel
theorem dX8_cornerOnWay_10 : decode cX8_cornerOnWay 10 = .ok (.if_icmp .ge 39, 3) := by decide +kernel
theorem dX8_cornerOnWay_13 : decode cX8_cornerOnWay 13 = .ok (.iload 4, 2) := by decide +kernel
theorem dX8_cornerOnWay_15 : decode cX8_cornerOnWay 15 = .ok (.iload_n 2, 1) := by decide +kernel
theorem dX8_cornerOnWay_16 : decode cX8_cornerOnWay 16 = .ok (.if_icmp .eq 33, 3) := by decide +kernel
theorem dX8_cornerOnWay_19 : decode cX8_cornerOnWay 19 = .ok (.iload 4, 2) := by decide +kernel
theorem dX8_cornerOnWay_21 : decode cX8_cornerOnWay 21 = .ok (.iconst (-1), 1) := by decide +kernel
theorem dX8_cornerOnWay_22 : decode cX8_cornerOnWay 22 = .ok (.if_icmp .eq 27, 3) := by decide +kernel
theorem dX8_cornerOnWay_25 : decode cX8_cornerOnWay 25 = .ok (.aload_n 0, 1) := by decide +kernel
theorem dX8_cornerOnWay_26 : decode cX8_cornerOnWay 26 = .ok (.iload 4, 2) := by decide +kernel
theorem dX8_cornerOnWay_28 : decode cX8_cornerOnWay 28 = .ok (.iload_n 2, 1) := by decide +kernel
theorem dX8_cornerOnWay_29 : decode cX8_cornerOnWay 29 = .ok (.invokevirtual 101, 3) := by decide +kernel
theorem dX8_cornerOnWay_32 : decode cX8_cornerOnWay 32 = .ok (.istore 4, 2) := by decide +kernel
theorem dX8_cornerOnWay_34 : decode cX8_cornerOnWay 34 = .ok (.iload 5, 2) := by decide +kernel
theorem dX8_cornerOnWay_36 : decode cX8_cornerOnWay 36 = .ok (.iload_n 3, 1) := by decide +kernel
theorem dX8_cornerOnWay_37 : decode cX8_cornerOnWay 37 = .ok (.if_icmp .ne 6, 3) := by decide +kernel
theorem dX8_cornerOnWay_40 : decode cX8_cornerOnWay 40 = .ok (.iload 4, 2) := by decide +kernel
theorem dX8_cornerOnWay_42 : decode cX8_cornerOnWay 42 = .ok (.ireturn, 1) := by decide +kernel
theorem dX8_cornerOnWay_43 : decode cX8_cornerOnWay 43 = .ok (.iinc 5 1, 3) := by decide +kernel
theorem dX8_cornerOnWay_46 : decode cX8_cornerOnWay 46 = .ok (.goto (-40), 3) := by decide +kernel
theorem dX8_cornerOnWay_49 : decode cX8_cornerOnWay 49 = .ok (.iconst (-1), 1) := by decide +kernel
theorem dX8_cornerOnWay_50 : decode cX8_cornerOnWay 50 = .ok (.ireturn, 1) := by decide +kernel
theorem dX8_lowestOf_0 : decode cX8_lowestOf 0 = .ok (.iconst 0, 1) := by decide +kernel
theorem dX8_lowestOf_1 : decode cX8_lowestOf 1 = .ok (.istore_n 1, 1) := by decide +kernel
theorem dX8_lowestOf_2 : decode cX8_lowestOf 2 = .ok (.iload_n 1, 1) := by decide +kernel
theorem dX8_lowestOf_3 : decode cX8_lowestOf 3 = .ok (.bipush 8, 2) := by decide +kernel
theorem dX8_lowestOf_5 : decode cX8_lowestOf 5 = .ok (.if_icmp .ge 17, 3) := by decide +kernel
theorem dX8_lowestOf_8 : decode cX8_lowestOf 8 = .ok (.iload_n 0, 1) := by decide +kernel
theorem dX8_lowestOf_9 : decode cX8_lowestOf 9 = .ok (.iload_n 1, 1) := by decide +kernel
theorem dX8_lowestOf_10 : decode cX8_lowestOf 10 = .ok (.ishr, 1) := by decide +kernel
theorem dX8_lowestOf_11 : decode cX8_lowestOf 11 = .ok (.iconst 1, 1) := by decide +kernel
theorem dX8_lowestOf_12 : decode cX8_lowestOf 12 = .ok (.iand, 1) := by decide +kernel
theorem dX8_lowestOf_13 : decode cX8_lowestOf 13 = .ok (.ifCond .ne 9, 3) := by decide +kernel
theorem dX8_lowestOf_16 : decode cX8_lowestOf 16 = .ok (.iinc 1 1, 3) := by decide +kernel
theorem dX8_lowestOf_19 : decode cX8_lowestOf 19 = .ok (.goto (-17), 3) := by decide +kernel
theorem dX8_lowestOf_22 : decode cX8_lowestOf 22 = .ok (.iload_n 1, 1) := by decide +kernel
theorem dX8_lowestOf_23 : decode cX8_lowestOf 23 = .ok (.ireturn, 1) := by decide +kernel
theorem dX8_hangTogether_0 : decode cX8_hangTogether 0 = .ok (.iload_n 1, 1) := by decide +kernel
theorem dX8_hangTogether_1 : decode cX8_hangTogether 1 = .ok (.invokestatic 104, 3) := by decide +kernel
theorem dX8_hangTogether_4 : decode cX8_hangTogether 4 = .ok (.istore_n 2, 1) := by decide +kernel
theorem dX8_hangTogether_5 : decode cX8_hangTogether 5 = .ok (.iconst 0, 1) := by decide +kernel
theorem dX8_hangTogether_6 : decode cX8_hangTogether 6 = .ok (.istore_n 3, 1) := by decide +kernel
theorem dX8_hangTogether_7 : decode cX8_hangTogether 7 = .ok (.iload_n 3, 1) := by decide +kernel
theorem dX8_hangTogether_8 : decode cX8_hangTogether 8 = .ok (.bipush 8, 2) := by decide +kernel
theorem dX8_hangTogether_10 : decode cX8_hangTogether 10 = .ok (.if_icmp .ge 31, 3) := by decide +kernel
theorem dX8_hangTogether_13 : decode cX8_hangTogether 13 = .ok (.iload_n 1, 1) := by decide +kernel
theorem dX8_hangTogether_14 : decode cX8_hangTogether 14 = .ok (.iload_n 3, 1) := by decide +kernel
theorem dX8_hangTogether_15 : decode cX8_hangTogether 15 = .ok (.ishr, 1) := by decide +kernel
theorem dX8_hangTogether_16 : decode cX8_hangTogether 16 = .ok (.iconst 1, 1) := by decide +kernel
theorem dX8_hangTogether_17 : decode cX8_hangTogether 17 = .ok (.iand, 1) := by decide +kernel
theorem dX8_hangTogether_18 : decode cX8_hangTogether 18 = .ok (.iconst 1, 1) := by decide +kernel
theorem dX8_hangTogether_19 : decode cX8_hangTogether 19 = .ok (.if_icmp .ne 16, 3) := by decide +kernel
theorem dX8_hangTogether_22 : decode cX8_hangTogether 22 = .ok (.aload_n 0, 1) := by decide +kernel
theorem dX8_hangTogether_23 : decode cX8_hangTogether 23 = .ok (.iload_n 2, 1) := by decide +kernel
theorem dX8_hangTogether_24 : decode cX8_hangTogether 24 = .ok (.iload_n 3, 1) := by decide +kernel
theorem dX8_hangTogether_25 : decode cX8_hangTogether 25 = .ok (.invokevirtual 69, 3) := by decide +kernel
theorem dX8_hangTogether_28 : decode cX8_hangTogether 28 = .ok (.ldc 27, 2) := by decide +kernel
theorem dX8_hangTogether_30 : decode cX8_hangTogether 30 = .ok (.if_icmp .lt 5, 3) := by decide +kernel
theorem dX8_hangTogether_33 : decode cX8_hangTogether 33 = .ok (.iconst 0, 1) := by decide +kernel
theorem dX8_hangTogether_34 : decode cX8_hangTogether 34 = .ok (.ireturn, 1) := by decide +kernel
theorem dX8_hangTogether_35 : decode cX8_hangTogether 35 = .ok (.iinc 3 1, 3) := by decide +kernel
theorem dX8_hangTogether_38 : decode cX8_hangTogether 38 = .ok (.goto (-31), 3) := by decide +kernel
theorem dX8_hangTogether_41 : decode cX8_hangTogether 41 = .ok (.iconst 1, 1) := by decide +kernel
theorem dX8_hangTogether_42 : decode cX8_hangTogether 42 = .ok (.ireturn, 1) := by decide +kernel
theorem dX8_cheapestWithLowest_0 : decode cX8_cheapestWithLowest 0 = .ok (.ldc 27, 2) := by decide +kernel
theorem dX8_cheapestWithLowest_2 : decode cX8_cheapestWithLowest 2 = .ok (.istore_n 2, 1) := by decide +kernel
theorem dX8_cheapestWithLowest_3 : decode cX8_cheapestWithLowest 3 = .ok (.iload_n 1, 1) := by decide +kernel
theorem dX8_cheapestWithLowest_4 : decode cX8_cheapestWithLowest 4 = .ok (.invokestatic 104, 3) := by decide +kernel
theorem dX8_cheapestWithLowest_7 : decode cX8_cheapestWithLowest 7 = .ok (.istore_n 3, 1) := by decide +kernel
theorem dX8_cheapestWithLowest_8 : decode cX8_cheapestWithLowest 8 = .ok (.iload_n 3, 1) := by decide +kernel
theorem dX8_cheapestWithLowest_9 : decode cX8_cheapestWithLowest 9 = .ok (.iconst 1, 1) := by decide +kernel
theorem dX8_cheapestWithLowest_10 : decode cX8_cheapestWithLowest 10 = .ok (.iadd, 1) := by decide +kernel
theorem dX8_cheapestWithLowest_11 : decode cX8_cheapestWithLowest 11 = .ok (.istore 4, 2) := by decide +kernel
theorem dX8_cheapestWithLowest_13 : decode cX8_cheapestWithLowest 13 = .ok (.iload 4, 2) := by decide +kernel
theorem dX8_cheapestWithLowest_15 : decode cX8_cheapestWithLowest 15 = .ok (.bipush 8, 2) := by decide +kernel
theorem dX8_cheapestWithLowest_17 : decode cX8_cheapestWithLowest 17 = .ok (.if_icmp .ge 66, 3) := by decide +kernel
theorem dX8_cheapestWithLowest_20 : decode cX8_cheapestWithLowest 20 = .ok (.iload_n 1, 1) := by decide +kernel
theorem dX8_cheapestWithLowest_21 : decode cX8_cheapestWithLowest 21 = .ok (.iconst 1, 1) := by decide +kernel
theorem dX8_cheapestWithLowest_22 : decode cX8_cheapestWithLowest 22 = .ok (.iload_n 3, 1) := by decide +kernel
theorem dX8_cheapestWithLowest_23 : decode cX8_cheapestWithLowest 23 = .ok (.ishl, 1) := by decide +kernel
theorem dX8_cheapestWithLowest_24 : decode cX8_cheapestWithLowest 24 = .ok (.iconst 1, 1) := by decide +kernel
theorem dX8_cheapestWithLowest_25 : decode cX8_cheapestWithLowest 25 = .ok (.iload 4, 2) := by decide +kernel
theorem dX8_cheapestWithLowest_27 : decode cX8_cheapestWithLowest 27 = .ok (.ishl, 1) := by decide +kernel
theorem dX8_cheapestWithLowest_28 : decode cX8_cheapestWithLowest 28 = .ok (.ior, 1) := by decide +kernel
theorem dX8_cheapestWithLowest_29 : decode cX8_cheapestWithLowest 29 = .ok (.iconst (-1), 1) := by decide +kernel
theorem dX8_cheapestWithLowest_30 : decode cX8_cheapestWithLowest 30 = .ok (.ixor, 1) := by decide +kernel
theorem dX8_cheapestWithLowest_31 : decode cX8_cheapestWithLowest 31 = .ok (.iand, 1) := by decide +kernel
theorem dX8_cheapestWithLowest_32 : decode cX8_cheapestWithLowest 32 = .ok (.istore 5, 2) := by decide +kernel
theorem dX8_cheapestWithLowest_34 : decode cX8_cheapestWithLowest 34 = .ok (.iload_n 1, 1) := by decide +kernel
theorem dX8_cheapestWithLowest_35 : decode cX8_cheapestWithLowest 35 = .ok (.iload 4, 2) := by decide +kernel
theorem dX8_cheapestWithLowest_37 : decode cX8_cheapestWithLowest 37 = .ok (.ishr, 1) := by decide +kernel
theorem dX8_cheapestWithLowest_38 : decode cX8_cheapestWithLowest 38 = .ok (.iconst 1, 1) := by decide +kernel
theorem dX8_cheapestWithLowest_39 : decode cX8_cheapestWithLowest 39 = .ok (.iand, 1) := by decide +kernel
theorem dX8_cheapestWithLowest_40 : decode cX8_cheapestWithLowest 40 = .ok (.iconst 1, 1) := by decide +kernel
theorem dX8_cheapestWithLowest_41 : decode cX8_cheapestWithLowest 41 = .ok (.if_icmp .ne 36, 3) := by decide +kernel
theorem dX8_cheapestWithLowest_44 : decode cX8_cheapestWithLowest 44 = .ok (.iload 5, 2) := by decide +kernel
theorem dX8_cheapestWithLowest_46 : decode cX8_cheapestWithLowest 46 = .ok (.ifCond .lt 31, 3) := by decide +kernel
theorem dX8_cheapestWithLowest_49 : decode cX8_cheapestWithLowest 49 = .ok (.iload 5, 2) := by decide +kernel
theorem dX8_cheapestWithLowest_51 : decode cX8_cheapestWithLowest 51 = .ok (.sipush 256, 3) := by decide +kernel
theorem dX8_cheapestWithLowest_54 : decode cX8_cheapestWithLowest 54 = .ok (.if_icmp .ge 23, 3) := by decide +kernel
theorem dX8_cheapestWithLowest_57 : decode cX8_cheapestWithLowest 57 = .ok (.iload_n 2, 1) := by decide +kernel
theorem dX8_cheapestWithLowest_58 : decode cX8_cheapestWithLowest 58 = .ok (.aload_n 0, 1) := by decide +kernel
theorem dX8_cheapestWithLowest_59 : decode cX8_cheapestWithLowest 59 = .ok (.iload_n 3, 1) := by decide +kernel
theorem dX8_cheapestWithLowest_60 : decode cX8_cheapestWithLowest 60 = .ok (.iload 4, 2) := by decide +kernel
theorem dX8_cheapestWithLowest_62 : decode cX8_cheapestWithLowest 62 = .ok (.invokevirtual 69, 3) := by decide +kernel
theorem dX8_cheapestWithLowest_65 : decode cX8_cheapestWithLowest 65 = .ok (.aload_n 0, 1) := by decide +kernel
theorem dX8_cheapestWithLowest_66 : decode cX8_cheapestWithLowest 66 = .ok (.getfield 21, 3) := by decide +kernel
theorem dX8_cheapestWithLowest_69 : decode cX8_cheapestWithLowest 69 = .ok (.iload 5, 2) := by decide +kernel
theorem dX8_cheapestWithLowest_71 : decode cX8_cheapestWithLowest 71 = .ok (.iaload, 1) := by decide +kernel
theorem dX8_cheapestWithLowest_72 : decode cX8_cheapestWithLowest 72 = .ok (.iadd, 1) := by decide +kernel
theorem dX8_cheapestWithLowest_73 : decode cX8_cheapestWithLowest 73 = .ok (.invokestatic 53, 3) := by decide +kernel
theorem dX8_cheapestWithLowest_76 : decode cX8_cheapestWithLowest 76 = .ok (.istore_n 2, 1) := by decide +kernel
theorem dX8_cheapestWithLowest_77 : decode cX8_cheapestWithLowest 77 = .ok (.iinc 4 1, 3) := by decide +kernel
theorem dX8_cheapestWithLowest_80 : decode cX8_cheapestWithLowest 80 = .ok (.goto (-67), 3) := by decide +kernel
theorem dX8_cheapestWithLowest_83 : decode cX8_cheapestWithLowest 83 = .ok (.iload_n 2, 1) := by decide +kernel
theorem dX8_cheapestWithLowest_84 : decode cX8_cheapestWithLowest 84 = .ok (.ireturn, 1) := by decide +kernel
theorem dX8_cheapestPairs_0 : decode cX8_cheapestPairs 0 = .ok (.aload_n 0, 1) := by decide +kernel
theorem dX8_cheapestPairs_1 : decode cX8_cheapestPairs 1 = .ok (.getfield 21, 3) := by decide +kernel
theorem dX8_cheapestPairs_4 : decode cX8_cheapestPairs 4 = .ok (.iconst 0, 1) := by decide +kernel
theorem dX8_cheapestPairs_5 : decode cX8_cheapestPairs 5 = .ok (.iconst 0, 1) := by decide +kernel
theorem dX8_cheapestPairs_6 : decode cX8_cheapestPairs 6 = .ok (.iastore, 1) := by decide +kernel
theorem dX8_cheapestPairs_7 : decode cX8_cheapestPairs 7 = .ok (.iconst 1, 1) := by decide +kernel
theorem dX8_cheapestPairs_8 : decode cX8_cheapestPairs 8 = .ok (.istore_n 2, 1) := by decide +kernel
theorem dX8_cheapestPairs_9 : decode cX8_cheapestPairs 9 = .ok (.iload_n 2, 1) := by decide +kernel
theorem dX8_cheapestPairs_10 : decode cX8_cheapestPairs 10 = .ok (.sipush 256, 3) := by decide +kernel
theorem dX8_cheapestPairs_13 : decode cX8_cheapestPairs 13 = .ok (.if_icmp .ge 28, 3) := by decide +kernel
theorem dX8_cheapestPairs_16 : decode cX8_cheapestPairs 16 = .ok (.iload_n 2, 1) := by decide +kernel
theorem dX8_cheapestPairs_17 : decode cX8_cheapestPairs 17 = .ok (.iload_n 1, 1) := by decide +kernel
theorem dX8_cheapestPairs_18 : decode cX8_cheapestPairs 18 = .ok (.iconst (-1), 1) := by decide +kernel
theorem dX8_cheapestPairs_19 : decode cX8_cheapestPairs 19 = .ok (.ixor, 1) := by decide +kernel
theorem dX8_cheapestPairs_20 : decode cX8_cheapestPairs 20 = .ok (.iand, 1) := by decide +kernel
theorem dX8_cheapestPairs_21 : decode cX8_cheapestPairs 21 = .ok (.ifCond .ne 14, 3) := by decide +kernel
theorem dX8_cheapestPairs_24 : decode cX8_cheapestPairs 24 = .ok (.aload_n 0, 1) := by decide +kernel
theorem dX8_cheapestPairs_25 : decode cX8_cheapestPairs 25 = .ok (.getfield 21, 3) := by decide +kernel
theorem dX8_cheapestPairs_28 : decode cX8_cheapestPairs 28 = .ok (.iload_n 2, 1) := by decide +kernel
theorem dX8_cheapestPairs_29 : decode cX8_cheapestPairs 29 = .ok (.aload_n 0, 1) := by decide +kernel
theorem dX8_cheapestPairs_30 : decode cX8_cheapestPairs 30 = .ok (.iload_n 2, 1) := by decide +kernel
theorem dX8_cheapestPairs_31 : decode cX8_cheapestPairs 31 = .ok (.invokevirtual 107, 3) := by decide +kernel
theorem dX8_cheapestPairs_34 : decode cX8_cheapestPairs 34 = .ok (.iastore, 1) := by decide +kernel
theorem dX8_cheapestPairs_35 : decode cX8_cheapestPairs 35 = .ok (.iinc 2 1, 3) := by decide +kernel
theorem dX8_cheapestPairs_38 : decode cX8_cheapestPairs 38 = .ok (.goto (-29), 3) := by decide +kernel
theorem dX8_cheapestPairs_41 : decode cX8_cheapestPairs 41 = .ok (.iload_n 1, 1) := by decide +kernel
theorem dX8_cheapestPairs_42 : decode cX8_cheapestPairs 42 = .ok (.ifCond .lt 19, 3) := by decide +kernel
theorem dX8_cheapestPairs_45 : decode cX8_cheapestPairs 45 = .ok (.iload_n 1, 1) := by decide +kernel
theorem dX8_cheapestPairs_46 : decode cX8_cheapestPairs 46 = .ok (.sipush 256, 3) := by decide +kernel
theorem dX8_cheapestPairs_49 : decode cX8_cheapestPairs 49 = .ok (.if_icmp .ge 12, 3) := by decide +kernel
theorem dX8_cheapestPairs_52 : decode cX8_cheapestPairs 52 = .ok (.aload_n 0, 1) := by decide +kernel
theorem dX8_cheapestPairs_53 : decode cX8_cheapestPairs 53 = .ok (.getfield 21, 3) := by decide +kernel
theorem dX8_cheapestPairs_56 : decode cX8_cheapestPairs 56 = .ok (.iload_n 1, 1) := by decide +kernel
theorem dX8_cheapestPairs_57 : decode cX8_cheapestPairs 57 = .ok (.iaload, 1) := by decide +kernel
theorem dX8_cheapestPairs_58 : decode cX8_cheapestPairs 58 = .ok (.goto 4, 3) := by decide +kernel
theorem dX8_cheapestPairs_61 : decode cX8_cheapestPairs 61 = .ok (.iconst 0, 1) := by decide +kernel
theorem dX8_cheapestPairs_62 : decode cX8_cheapestPairs 62 = .ok (.ireturn, 1) := by decide +kernel
theorem dX9_look_0 : decode cX9_look 0 = .ok (.aload_n 1, 1) := by decide +kernel
theorem dX9_look_1 : decode cX9_look 1 = .ok (.iload_n 3, 1) := by decide +kernel
theorem dX9_look_2 : decode cX9_look 2 = .ok (.invokevirtual 47, 3) := by decide +kernel
theorem dX9_look_5 : decode cX9_look 5 = .ok (.istore 4, 2) := by decide +kernel
theorem dX9_look_7 : decode cX9_look 7 = .ok (.aload_n 1, 1) := by decide +kernel
theorem dX9_look_8 : decode cX9_look 8 = .ok (.iload_n 2, 1) := by decide +kernel
theorem dX9_look_9 : decode cX9_look 9 = .ok (.invokevirtual 86, 3) := by decide +kernel
theorem dX9_look_12 : decode cX9_look 12 = .ok (.istore 5, 2) := by decide +kernel
theorem dX9_look_14 : decode cX9_look 14 = .ok (.aload_n 0, 1) := by decide +kernel
theorem dX9_look_15 : decode cX9_look 15 = .ok (.getfield 25, 3) := by decide +kernel
theorem dX9_look_18 : decode cX9_look 18 = .ok (.iconst 0, 1) := by decide +kernel
theorem dX9_look_19 : decode cX9_look 19 = .ok (.iload_n 2, 1) := by decide +kernel
theorem dX9_look_20 : decode cX9_look 20 = .ok (.iastore, 1) := by decide +kernel
theorem dX9_look_21 : decode cX9_look 21 = .ok (.aload_n 0, 1) := by decide +kernel
theorem dX9_look_22 : decode cX9_look 22 = .ok (.getfield 25, 3) := by decide +kernel
theorem dX9_look_25 : decode cX9_look 25 = .ok (.iconst 1, 1) := by decide +kernel
theorem dX9_look_26 : decode cX9_look 26 = .ok (.iload 5, 2) := by decide +kernel
theorem dX9_look_28 : decode cX9_look 28 = .ok (.ifCond .eq 12, 3) := by decide +kernel
theorem dX9_look_31 : decode cX9_look 31 = .ok (.aload_n 1, 1) := by decide +kernel
theorem dX9_look_32 : decode cX9_look 32 = .ok (.getfield 118, 3) := by decide +kernel
theorem dX9_look_35 : decode cX9_look 35 = .ok (.iload_n 2, 1) := by decide +kernel
theorem dX9_look_36 : decode cX9_look 36 = .ok (.iaload, 1) := by decide +kernel
theorem dX9_look_37 : decode cX9_look 37 = .ok (.goto 4, 3) := by decide +kernel
theorem dX9_look_40 : decode cX9_look 40 = .ok (.iconst (-1), 1) := by decide +kernel
theorem dX9_look_41 : decode cX9_look 41 = .ok (.iastore, 1) := by decide +kernel
theorem dX9_look_42 : decode cX9_look 42 = .ok (.aload_n 0, 1) := by decide +kernel
theorem dX9_look_43 : decode cX9_look 43 = .ok (.getfield 25, 3) := by decide +kernel
theorem dX9_look_46 : decode cX9_look 46 = .ok (.iconst 2, 1) := by decide +kernel
theorem dX9_look_47 : decode cX9_look 47 = .ok (.iload 4, 2) := by decide +kernel
theorem dX9_look_49 : decode cX9_look 49 = .ok (.ifCond .eq 7, 3) := by decide +kernel
theorem dX9_look_52 : decode cX9_look 52 = .ok (.iload_n 3, 1) := by decide +kernel
theorem dX9_look_53 : decode cX9_look 53 = .ok (.goto 4, 3) := by decide +kernel
theorem dX9_look_56 : decode cX9_look 56 = .ok (.iconst (-1), 1) := by decide +kernel
theorem dX9_look_57 : decode cX9_look 57 = .ok (.iastore, 1) := by decide +kernel
theorem dX9_look_58 : decode cX9_look 58 = .ok (.aload_n 0, 1) := by decide +kernel
theorem dX9_look_59 : decode cX9_look 59 = .ok (.getfield 25, 3) := by decide +kernel
theorem dX9_look_62 : decode cX9_look 62 = .ok (.iconst 3, 1) := by decide +kernel
theorem dX9_look_63 : decode cX9_look 63 = .ok (.iload 4, 2) := by decide +kernel
theorem dX9_look_65 : decode cX9_look 65 = .ok (.ifCond .eq 12, 3) := by decide +kernel
theorem dX9_look_68 : decode cX9_look 68 = .ok (.aload_n 1, 1) := by decide +kernel
theorem dX9_look_69 : decode cX9_look 69 = .ok (.getfield 121, 3) := by decide +kernel
theorem dX9_look_72 : decode cX9_look 72 = .ok (.iload_n 3, 1) := by decide +kernel
theorem dX9_look_73 : decode cX9_look 73 = .ok (.iaload, 1) := by decide +kernel
theorem dX9_look_74 : decode cX9_look 74 = .ok (.goto 4, 3) := by decide +kernel
theorem dX9_look_77 : decode cX9_look 77 = .ok (.iconst (-1), 1) := by decide +kernel
theorem dX9_look_78 : decode cX9_look 78 = .ok (.iastore, 1) := by decide +kernel
theorem dX9_look_79 : decode cX9_look 79 = .ok (.aload_n 0, 1) := by decide +kernel
theorem dX9_look_80 : decode cX9_look 80 = .ok (.getfield 25, 3) := by decide +kernel
theorem dX9_look_83 : decode cX9_look 83 = .ok (.iconst 4, 1) := by decide +kernel
theorem dX9_look_84 : decode cX9_look 84 = .ok (.iload 4, 2) := by decide +kernel
theorem dX9_look_86 : decode cX9_look 86 = .ok (.ifCond .eq 12, 3) := by decide +kernel
theorem dX9_look_89 : decode cX9_look 89 = .ok (.aload_n 1, 1) := by decide +kernel
theorem dX9_look_90 : decode cX9_look 90 = .ok (.getfield 51, 3) := by decide +kernel
theorem dX9_look_93 : decode cX9_look 93 = .ok (.iload_n 3, 1) := by decide +kernel
theorem dX9_look_94 : decode cX9_look 94 = .ok (.iaload, 1) := by decide +kernel
theorem dX9_look_95 : decode cX9_look 95 = .ok (.goto 4, 3) := by decide +kernel
theorem dX9_look_98 : decode cX9_look 98 = .ok (.iconst (-1), 1) := by decide +kernel
theorem dX9_look_99 : decode cX9_look 99 = .ok (.iastore, 1) := by decide +kernel
theorem dX9_look_100 : decode cX9_look 100 = .ok (.aload_n 0, 1) := by decide +kernel
theorem dX9_look_101 : decode cX9_look 101 = .ok (.getfield 25, 3) := by decide +kernel
theorem dX9_look_104 : decode cX9_look 104 = .ok (.iconst 5, 1) := by decide +kernel
theorem dX9_look_105 : decode cX9_look 105 = .ok (.iload 5, 2) := by decide +kernel
theorem dX9_look_107 : decode cX9_look 107 = .ok (.ifCond .eq 12, 3) := by decide +kernel
theorem dX9_look_110 : decode cX9_look 110 = .ok (.aload_n 1, 1) := by decide +kernel
theorem dX9_look_111 : decode cX9_look 111 = .ok (.getfield 92, 3) := by decide +kernel
theorem dX9_look_114 : decode cX9_look 114 = .ok (.iload_n 2, 1) := by decide +kernel
theorem dX9_look_115 : decode cX9_look 115 = .ok (.iaload, 1) := by decide +kernel
theorem dX9_look_116 : decode cX9_look 116 = .ok (.goto 4, 3) := by decide +kernel
theorem dX9_look_119 : decode cX9_look 119 = .ok (.iconst (-1), 1) := by decide +kernel
theorem dX9_look_120 : decode cX9_look 120 = .ok (.iastore, 1) := by decide +kernel
theorem dX9_look_121 : decode cX9_look 121 = .ok (.aload_n 0, 1) := by decide +kernel
theorem dX9_look_122 : decode cX9_look 122 = .ok (.getfield 25, 3) := by decide +kernel
theorem dX9_look_125 : decode cX9_look 125 = .ok (.bipush 6, 2) := by decide +kernel
theorem dX9_look_127 : decode cX9_look 127 = .ok (.iload 5, 2) := by decide +kernel
theorem dX9_look_129 : decode cX9_look 129 = .ok (.ifCond .eq 12, 3) := by decide +kernel
theorem dX9_look_132 : decode cX9_look 132 = .ok (.aload_n 1, 1) := by decide +kernel
theorem dX9_look_133 : decode cX9_look 133 = .ok (.getfield 124, 3) := by decide +kernel
theorem dX9_look_136 : decode cX9_look 136 = .ok (.iload_n 2, 1) := by decide +kernel
theorem dX9_look_137 : decode cX9_look 137 = .ok (.iaload, 1) := by decide +kernel
theorem dX9_look_138 : decode cX9_look 138 = .ok (.goto 4, 3) := by decide +kernel
theorem dX9_look_141 : decode cX9_look 141 = .ok (.iconst (-1), 1) := by decide +kernel
theorem dX9_look_142 : decode cX9_look 142 = .ok (.iastore, 1) := by decide +kernel
theorem dX9_look_143 : decode cX9_look 143 = .ok (.aload_n 0, 1) := by decide +kernel
theorem dX9_look_144 : decode cX9_look 144 = .ok (.getfield 25, 3) := by decide +kernel
theorem dX9_look_147 : decode cX9_look 147 = .ok (.bipush 7, 2) := by decide +kernel
theorem dX9_look_149 : decode cX9_look 149 = .ok (.aload_n 1, 1) := by decide +kernel
theorem dX9_look_150 : decode cX9_look 150 = .ok (.getfield 115, 3) := by decide +kernel
theorem dX9_look_153 : decode cX9_look 153 = .ok (.iconst 0, 1) := by decide +kernel
theorem dX9_look_154 : decode cX9_look 154 = .ok (.iaload, 1) := by decide +kernel
theorem dX9_look_155 : decode cX9_look 155 = .ok (.iastore, 1) := by decide +kernel
theorem dX9_look_156 : decode cX9_look 156 = .ok (.aload_n 0, 1) := by decide +kernel
theorem dX9_look_157 : decode cX9_look 157 = .ok (.getfield 25, 3) := by decide +kernel
theorem dX9_look_160 : decode cX9_look 160 = .ok (.bipush 8, 2) := by decide +kernel
theorem dX9_look_162 : decode cX9_look 162 = .ok (.aload_n 1, 1) := by decide +kernel
theorem dX9_look_163 : decode cX9_look 163 = .ok (.getfield 115, 3) := by decide +kernel
theorem dX9_look_166 : decode cX9_look 166 = .ok (.iconst 2, 1) := by decide +kernel
theorem dX9_look_167 : decode cX9_look 167 = .ok (.iaload, 1) := by decide +kernel
theorem dX9_look_168 : decode cX9_look 168 = .ok (.iastore, 1) := by decide +kernel
theorem dX9_look_169 : decode cX9_look 169 = .ok (.return_, 1) := by decide +kernel
theorem dX9_tell_0 : decode cX9_tell 0 = .ok (.aload_n 1, 1) := by decide +kernel
theorem dX9_tell_1 : decode cX9_tell 1 = .ok (.ifnonnull 6, 3) := by decide +kernel
theorem dX9_tell_4 : decode cX9_tell 4 = .ok (.iload 4, 2) := by decide +kernel
theorem dX9_tell_6 : decode cX9_tell 6 = .ok (.ireturn, 1) := by decide +kernel
theorem dX9_tell_7 : decode cX9_tell 7 = .ok (.aload_n 1, 1) := by decide +kernel
theorem dX9_tell_8 : decode cX9_tell 8 = .ok (.getfield 54, 3) := by decide +kernel
theorem dX9_tell_11 : decode cX9_tell 11 = .ok (.bipush 12, 2) := by decide +kernel
theorem dX9_tell_13 : decode cX9_tell 13 = .ok (.invokestatic 127, 3) := by decide +kernel
theorem dX9_tell_16 : decode cX9_tell 16 = .ok (.iconst 1, 1) := by decide +kernel
theorem dX9_tell_17 : decode cX9_tell 17 = .ok (.isub, 1) := by decide +kernel
theorem dX9_tell_18 : decode cX9_tell 18 = .ok (.istore 5, 2) := by decide +kernel
theorem dX9_tell_20 : decode cX9_tell 20 = .ok (.iload 5, 2) := by decide +kernel
theorem dX9_tell_22 : decode cX9_tell 22 = .ok (.ifCond .lt 114, 3) := by decide +kernel
theorem dX9_tell_25 : decode cX9_tell 25 = .ok (.aload_n 1, 1) := by decide +kernel
theorem dX9_tell_26 : decode cX9_tell 26 = .ok (.getfield 60, 3) := by decide +kernel
theorem dX9_tell_29 : decode cX9_tell 29 = .ok (.iload 5, 2) := by decide +kernel
theorem dX9_tell_31 : decode cX9_tell 31 = .ok (.aaload, 1) := by decide +kernel
theorem dX9_tell_32 : decode cX9_tell 32 = .ok (.astore 6, 2) := by decide +kernel
theorem dX9_tell_34 : decode cX9_tell 34 = .ok (.aload 6, 2) := by decide +kernel
theorem dX9_tell_36 : decode cX9_tell 36 = .ok (.ifnull 94, 3) := by decide +kernel
theorem dX9_tell_39 : decode cX9_tell 39 = .ok (.aload 6, 2) := by decide +kernel
theorem dX9_tell_41 : decode cX9_tell 41 = .ok (.getfield 64, 3) := by decide +kernel
theorem dX9_tell_44 : decode cX9_tell 44 = .ok (.iload_n 2, 1) := by decide +kernel
theorem dX9_tell_45 : decode cX9_tell 45 = .ok (.if_icmp .ne 85, 3) := by decide +kernel
theorem dX9_tell_48 : decode cX9_tell 48 = .ok (.aload 6, 2) := by decide +kernel
theorem dX9_tell_50 : decode cX9_tell 50 = .ok (.invokevirtual 69, 3) := by decide +kernel
theorem dX9_tell_53 : decode cX9_tell 53 = .ok (.ifCond .eq 32, 3) := by decide +kernel
theorem dX9_tell_56 : decode cX9_tell 56 = .ok (.aload_n 0, 1) := by decide +kernel
theorem dX9_tell_57 : decode cX9_tell 57 = .ok (.getfield 12, 3) := by decide +kernel
theorem dX9_tell_60 : decode cX9_tell 60 = .ok (.aload_n 1, 1) := by decide +kernel
theorem dX9_tell_61 : decode cX9_tell 61 = .ok (.getfield 73, 3) := by decide +kernel
theorem dX9_tell_64 : decode cX9_tell 64 = .ok (.aload 6, 2) := by decide +kernel
theorem dX9_tell_66 : decode cX9_tell 66 = .ok (.getfield 76, 3) := by decide +kernel
theorem dX9_tell_69 : decode cX9_tell 69 = .ok (.aload 6, 2) := by decide +kernel
theorem dX9_tell_71 : decode cX9_tell 71 = .ok (.getfield 79, 3) := by decide +kernel
theorem dX9_tell_74 : decode cX9_tell 74 = .ok (.aload_n 0, 1) := by decide +kernel
theorem dX9_tell_75 : decode cX9_tell 75 = .ok (.getfield 25, 3) := by decide +kernel
theorem dX9_tell_78 : decode cX9_tell 78 = .ok (.invokevirtual 82, 3) := by decide +kernel
theorem dX9_tell_81 : decode cX9_tell 81 = .ok (.iconst 1, 1) := by decide +kernel
theorem dX9_tell_82 : decode cX9_tell 82 = .ok (.if_icmp .ne 48, 3) := by decide +kernel
theorem dX9_tell_85 : decode cX9_tell 85 = .ok (.aload_n 0, 1) := by decide +kernel
theorem dX9_tell_86 : decode cX9_tell 86 = .ok (.getfield 12, 3) := by decide +kernel
theorem dX9_tell_89 : decode cX9_tell 89 = .ok (.aload_n 1, 1) := by decide +kernel
theorem dX9_tell_90 : decode cX9_tell 90 = .ok (.getfield 73, 3) := by decide +kernel
theorem dX9_tell_93 : decode cX9_tell 93 = .ok (.aload 6, 2) := by decide +kernel
theorem dX9_tell_95 : decode cX9_tell 95 = .ok (.getfield 133, 3) := by decide +kernel
theorem dX9_tell_98 : decode cX9_tell 98 = .ok (.aload 6, 2) := by decide +kernel
theorem dX9_tell_100 : decode cX9_tell 100 = .ok (.getfield 136, 3) := by decide +kernel
theorem dX9_tell_103 : decode cX9_tell 103 = .ok (.aload_n 0, 1) := by decide +kernel
theorem dX9_tell_104 : decode cX9_tell 104 = .ok (.getfield 25, 3) := by decide +kernel
theorem dX9_tell_107 : decode cX9_tell 107 = .ok (.invokevirtual 82, 3) := by decide +kernel
theorem dX9_tell_110 : decode cX9_tell 110 = .ok (.istore 7, 2) := by decide +kernel
theorem dX9_tell_112 : decode cX9_tell 112 = .ok (.iload 7, 2) := by decide +kernel
theorem dX9_tell_114 : decode cX9_tell 114 = .ok (.ldc 139, 2) := by decide +kernel
theorem dX9_tell_116 : decode cX9_tell 116 = .ok (.if_icmp .eq 14, 3) := by decide +kernel
theorem dX9_tell_119 : decode cX9_tell 119 = .ok (.iconst 0, 1) := by decide +kernel
theorem dX9_tell_120 : decode cX9_tell 120 = .ok (.iload_n 3, 1) := by decide +kernel
theorem dX9_tell_121 : decode cX9_tell 121 = .ok (.iload 7, 2) := by decide +kernel
theorem dX9_tell_123 : decode cX9_tell 123 = .ok (.invokestatic 127, 3) := by decide +kernel
theorem dX9_tell_126 : decode cX9_tell 126 = .ok (.invokestatic 140, 3) := by decide +kernel
theorem dX9_tell_129 : decode cX9_tell 129 = .ok (.ireturn, 1) := by decide +kernel
theorem dX9_tell_130 : decode cX9_tell 130 = .ok (.iinc 5 (-1), 3) := by decide +kernel
theorem dX9_tell_133 : decode cX9_tell 133 = .ok (.goto (-113), 3) := by decide +kernel
theorem dX9_tell_136 : decode cX9_tell 136 = .ok (.iload 4, 2) := by decide +kernel
theorem dX9_tell_138 : decode cX9_tell 138 = .ok (.ireturn, 1) := by decide +kernel
theorem dX9_turnOf_0 : decode cX9_turnOf 0 = .ok (.aload_n 0, 1) := by decide +kernel
theorem dX9_turnOf_1 : decode cX9_turnOf 1 = .ok (.aload_n 1, 1) := by decide +kernel
theorem dX9_turnOf_2 : decode cX9_turnOf 2 = .ok (.iload_n 3, 1) := by decide +kernel
theorem dX9_turnOf_3 : decode cX9_turnOf 3 = .ok (.iconst (-1), 1) := by decide +kernel
theorem dX9_turnOf_4 : decode cX9_turnOf 4 = .ok (.invokevirtual 35, 3) := by decide +kernel
theorem dX9_turnOf_7 : decode cX9_turnOf 7 = .ok (.aload_n 0, 1) := by decide +kernel
theorem dX9_turnOf_8 : decode cX9_turnOf 8 = .ok (.aload_n 2, 1) := by decide +kernel
theorem dX9_turnOf_9 : decode cX9_turnOf 9 = .ok (.iconst 0, 1) := by decide +kernel
theorem dX9_turnOf_10 : decode cX9_turnOf 10 = .ok (.bipush 99, 2) := by decide +kernel
theorem dX9_turnOf_12 : decode cX9_turnOf 12 = .ok (.iconst 0, 1) := by decide +kernel
theorem dX9_turnOf_13 : decode cX9_turnOf 13 = .ok (.invokevirtual 39, 3) := by decide +kernel
theorem dX9_turnOf_16 : decode cX9_turnOf 16 = .ok (.ireturn, 1) := by decide +kernel
theorem dX9_nameSaid_0 : decode cX9_nameSaid 0 = .ok (.aload_n 0, 1) := by decide +kernel
theorem dX9_nameSaid_1 : decode cX9_nameSaid 1 = .ok (.aload_n 1, 1) := by decide +kernel
theorem dX9_nameSaid_2 : decode cX9_nameSaid 2 = .ok (.iload_n 2, 1) := by decide +kernel
theorem dX9_nameSaid_3 : decode cX9_nameSaid 3 = .ok (.iload_n 3, 1) := by decide +kernel
theorem dX9_nameSaid_4 : decode cX9_nameSaid 4 = .ok (.invokevirtual 35, 3) := by decide +kernel
theorem dX9_nameSaid_7 : decode cX9_nameSaid 7 = .ok (.aload_n 0, 1) := by decide +kernel
theorem dX9_nameSaid_8 : decode cX9_nameSaid 8 = .ok (.aload_n 1, 1) := by decide +kernel
theorem dX9_nameSaid_9 : decode cX9_nameSaid 9 = .ok (.invokevirtual 43, 3) := by decide +kernel
theorem dX9_nameSaid_12 : decode cX9_nameSaid 12 = .ok (.iconst 1, 1) := by decide +kernel
theorem dX9_nameSaid_13 : decode cX9_nameSaid 13 = .ok (.bipush 19, 2) := by decide +kernel
theorem dX9_nameSaid_15 : decode cX9_nameSaid 15 = .ok (.aload_n 1, 1) := by decide +kernel
theorem dX9_nameSaid_16 : decode cX9_nameSaid 16 = .ok (.iload_n 3, 1) := by decide +kernel
theorem dX9_nameSaid_17 : decode cX9_nameSaid 17 = .ok (.invokevirtual 47, 3) := by decide +kernel
theorem dX9_nameSaid_20 : decode cX9_nameSaid 20 = .ok (.ifCond .eq 12, 3) := by decide +kernel
theorem dX9_nameSaid_23 : decode cX9_nameSaid 23 = .ok (.aload_n 1, 1) := by decide +kernel
theorem dX9_nameSaid_24 : decode cX9_nameSaid 24 = .ok (.getfield 51, 3) := by decide +kernel
theorem dX9_nameSaid_27 : decode cX9_nameSaid 27 = .ok (.iload_n 3, 1) := by decide +kernel
theorem dX9_nameSaid_28 : decode cX9_nameSaid 28 = .ok (.iaload, 1) := by decide +kernel
theorem dX9_nameSaid_29 : decode cX9_nameSaid 29 = .ok (.goto 4, 3) := by decide +kernel
theorem dX9_nameSaid_32 : decode cX9_nameSaid 32 = .ok (.iconst 0, 1) := by decide +kernel
theorem dX9_nameSaid_33 : decode cX9_nameSaid 33 = .ok (.invokevirtual 39, 3) := by decide +kernel
theorem dX9_nameSaid_36 : decode cX9_nameSaid 36 = .ok (.ireturn, 1) := by decide +kernel
theorem dX9_isBarred_0 : decode cX9_isBarred 0 = .ok (.aload_n 2, 1) := by decide +kernel
theorem dX9_isBarred_1 : decode cX9_isBarred 1 = .ok (.ifnonnull 5, 3) := by decide +kernel
theorem dX9_isBarred_4 : decode cX9_isBarred 4 = .ok (.iconst 0, 1) := by decide +kernel
theorem dX9_isBarred_5 : decode cX9_isBarred 5 = .ok (.ireturn, 1) := by decide +kernel
theorem dX9_isBarred_6 : decode cX9_isBarred 6 = .ok (.aload_n 0, 1) := by decide +kernel
theorem dX9_isBarred_7 : decode cX9_isBarred 7 = .ok (.aload_n 1, 1) := by decide +kernel
theorem dX9_isBarred_8 : decode cX9_isBarred 8 = .ok (.iload_n 3, 1) := by decide +kernel
theorem dX9_isBarred_9 : decode cX9_isBarred 9 = .ok (.iload 4, 2) := by decide +kernel
theorem dX9_isBarred_11 : decode cX9_isBarred 11 = .ok (.invokevirtual 35, 3) := by decide +kernel
theorem dX9_isBarred_14 : decode cX9_isBarred 14 = .ok (.iconst 0, 1) := by decide +kernel
theorem dX9_isBarred_15 : decode cX9_isBarred 15 = .ok (.istore 5, 2) := by decide +kernel
theorem dX9_isBarred_17 : decode cX9_isBarred 17 = .ok (.iload 5, 2) := by decide +kernel
theorem dX9_isBarred_19 : decode cX9_isBarred 19 = .ok (.aload_n 2, 1) := by decide +kernel
theorem dX9_isBarred_20 : decode cX9_isBarred 20 = .ok (.getfield 54, 3) := by decide +kernel
theorem dX9_isBarred_23 : decode cX9_isBarred 23 = .ok (.if_icmp .ge 71, 3) := by decide +kernel
theorem dX9_isBarred_26 : decode cX9_isBarred 26 = .ok (.aload_n 2, 1) := by decide +kernel
theorem dX9_isBarred_27 : decode cX9_isBarred 27 = .ok (.getfield 60, 3) := by decide +kernel
theorem dX9_isBarred_30 : decode cX9_isBarred 30 = .ok (.iload 5, 2) := by decide +kernel
theorem dX9_isBarred_32 : decode cX9_isBarred 32 = .ok (.aaload, 1) := by decide +kernel
theorem dX9_isBarred_33 : decode cX9_isBarred 33 = .ok (.astore 6, 2) := by decide +kernel
theorem dX9_isBarred_35 : decode cX9_isBarred 35 = .ok (.aload 6, 2) := by decide +kernel
theorem dX9_isBarred_37 : decode cX9_isBarred 37 = .ok (.ifnull 51, 3) := by decide +kernel
theorem dX9_isBarred_40 : decode cX9_isBarred 40 = .ok (.aload 6, 2) := by decide +kernel
theorem dX9_isBarred_42 : decode cX9_isBarred 42 = .ok (.getfield 64, 3) := by decide +kernel
theorem dX9_isBarred_45 : decode cX9_isBarred 45 = .ok (.iconst 2, 1) := by decide +kernel
theorem dX9_isBarred_46 : decode cX9_isBarred 46 = .ok (.if_icmp .ne 42, 3) := by decide +kernel
theorem dX9_isBarred_49 : decode cX9_isBarred 49 = .ok (.aload 6, 2) := by decide +kernel
theorem dX9_isBarred_51 : decode cX9_isBarred 51 = .ok (.invokevirtual 69, 3) := by decide +kernel
theorem dX9_isBarred_54 : decode cX9_isBarred 54 = .ok (.ifCond .eq 32, 3) := by decide +kernel
theorem dX9_isBarred_57 : decode cX9_isBarred 57 = .ok (.aload_n 0, 1) := by decide +kernel
theorem dX9_isBarred_58 : decode cX9_isBarred 58 = .ok (.getfield 12, 3) := by decide +kernel
theorem dX9_isBarred_61 : decode cX9_isBarred 61 = .ok (.aload_n 2, 1) := by decide +kernel
theorem dX9_isBarred_62 : decode cX9_isBarred 62 = .ok (.getfield 73, 3) := by decide +kernel
theorem dX9_isBarred_65 : decode cX9_isBarred 65 = .ok (.aload 6, 2) := by decide +kernel
theorem dX9_isBarred_67 : decode cX9_isBarred 67 = .ok (.getfield 76, 3) := by decide +kernel
theorem dX9_isBarred_70 : decode cX9_isBarred 70 = .ok (.aload 6, 2) := by decide +kernel
theorem dX9_isBarred_72 : decode cX9_isBarred 72 = .ok (.getfield 79, 3) := by decide +kernel
theorem dX9_isBarred_75 : decode cX9_isBarred 75 = .ok (.aload_n 0, 1) := by decide +kernel
theorem dX9_isBarred_76 : decode cX9_isBarred 76 = .ok (.getfield 25, 3) := by decide +kernel
theorem dX9_isBarred_79 : decode cX9_isBarred 79 = .ok (.invokevirtual 82, 3) := by decide +kernel
theorem dX9_isBarred_82 : decode cX9_isBarred 82 = .ok (.iconst 1, 1) := by decide +kernel
theorem dX9_isBarred_83 : decode cX9_isBarred 83 = .ok (.if_icmp .ne 5, 3) := by decide +kernel
theorem dX9_isBarred_86 : decode cX9_isBarred 86 = .ok (.iconst 1, 1) := by decide +kernel
theorem dX9_isBarred_87 : decode cX9_isBarred 87 = .ok (.ireturn, 1) := by decide +kernel
theorem dX9_isBarred_88 : decode cX9_isBarred 88 = .ok (.iinc 5 1, 3) := by decide +kernel
theorem dX9_isBarred_91 : decode cX9_isBarred 91 = .ok (.goto (-74), 3) := by decide +kernel
theorem dX9_isBarred_94 : decode cX9_isBarred 94 = .ok (.iconst 0, 1) := by decide +kernel
theorem dX9_isBarred_95 : decode cX9_isBarred 95 = .ok (.ireturn, 1) := by decide +kernel
theorem dX9_laneTaken_0 : decode cX9_laneTaken 0 = .ok (.aload_n 1, 1) := by decide +kernel
theorem dX9_laneTaken_1 : decode cX9_laneTaken 1 = .ok (.iload_n 3, 1) := by decide +kernel
theorem dX9_laneTaken_2 : decode cX9_laneTaken 2 = .ok (.invokevirtual 86, 3) := by decide +kernel
theorem dX9_laneTaken_5 : decode cX9_laneTaken 5 = .ok (.ifCond .ne 5, 3) := by decide +kernel
theorem dX9_laneTaken_8 : decode cX9_laneTaken 8 = .ok (.iconst (-1), 1) := by decide +kernel
theorem dX9_laneTaken_9 : decode cX9_laneTaken 9 = .ok (.ireturn, 1) := by decide +kernel
theorem dX9_laneTaken_10 : decode cX9_laneTaken 10 = .ok (.iconst 0, 1) := by decide +kernel
theorem dX9_laneTaken_11 : decode cX9_laneTaken 11 = .ok (.istore 4, 2) := by decide +kernel
theorem dX9_laneTaken_13 : decode cX9_laneTaken 13 = .ok (.iconst 0, 1) := by decide +kernel
theorem dX9_laneTaken_14 : decode cX9_laneTaken 14 = .ok (.istore 5, 2) := by decide +kernel
theorem dX9_laneTaken_16 : decode cX9_laneTaken 16 = .ok (.iload 5, 2) := by decide +kernel
theorem dX9_laneTaken_18 : decode cX9_laneTaken 18 = .ok (.aload_n 1, 1) := by decide +kernel
theorem dX9_laneTaken_19 : decode cX9_laneTaken 19 = .ok (.getfield 89, 3) := by decide +kernel
theorem dX9_laneTaken_22 : decode cX9_laneTaken 22 = .ok (.if_icmp .ge 58, 3) := by decide +kernel
theorem dX9_laneTaken_25 : decode cX9_laneTaken 25 = .ok (.iload 4, 2) := by decide +kernel
theorem dX9_laneTaken_27 : decode cX9_laneTaken 27 = .ok (.aload_n 0, 1) := by decide +kernel
theorem dX9_laneTaken_28 : decode cX9_laneTaken 28 = .ok (.getfield 29, 3) := by decide +kernel
theorem dX9_laneTaken_31 : decode cX9_laneTaken 31 = .ok (.arraylength, 1) := by decide +kernel
theorem dX9_laneTaken_32 : decode cX9_laneTaken 32 = .ok (.if_icmp .ge 48, 3) := by decide +kernel
theorem dX9_laneTaken_35 : decode cX9_laneTaken 35 = .ok (.aload_n 1, 1) := by decide +kernel
theorem dX9_laneTaken_36 : decode cX9_laneTaken 36 = .ok (.iload 5, 2) := by decide +kernel
theorem dX9_laneTaken_38 : decode cX9_laneTaken 38 = .ok (.aload_n 1, 1) := by decide +kernel
theorem dX9_laneTaken_39 : decode cX9_laneTaken 39 = .ok (.getfield 92, 3) := by decide +kernel
theorem dX9_laneTaken_42 : decode cX9_laneTaken 42 = .ok (.iload_n 3, 1) := by decide +kernel
theorem dX9_laneTaken_43 : decode cX9_laneTaken 43 = .ok (.iaload, 1) := by decide +kernel
theorem dX9_laneTaken_44 : decode cX9_laneTaken 44 = .ok (.invokevirtual 95, 3) := by decide +kernel
theorem dX9_laneTaken_47 : decode cX9_laneTaken 47 = .ok (.ifCond .eq 27, 3) := by decide +kernel
theorem dX9_laneTaken_50 : decode cX9_laneTaken 50 = .ok (.aload_n 0, 1) := by decide +kernel
theorem dX9_laneTaken_51 : decode cX9_laneTaken 51 = .ok (.aload_n 1, 1) := by decide +kernel
theorem dX9_laneTaken_52 : decode cX9_laneTaken 52 = .ok (.aload_n 2, 1) := by decide +kernel
theorem dX9_laneTaken_53 : decode cX9_laneTaken 53 = .ok (.iload_n 3, 1) := by decide +kernel
theorem dX9_laneTaken_54 : decode cX9_laneTaken 54 = .ok (.iload 5, 2) := by decide +kernel
theorem dX9_laneTaken_56 : decode cX9_laneTaken 56 = .ok (.invokevirtual 99, 3) := by decide +kernel
theorem dX9_laneTaken_59 : decode cX9_laneTaken 59 = .ok (.ifCond .ne 15, 3) := by decide +kernel
theorem dX9_laneTaken_62 : decode cX9_laneTaken 62 = .ok (.aload_n 0, 1) := by decide +kernel
theorem dX9_laneTaken_63 : decode cX9_laneTaken 63 = .ok (.getfield 29, 3) := by decide +kernel
theorem dX9_laneTaken_66 : decode cX9_laneTaken 66 = .ok (.iload 4, 2) := by decide +kernel
theorem dX9_laneTaken_68 : decode cX9_laneTaken 68 = .ok (.iload 5, 2) := by decide +kernel
theorem dX9_laneTaken_70 : decode cX9_laneTaken 70 = .ok (.iastore, 1) := by decide +kernel
theorem dX9_laneTaken_71 : decode cX9_laneTaken 71 = .ok (.iinc 4 1, 3) := by decide +kernel
theorem dX9_laneTaken_74 : decode cX9_laneTaken 74 = .ok (.iinc 5 1, 3) := by decide +kernel
theorem dX9_laneTaken_77 : decode cX9_laneTaken 77 = .ok (.goto (-61), 3) := by decide +kernel
theorem dX9_laneTaken_80 : decode cX9_laneTaken 80 = .ok (.iload 4, 2) := by decide +kernel
theorem dX9_laneTaken_82 : decode cX9_laneTaken 82 = .ok (.ifCond .ne 5, 3) := by decide +kernel
theorem dX9_laneTaken_85 : decode cX9_laneTaken 85 = .ok (.iconst (-1), 1) := by decide +kernel
theorem dX9_laneTaken_86 : decode cX9_laneTaken 86 = .ok (.ireturn, 1) := by decide +kernel
theorem dX9_laneTaken_87 : decode cX9_laneTaken 87 = .ok (.aload_n 0, 1) := by decide +kernel
theorem dX9_laneTaken_88 : decode cX9_laneTaken 88 = .ok (.aload_n 1, 1) := by decide +kernel
theorem dX9_laneTaken_89 : decode cX9_laneTaken 89 = .ok (.iload_n 3, 1) := by decide +kernel
theorem dX9_laneTaken_90 : decode cX9_laneTaken 90 = .ok (.iconst (-1), 1) := by decide +kernel
theorem dX9_laneTaken_91 : decode cX9_laneTaken 91 = .ok (.invokevirtual 35, 3) := by decide +kernel
theorem dX9_laneTaken_94 : decode cX9_laneTaken 94 = .ok (.aload_n 0, 1) := by decide +kernel
theorem dX9_laneTaken_95 : decode cX9_laneTaken 95 = .ok (.aload_n 2, 1) := by decide +kernel
theorem dX9_laneTaken_96 : decode cX9_laneTaken 96 = .ok (.iconst 0, 1) := by decide +kernel
theorem dX9_laneTaken_97 : decode cX9_laneTaken 97 = .ok (.bipush 99, 2) := by decide +kernel
theorem dX9_laneTaken_99 : decode cX9_laneTaken 99 = .ok (.iconst 0, 1) := by decide +kernel
theorem dX9_laneTaken_100 : decode cX9_laneTaken 100 = .ok (.invokevirtual 39, 3) := by decide +kernel
theorem dX9_laneTaken_103 : decode cX9_laneTaken 103 = .ok (.iload 4, 2) := by decide +kernel
theorem dX9_laneTaken_105 : decode cX9_laneTaken 105 = .ok (.irem, 1) := by decide +kernel
theorem dX9_laneTaken_106 : decode cX9_laneTaken 106 = .ok (.istore 5, 2) := by decide +kernel
theorem dX9_laneTaken_108 : decode cX9_laneTaken 108 = .ok (.iload 5, 2) := by decide +kernel
theorem dX9_laneTaken_110 : decode cX9_laneTaken 110 = .ok (.ifCond .lt 20, 3) := by decide +kernel
theorem dX9_laneTaken_113 : decode cX9_laneTaken 113 = .ok (.iload 5, 2) := by decide +kernel
theorem dX9_laneTaken_115 : decode cX9_laneTaken 115 = .ok (.iload 4, 2) := by decide +kernel
theorem dX9_laneTaken_117 : decode cX9_laneTaken 117 = .ok (.if_icmp .ge 13, 3) := by decide +kernel
theorem dX9_laneTaken_120 : decode cX9_laneTaken 120 = .ok (.aload_n 0, 1) := by decide +kernel
theorem dX9_laneTaken_121 : decode cX9_laneTaken 121 = .ok (.getfield 29, 3) := by decide +kernel
theorem dX9_laneTaken_124 : decode cX9_laneTaken 124 = .ok (.iload 5, 2) := by decide +kernel
theorem dX9_laneTaken_126 : decode cX9_laneTaken 126 = .ok (.iaload, 1) := by decide +kernel
theorem dX9_laneTaken_127 : decode cX9_laneTaken 127 = .ok (.goto 4, 3) := by decide +kernel
theorem dX9_laneTaken_130 : decode cX9_laneTaken 130 = .ok (.iconst (-1), 1) := by decide +kernel
theorem dX9_laneTaken_131 : decode cX9_laneTaken 131 = .ok (.ireturn, 1) := by decide +kernel
theorem dX9_follow_0 : decode cX9_follow 0 = .ok (.aload_n 1, 1) := by decide +kernel
theorem dX9_follow_1 : decode cX9_follow 1 = .ok (.iload_n 2, 1) := by decide +kernel
theorem dX9_follow_2 : decode cX9_follow 2 = .ok (.invokevirtual 86, 3) := by decide +kernel
theorem dX9_follow_5 : decode cX9_follow 5 = .ok (.ifCond .ne 4, 3) := by decide +kernel
theorem dX9_follow_8 : decode cX9_follow 8 = .ok (.return_, 1) := by decide +kernel
theorem dX9_follow_9 : decode cX9_follow 9 = .ok (.aload_n 0, 1) := by decide +kernel
theorem dX9_follow_10 : decode cX9_follow 10 = .ok (.getfield 21, 3) := by decide +kernel
theorem dX9_follow_13 : decode cX9_follow 13 = .ok (.aload_n 1, 1) := by decide +kernel
theorem dX9_follow_14 : decode cX9_follow 14 = .ok (.invokevirtual 103, 3) := by decide +kernel
theorem dX9_follow_17 : decode cX9_follow 17 = .ok (.aload_n 0, 1) := by decide +kernel
theorem dX9_follow_18 : decode cX9_follow 18 = .ok (.getfield 32, 3) := by decide +kernel
theorem dX9_follow_21 : decode cX9_follow 21 = .ok (.iconst 0, 1) := by decide +kernel
theorem dX9_follow_22 : decode cX9_follow 22 = .ok (.aload_n 0, 1) := by decide +kernel
theorem dX9_follow_23 : decode cX9_follow 23 = .ok (.getfield 21, 3) := by decide +kernel
theorem dX9_follow_26 : decode cX9_follow 26 = .ok (.getfield 92, 3) := by decide +kernel
theorem dX9_follow_29 : decode cX9_follow 29 = .ok (.iload_n 2, 1) := by decide +kernel
theorem dX9_follow_30 : decode cX9_follow 30 = .ok (.iaload, 1) := by decide +kernel
theorem dX9_follow_31 : decode cX9_follow 31 = .ok (.iastore, 1) := by decide +kernel
theorem dX9_follow_32 : decode cX9_follow 32 = .ok (.iconst 1, 1) := by decide +kernel
theorem dX9_follow_33 : decode cX9_follow 33 = .ok (.istore 4, 2) := by decide +kernel
theorem dX9_follow_35 : decode cX9_follow 35 = .ok (.iload 4, 2) := by decide +kernel
theorem dX9_follow_37 : decode cX9_follow 37 = .ok (.iload_n 3, 1) := by decide +kernel
theorem dX9_follow_38 : decode cX9_follow 38 = .ok (.if_icmp .gt 82, 3) := by decide +kernel
theorem dX9_follow_41 : decode cX9_follow 41 = .ok (.iload 4, 2) := by decide +kernel
theorem dX9_follow_43 : decode cX9_follow 43 = .ok (.aload_n 0, 1) := by decide +kernel
theorem dX9_follow_44 : decode cX9_follow 44 = .ok (.getfield 32, 3) := by decide +kernel
theorem dX9_follow_47 : decode cX9_follow 47 = .ok (.arraylength, 1) := by decide +kernel
theorem dX9_follow_48 : decode cX9_follow 48 = .ok (.if_icmp .ge 72, 3) := by decide +kernel
theorem dX9_follow_51 : decode cX9_follow 51 = .ok (.aload_n 0, 1) := by decide +kernel
theorem dX9_follow_52 : decode cX9_follow 52 = .ok (.aload_n 0, 1) := by decide +kernel
theorem dX9_follow_53 : decode cX9_follow 53 = .ok (.getfield 21, 3) := by decide +kernel
theorem dX9_follow_56 : decode cX9_follow 56 = .ok (.aload_n 0, 1) := by decide +kernel
theorem dX9_follow_57 : decode cX9_follow 57 = .ok (.getfield 21, 3) := by decide +kernel
theorem dX9_follow_60 : decode cX9_follow 60 = .ok (.invokevirtual 43, 3) := by decide +kernel
theorem dX9_follow_63 : decode cX9_follow 63 = .ok (.iload_n 2, 1) := by decide +kernel
theorem dX9_follow_64 : decode cX9_follow 64 = .ok (.invokevirtual 107, 3) := by decide +kernel
theorem dX9_follow_67 : decode cX9_follow 67 = .ok (.istore 5, 2) := by decide +kernel
theorem dX9_follow_69 : decode cX9_follow 69 = .ok (.iload 5, 2) := by decide +kernel
theorem dX9_follow_71 : decode cX9_follow 71 = .ok (.iconst (-1), 1) := by decide +kernel
theorem dX9_follow_72 : decode cX9_follow 72 = .ok (.if_icmp .eq 13, 3) := by decide +kernel
theorem dX9_follow_75 : decode cX9_follow 75 = .ok (.aload_n 0, 1) := by decide +kernel
theorem dX9_follow_76 : decode cX9_follow 76 = .ok (.getfield 21, 3) := by decide +kernel
theorem dX9_follow_79 : decode cX9_follow 79 = .ok (.iload_n 2, 1) := by decide +kernel
theorem dX9_follow_80 : decode cX9_follow 80 = .ok (.iload 5, 2) := by decide +kernel
theorem dX9_follow_82 : decode cX9_follow 82 = .ok (.invokevirtual 111, 3) := by decide +kernel
theorem dX9_follow_85 : decode cX9_follow 85 = .ok (.aload_n 0, 1) := by decide +kernel
theorem dX9_follow_86 : decode cX9_follow 86 = .ok (.getfield 21, 3) := by decide +kernel
theorem dX9_follow_89 : decode cX9_follow 89 = .ok (.getfield 115, 3) := by decide +kernel
theorem dX9_follow_92 : decode cX9_follow 92 = .ok (.iconst 0, 1) := by decide +kernel
theorem dX9_follow_93 : decode cX9_follow 93 = .ok (.dup2, 1) := by decide +kernel
theorem dX9_follow_94 : decode cX9_follow 94 = .ok (.iaload, 1) := by decide +kernel
theorem dX9_follow_95 : decode cX9_follow 95 = .ok (.iconst 1, 1) := by decide +kernel
theorem dX9_follow_96 : decode cX9_follow 96 = .ok (.iadd, 1) := by decide +kernel
theorem dX9_follow_97 : decode cX9_follow 97 = .ok (.iastore, 1) := by decide +kernel
theorem dX9_follow_98 : decode cX9_follow 98 = .ok (.aload_n 0, 1) := by decide +kernel
theorem dX9_follow_99 : decode cX9_follow 99 = .ok (.getfield 32, 3) := by decide +kernel
theorem dX9_follow_102 : decode cX9_follow 102 = .ok (.iload 4, 2) := by decide +kernel
theorem dX9_follow_104 : decode cX9_follow 104 = .ok (.aload_n 0, 1) := by decide +kernel
theorem dX9_follow_105 : decode cX9_follow 105 = .ok (.getfield 21, 3) := by decide +kernel
theorem dX9_follow_108 : decode cX9_follow 108 = .ok (.getfield 92, 3) := by decide +kernel
theorem dX9_follow_111 : decode cX9_follow 111 = .ok (.iload_n 2, 1) := by decide +kernel
theorem dX9_follow_112 : decode cX9_follow 112 = .ok (.iaload, 1) := by decide +kernel
theorem dX9_follow_113 : decode cX9_follow 113 = .ok (.iastore, 1) := by decide +kernel
theorem dX9_follow_114 : decode cX9_follow 114 = .ok (.iinc 4 1, 3) := by decide +kernel
theorem dX9_follow_117 : decode cX9_follow 117 = .ok (.goto (-82), 3) := by decide +kernel
theorem dX9_follow_120 : decode cX9_follow 120 = .ok (.return_, 1) := by decide +kernel
theorem dX10_accept_0 : decode cX10_accept 0 = .ok (.aload_n 0, 1) := by decide +kernel
theorem dX10_accept_1 : decode cX10_accept 1 = .ok (.iconst 0, 1) := by decide +kernel
theorem dX10_accept_2 : decode cX10_accept 2 = .ok (.putfield 377, 3) := by decide +kernel
theorem dX10_accept_5 : decode cX10_accept 5 = .ok (.iload_n 1, 1) := by decide +kernel
theorem dX10_accept_6 : decode cX10_accept 6 = .ok (.ireturn, 1) := by decide +kernel
theorem dX10_canBeLane_0 : decode cX10_canBeLane 0 = .ok (.iload_n 0, 1) := by decide +kernel
theorem dX10_canBeLane_1 : decode cX10_canBeLane 1 = .ok (.invokestatic 129, 3) := by decide +kernel
theorem dX10_canBeLane_4 : decode cX10_canBeLane 4 = .ok (.ifCond .eq 39, 3) := by decide +kernel
theorem dX10_canBeLane_7 : decode cX10_canBeLane 7 = .ok (.iload_n 1, 1) := by decide +kernel
theorem dX10_canBeLane_8 : decode cX10_canBeLane 8 = .ok (.invokestatic 129, 3) := by decide +kernel
theorem dX10_canBeLane_11 : decode cX10_canBeLane 11 = .ok (.ifCond .eq 32, 3) := by decide +kernel
theorem dX10_canBeLane_14 : decode cX10_canBeLane 14 = .ok (.iload_n 0, 1) := by decide +kernel
theorem dX10_canBeLane_15 : decode cX10_canBeLane 15 = .ok (.iload_n 1, 1) := by decide +kernel
theorem dX10_canBeLane_16 : decode cX10_canBeLane 16 = .ok (.if_icmp .eq 27, 3) := by decide +kernel
theorem dX10_canBeLane_19 : decode cX10_canBeLane 19 = .ok (.iload_n 2, 1) := by decide +kernel
theorem dX10_canBeLane_20 : decode cX10_canBeLane 20 = .ok (.iconst 1, 1) := by decide +kernel
theorem dX10_canBeLane_21 : decode cX10_canBeLane 21 = .ok (.if_icmp .lt 22, 3) := by decide +kernel
theorem dX10_canBeLane_24 : decode cX10_canBeLane 24 = .ok (.iload_n 2, 1) := by decide +kernel
theorem dX10_canBeLane_25 : decode cX10_canBeLane 25 = .ok (.bipush 9, 2) := by decide +kernel
theorem dX10_canBeLane_27 : decode cX10_canBeLane 27 = .ok (.if_icmp .gt 16, 3) := by decide +kernel
theorem dX10_canBeLane_30 : decode cX10_canBeLane 30 = .ok (.iload_n 3, 1) := by decide +kernel
theorem dX10_canBeLane_31 : decode cX10_canBeLane 31 = .ok (.ifCond .lt 12, 3) := by decide +kernel
theorem dX10_canBeLane_34 : decode cX10_canBeLane 34 = .ok (.iload_n 3, 1) := by decide +kernel
theorem dX10_canBeLane_35 : decode cX10_canBeLane 35 = .ok (.iconst 4, 1) := by decide +kernel
theorem dX10_canBeLane_36 : decode cX10_canBeLane 36 = .ok (.if_icmp .gt 7, 3) := by decide +kernel
theorem dX10_canBeLane_39 : decode cX10_canBeLane 39 = .ok (.iconst 1, 1) := by decide +kernel
theorem dX10_canBeLane_40 : decode cX10_canBeLane 40 = .ok (.goto 4, 3) := by decide +kernel
theorem dX10_canBeLane_43 : decode cX10_canBeLane 43 = .ok (.iconst 0, 1) := by decide +kernel
theorem dX10_canBeLane_44 : decode cX10_canBeLane 44 = .ok (.ireturn, 1) := by decide +kernel
theorem dX10_refuse_0 : decode cX10_refuse 0 = .ok (.aload_n 0, 1) := by decide +kernel
theorem dX10_refuse_1 : decode cX10_refuse 1 = .ok (.iload_n 1, 1) := by decide +kernel
theorem dX10_refuse_2 : decode cX10_refuse 2 = .ok (.putfield 377, 3) := by decide +kernel
theorem dX10_refuse_5 : decode cX10_refuse 5 = .ok (.iload_n 1, 1) := by decide +kernel
theorem dX10_refuse_6 : decode cX10_refuse 6 = .ok (.ineg, 1) := by decide +kernel
theorem dX10_refuse_7 : decode cX10_refuse 7 = .ok (.istore_n 2, 1) := by decide +kernel
theorem dX10_refuse_8 : decode cX10_refuse 8 = .ok (.iload_n 2, 1) := by decide +kernel
theorem dX10_refuse_9 : decode cX10_refuse 9 = .ok (.ifCond .lt 22, 3) := by decide +kernel
theorem dX10_refuse_12 : decode cX10_refuse 12 = .ok (.iload_n 2, 1) := by decide +kernel
theorem dX10_refuse_13 : decode cX10_refuse 13 = .ok (.aload_n 0, 1) := by decide +kernel
theorem dX10_refuse_14 : decode cX10_refuse 14 = .ok (.getfield 78, 3) := by decide +kernel
theorem dX10_refuse_17 : decode cX10_refuse 17 = .ok (.arraylength, 1) := by decide +kernel
theorem dX10_refuse_18 : decode cX10_refuse 18 = .ok (.if_icmp .ge 13, 3) := by decide +kernel
theorem dX10_refuse_21 : decode cX10_refuse 21 = .ok (.aload_n 0, 1) := by decide +kernel
theorem dX10_refuse_22 : decode cX10_refuse 22 = .ok (.getfield 78, 3) := by decide +kernel
theorem dX10_refuse_25 : decode cX10_refuse 25 = .ok (.iload_n 2, 1) := by decide +kernel
theorem dX10_refuse_26 : decode cX10_refuse 26 = .ok (.dup2, 1) := by decide +kernel
theorem dX10_refuse_27 : decode cX10_refuse 27 = .ok (.iaload, 1) := by decide +kernel
theorem dX10_refuse_28 : decode cX10_refuse 28 = .ok (.iconst 1, 1) := by decide +kernel
theorem dX10_refuse_29 : decode cX10_refuse 29 = .ok (.iadd, 1) := by decide +kernel
theorem dX10_refuse_30 : decode cX10_refuse 30 = .ok (.iastore, 1) := by decide +kernel
theorem dX10_refuse_31 : decode cX10_refuse 31 = .ok (.iload_n 1, 1) := by decide +kernel
theorem dX10_refuse_32 : decode cX10_refuse 32 = .ok (.ireturn, 1) := by decide +kernel
theorem dX10_lane_0 : decode cX10_lane 0 = .ok (.iload_n 1, 1) := by decide +kernel
theorem dX10_lane_1 : decode cX10_lane 1 = .ok (.iload_n 2, 1) := by decide +kernel
theorem dX10_lane_2 : decode cX10_lane 2 = .ok (.iload_n 3, 1) := by decide +kernel
theorem dX10_lane_3 : decode cX10_lane 3 = .ok (.iload 4, 2) := by decide +kernel
theorem dX10_lane_5 : decode cX10_lane 5 = .ok (.invokestatic 89, 3) := by decide +kernel
theorem dX10_lane_8 : decode cX10_lane 8 = .ok (.ifCond .ne 9, 3) := by decide +kernel
theorem dX10_lane_11 : decode cX10_lane 11 = .ok (.aload_n 0, 1) := by decide +kernel
theorem dX10_lane_12 : decode cX10_lane 12 = .ok (.iconst (-1), 1) := by decide +kernel
theorem dX10_lane_13 : decode cX10_lane 13 = .ok (.invokevirtual 93, 3) := by decide +kernel
theorem dX10_lane_16 : decode cX10_lane 16 = .ok (.ireturn, 1) := by decide +kernel
theorem dX10_lane_17 : decode cX10_lane 17 = .ok (.aload_n 0, 1) := by decide +kernel
theorem dX10_lane_18 : decode cX10_lane 18 = .ok (.getfield 12, 3) := by decide +kernel
theorem dX10_lane_21 : decode cX10_lane 21 = .ok (.getfield 97, 3) := by decide +kernel
theorem dX10_lane_24 : decode cX10_lane 24 = .ok (.bipush 10, 2) := by decide +kernel
theorem dX10_lane_26 : decode cX10_lane 26 = .ok (.if_icmp .lt 10, 3) := by decide +kernel
theorem dX10_lane_29 : decode cX10_lane 29 = .ok (.aload_n 0, 1) := by decide +kernel
theorem dX10_lane_30 : decode cX10_lane 30 = .ok (.bipush (-5), 2) := by decide +kernel
theorem dX10_lane_32 : decode cX10_lane 32 = .ok (.invokevirtual 93, 3) := by decide +kernel
theorem dX10_lane_35 : decode cX10_lane 35 = .ok (.ireturn, 1) := by decide +kernel
theorem dX10_lane_36 : decode cX10_lane 36 = .ok (.aload_n 0, 1) := by decide +kernel
theorem dX10_lane_37 : decode cX10_lane 37 = .ok (.getfield 29, 3) := by decide +kernel
theorem dX10_lane_40 : decode cX10_lane 40 = .ok (.iconst 0, 1) := by decide +kernel
theorem dX10_lane_41 : decode cX10_lane 41 = .ok (.putfield 100, 3) := by decide +kernel
theorem dX10_lane_44 : decode cX10_lane 44 = .ok (.aload_n 0, 1) := by decide +kernel
theorem dX10_lane_45 : decode cX10_lane 45 = .ok (.aload_n 0, 1) := by decide +kernel
theorem dX10_lane_46 : decode cX10_lane 46 = .ok (.getfield 12, 3) := by decide +kernel
theorem dX10_lane_49 : decode cX10_lane 49 = .ok (.iload_n 1, 1) := by decide +kernel
theorem dX10_lane_50 : decode cX10_lane 50 = .ok (.iload_n 2, 1) := by decide +kernel
theorem dX10_lane_51 : decode cX10_lane 51 = .ok (.iload_n 3, 1) := by decide +kernel
theorem dX10_lane_52 : decode cX10_lane 52 = .ok (.iload 4, 2) := by decide +kernel
theorem dX10_lane_54 : decode cX10_lane 54 = .ok (.invokevirtual 103, 3) := by decide +kernel
theorem dX10_lane_57 : decode cX10_lane 57 = .ok (.invokevirtual 107, 3) := by decide +kernel
theorem dX10_lane_60 : decode cX10_lane 60 = .ok (.ireturn, 1) := by decide +kernel
theorem dX10_at_0 : decode cX10_at 0 = .ok (.aload_n 0, 1) := by decide +kernel
theorem dX10_at_1 : decode cX10_at 1 = .ok (.getfield 12, 3) := by decide +kernel
theorem dX10_at_4 : decode cX10_at 4 = .ok (.iload_n 1, 1) := by decide +kernel
theorem dX10_at_5 : decode cX10_at 5 = .ok (.invokevirtual 110, 3) := by decide +kernel
theorem dX10_at_8 : decode cX10_at 8 = .ok (.ifCond .ne 5, 3) := by decide +kernel
theorem dX10_at_11 : decode cX10_at 11 = .ok (.iconst (-1), 1) := by decide +kernel
theorem dX10_at_12 : decode cX10_at 12 = .ok (.ireturn, 1) := by decide +kernel
theorem dX10_at_13 : decode cX10_at 13 = .ok (.iload_n 2, 1) := by decide +kernel
theorem dX10_at_14 : decode cX10_at 14 = .ok (.tableswitch 84 0 4 #[34, 44, 54, 64, 74], 34) := by decide +kernel
theorem dX10_at_48 : decode cX10_at 48 = .ok (.aload_n 0, 1) := by decide +kernel
theorem dX10_at_49 : decode cX10_at 49 = .ok (.getfield 12, 3) := by decide +kernel
theorem dX10_at_52 : decode cX10_at 52 = .ok (.getfield 114, 3) := by decide +kernel
theorem dX10_at_55 : decode cX10_at 55 = .ok (.iload_n 1, 1) := by decide +kernel
theorem dX10_at_56 : decode cX10_at 56 = .ok (.iaload, 1) := by decide +kernel
theorem dX10_at_57 : decode cX10_at 57 = .ok (.ireturn, 1) := by decide +kernel
theorem dX10_at_58 : decode cX10_at 58 = .ok (.aload_n 0, 1) := by decide +kernel
theorem dX10_at_59 : decode cX10_at 59 = .ok (.getfield 12, 3) := by decide +kernel
theorem dX10_at_62 : decode cX10_at 62 = .ok (.getfield 117, 3) := by decide +kernel
theorem dX10_at_65 : decode cX10_at 65 = .ok (.iload_n 1, 1) := by decide +kernel
theorem dX10_at_66 : decode cX10_at 66 = .ok (.iaload, 1) := by decide +kernel
theorem dX10_at_67 : decode cX10_at 67 = .ok (.ireturn, 1) := by decide +kernel
theorem dX10_at_68 : decode cX10_at 68 = .ok (.aload_n 0, 1) := by decide +kernel
theorem dX10_at_69 : decode cX10_at 69 = .ok (.getfield 12, 3) := by decide +kernel
theorem dX10_at_72 : decode cX10_at 72 = .ok (.getfield 120, 3) := by decide +kernel
theorem dX10_at_75 : decode cX10_at 75 = .ok (.iload_n 1, 1) := by decide +kernel
theorem dX10_at_76 : decode cX10_at 76 = .ok (.iaload, 1) := by decide +kernel
theorem dX10_at_77 : decode cX10_at 77 = .ok (.ireturn, 1) := by decide +kernel
theorem dX10_at_78 : decode cX10_at 78 = .ok (.aload_n 0, 1) := by decide +kernel
theorem dX10_at_79 : decode cX10_at 79 = .ok (.getfield 12, 3) := by decide +kernel
theorem dX10_at_82 : decode cX10_at 82 = .ok (.getfield 123, 3) := by decide +kernel
theorem dX10_at_85 : decode cX10_at 85 = .ok (.iload_n 1, 1) := by decide +kernel
theorem dX10_at_86 : decode cX10_at 86 = .ok (.iaload, 1) := by decide +kernel
theorem dX10_at_87 : decode cX10_at 87 = .ok (.ireturn, 1) := by decide +kernel
theorem dX10_at_88 : decode cX10_at 88 = .ok (.aload_n 0, 1) := by decide +kernel
theorem dX10_at_89 : decode cX10_at 89 = .ok (.getfield 12, 3) := by decide +kernel
theorem dX10_at_92 : decode cX10_at 92 = .ok (.getfield 126, 3) := by decide +kernel
theorem dX10_at_95 : decode cX10_at 95 = .ok (.iload_n 1, 1) := by decide +kernel
theorem dX10_at_96 : decode cX10_at 96 = .ok (.iaload, 1) := by decide +kernel
theorem dX10_at_97 : decode cX10_at 97 = .ok (.ireturn, 1) := by decide +kernel
theorem dX10_at_98 : decode cX10_at 98 = .ok (.iconst (-1), 1) := by decide +kernel
theorem dX10_at_99 : decode cX10_at 99 = .ok (.ireturn, 1) := by decide +kernel
theorem dX10_child_0 : decode cX10_child 0 = .ok (.iload_n 1, 1) := by decide +kernel
theorem dX10_child_1 : decode cX10_child 1 = .ok (.iconst 1, 1) := by decide +kernel
theorem dX10_child_2 : decode cX10_child 2 = .ok (.if_icmp .lt 16, 3) := by decide +kernel
theorem dX10_child_5 : decode cX10_child 5 = .ok (.iload_n 1, 1) := by decide +kernel
theorem dX10_child_6 : decode cX10_child 6 = .ok (.bipush 9, 2) := by decide +kernel
theorem dX10_child_8 : decode cX10_child 8 = .ok (.if_icmp .gt 10, 3) := by decide +kernel
theorem dX10_child_11 : decode cX10_child 11 = .ok (.iload_n 2, 1) := by decide +kernel
theorem dX10_child_12 : decode cX10_child 12 = .ok (.invokestatic 129, 3) := by decide +kernel
theorem dX10_child_15 : decode cX10_child 15 = .ok (.ifCond .ne 9, 3) := by decide +kernel
theorem dX10_child_18 : decode cX10_child 18 = .ok (.aload_n 0, 1) := by decide +kernel
theorem dX10_child_19 : decode cX10_child 19 = .ok (.iconst (-1), 1) := by decide +kernel
theorem dX10_child_20 : decode cX10_child 20 = .ok (.invokevirtual 93, 3) := by decide +kernel
theorem dX10_child_23 : decode cX10_child 23 = .ok (.ireturn, 1) := by decide +kernel
theorem dX10_child_24 : decode cX10_child 24 = .ok (.aload_n 0, 1) := by decide +kernel
theorem dX10_child_25 : decode cX10_child 25 = .ok (.getfield 12, 3) := by decide +kernel
theorem dX10_child_28 : decode cX10_child 28 = .ok (.getfield 132, 3) := by decide +kernel
theorem dX10_child_31 : decode cX10_child 31 = .ok (.iconst 4, 1) := by decide +kernel
theorem dX10_child_32 : decode cX10_child 32 = .ok (.if_icmp .lt 10, 3) := by decide +kernel
theorem dX10_child_35 : decode cX10_child 35 = .ok (.aload_n 0, 1) := by decide +kernel
theorem dX10_child_36 : decode cX10_child 36 = .ok (.bipush (-5), 2) := by decide +kernel
theorem dX10_child_38 : decode cX10_child 38 = .ok (.invokevirtual 93, 3) := by decide +kernel
theorem dX10_child_41 : decode cX10_child 41 = .ok (.ireturn, 1) := by decide +kernel
theorem dX10_child_42 : decode cX10_child 42 = .ok (.aload_n 0, 1) := by decide +kernel
theorem dX10_child_43 : decode cX10_child 43 = .ok (.getfield 29, 3) := by decide +kernel
theorem dX10_child_46 : decode cX10_child 46 = .ok (.iconst 0, 1) := by decide +kernel
theorem dX10_child_47 : decode cX10_child 47 = .ok (.putfield 100, 3) := by decide +kernel
theorem dX10_child_50 : decode cX10_child 50 = .ok (.aload_n 0, 1) := by decide +kernel
theorem dX10_child_51 : decode cX10_child 51 = .ok (.aload_n 0, 1) := by decide +kernel
theorem dX10_child_52 : decode cX10_child 52 = .ok (.getfield 12, 3) := by decide +kernel
theorem dX10_child_55 : decode cX10_child 55 = .ok (.iload_n 1, 1) := by decide +kernel
theorem dX10_child_56 : decode cX10_child 56 = .ok (.iload_n 2, 1) := by decide +kernel
theorem dX10_child_57 : decode cX10_child 57 = .ok (.invokevirtual 135, 3) := by decide +kernel
theorem dX10_child_60 : decode cX10_child 60 = .ok (.invokevirtual 107, 3) := by decide +kernel
theorem dX10_child_63 : decode cX10_child 63 = .ok (.ireturn, 1) := by decide +kernel
theorem dX10_of_0 : decode cX10_of 0 = .ok (.aload_n 0, 1) := by decide +kernel
theorem dX10_of_1 : decode cX10_of 1 = .ok (.getfield 12, 3) := by decide +kernel
theorem dX10_of_4 : decode cX10_of 4 = .ok (.iload_n 1, 1) := by decide +kernel
theorem dX10_of_5 : decode cX10_of 5 = .ok (.invokevirtual 139, 3) := by decide +kernel
theorem dX10_of_8 : decode cX10_of 8 = .ok (.ifCond .ne 5, 3) := by decide +kernel
theorem dX10_of_11 : decode cX10_of 11 = .ok (.iconst (-1), 1) := by decide +kernel
theorem dX10_of_12 : decode cX10_of 12 = .ok (.ireturn, 1) := by decide +kernel
theorem dX10_of_13 : decode cX10_of 13 = .ok (.iload_n 2, 1) := by decide +kernel
theorem dX10_of_14 : decode cX10_of 14 = .ok (.tableswitch 104 0 4 #[34, 44, 54, 64, 84], 34) := by decide +kernel
theorem dX10_of_48 : decode cX10_of 48 = .ok (.aload_n 0, 1) := by decide +kernel
theorem dX10_of_49 : decode cX10_of 49 = .ok (.getfield 12, 3) := by decide +kernel
theorem dX10_of_52 : decode cX10_of 52 = .ok (.getfield 142, 3) := by decide +kernel
theorem dX10_of_55 : decode cX10_of 55 = .ok (.iload_n 1, 1) := by decide +kernel
theorem dX10_of_56 : decode cX10_of 56 = .ok (.iaload, 1) := by decide +kernel
theorem dX10_of_57 : decode cX10_of 57 = .ok (.ireturn, 1) := by decide +kernel
theorem dX10_of_58 : decode cX10_of 58 = .ok (.aload_n 0, 1) := by decide +kernel
theorem dX10_of_59 : decode cX10_of 59 = .ok (.getfield 12, 3) := by decide +kernel
theorem dX10_of_62 : decode cX10_of 62 = .ok (.getfield 145, 3) := by decide +kernel
theorem dX10_of_65 : decode cX10_of 65 = .ok (.iload_n 1, 1) := by decide +kernel
theorem dX10_of_66 : decode cX10_of 66 = .ok (.iaload, 1) := by decide +kernel
theorem dX10_of_67 : decode cX10_of 67 = .ok (.ireturn, 1) := by decide +kernel
theorem dX10_of_68 : decode cX10_of 68 = .ok (.aload_n 0, 1) := by decide +kernel
theorem dX10_of_69 : decode cX10_of 69 = .ok (.getfield 12, 3) := by decide +kernel
theorem dX10_of_72 : decode cX10_of 72 = .ok (.getfield 148, 3) := by decide +kernel
theorem dX10_of_75 : decode cX10_of 75 = .ok (.iload_n 1, 1) := by decide +kernel
theorem dX10_of_76 : decode cX10_of 76 = .ok (.iaload, 1) := by decide +kernel
theorem dX10_of_77 : decode cX10_of 77 = .ok (.ireturn, 1) := by decide +kernel
theorem dX10_of_78 : decode cX10_of 78 = .ok (.aload_n 0, 1) := by decide +kernel
theorem dX10_of_79 : decode cX10_of 79 = .ok (.getfield 51, 3) := by decide +kernel
theorem dX10_of_82 : decode cX10_of 82 = .ok (.aload_n 0, 1) := by decide +kernel
theorem dX10_of_83 : decode cX10_of 83 = .ok (.getfield 12, 3) := by decide +kernel
theorem dX10_of_86 : decode cX10_of 86 = .ok (.aload_n 0, 1) := by decide +kernel
theorem dX10_of_87 : decode cX10_of 87 = .ok (.getfield 12, 3) := by decide +kernel
theorem dX10_of_90 : decode cX10_of 90 = .ok (.invokevirtual 151, 3) := by decide +kernel
theorem dX10_of_93 : decode cX10_of 93 = .ok (.iload_n 1, 1) := by decide +kernel
theorem dX10_of_94 : decode cX10_of 94 = .ok (.invokevirtual 155, 3) := by decide +kernel
theorem dX10_of_97 : decode cX10_of 97 = .ok (.ireturn, 1) := by decide +kernel
theorem dX10_of_98 : decode cX10_of 98 = .ok (.aload_n 0, 1) := by decide +kernel
theorem dX10_of_99 : decode cX10_of 99 = .ok (.getfield 51, 3) := by decide +kernel
theorem dX10_of_102 : decode cX10_of 102 = .ok (.aload_n 0, 1) := by decide +kernel
theorem dX10_of_103 : decode cX10_of 103 = .ok (.getfield 12, 3) := by decide +kernel
theorem dX10_of_106 : decode cX10_of 106 = .ok (.aload_n 0, 1) := by decide +kernel
theorem dX10_of_107 : decode cX10_of 107 = .ok (.getfield 12, 3) := by decide +kernel
theorem dX10_of_110 : decode cX10_of 110 = .ok (.invokevirtual 151, 3) := by decide +kernel
theorem dX10_of_113 : decode cX10_of 113 = .ok (.iload_n 1, 1) := by decide +kernel
theorem dX10_of_114 : decode cX10_of 114 = .ok (.invokevirtual 159, 3) := by decide +kernel
theorem dX10_of_117 : decode cX10_of 117 = .ok (.ireturn, 1) := by decide +kernel
theorem dX10_of_118 : decode cX10_of 118 = .ok (.iconst (-1), 1) := by decide +kernel
theorem dX10_of_119 : decode cX10_of 119 = .ok (.ireturn, 1) := by decide +kernel
theorem dX10_asks_0 : decode cX10_asks 0 = .ok (.aload_n 0, 1) := by decide +kernel
theorem dX10_asks_1 : decode cX10_asks 1 = .ok (.getfield 12, 3) := by decide +kernel
theorem dX10_asks_4 : decode cX10_asks 4 = .ok (.iload_n 1, 1) := by decide +kernel
theorem dX10_asks_5 : decode cX10_asks 5 = .ok (.invokevirtual 139, 3) := by decide +kernel
theorem dX10_asks_8 : decode cX10_asks 8 = .ok (.ifCond .eq 14, 3) := by decide +kernel
theorem dX10_asks_11 : decode cX10_asks 11 = .ok (.aload_n 0, 1) := by decide +kernel
theorem dX10_asks_12 : decode cX10_asks 12 = .ok (.getfield 12, 3) := by decide +kernel
theorem dX10_asks_15 : decode cX10_asks 15 = .ok (.iload_n 2, 1) := by decide +kernel
theorem dX10_asks_16 : decode cX10_asks 16 = .ok (.invokevirtual 110, 3) := by decide +kernel
theorem dX10_asks_19 : decode cX10_asks 19 = .ok (.ifCond .ne 5, 3) := by decide +kernel
theorem dX10_asks_22 : decode cX10_asks 22 = .ok (.iconst (-1), 1) := by decide +kernel
theorem dX10_asks_23 : decode cX10_asks 23 = .ok (.ireturn, 1) := by decide +kernel
theorem dX10_asks_24 : decode cX10_asks 24 = .ok (.iload_n 3, 1) := by decide +kernel
theorem dX10_asks_25 : decode cX10_asks 25 = .ok (.ifCond .ne 17, 3) := by decide +kernel
theorem dX10_asks_28 : decode cX10_asks 28 = .ok (.aload_n 0, 1) := by decide +kernel
theorem dX10_asks_29 : decode cX10_asks 29 = .ok (.getfield 51, 3) := by decide +kernel
theorem dX10_asks_32 : decode cX10_asks 32 = .ok (.aload_n 0, 1) := by decide +kernel
theorem dX10_asks_33 : decode cX10_asks 33 = .ok (.getfield 12, 3) := by decide +kernel
theorem dX10_asks_36 : decode cX10_asks 36 = .ok (.iload_n 1, 1) := by decide +kernel
theorem dX10_asks_37 : decode cX10_asks 37 = .ok (.iload_n 2, 1) := by decide +kernel
theorem dX10_asks_38 : decode cX10_asks 38 = .ok (.invokevirtual 162, 3) := by decide +kernel
theorem dX10_asks_41 : decode cX10_asks 41 = .ok (.ireturn, 1) := by decide +kernel
theorem dX10_asks_42 : decode cX10_asks 42 = .ok (.iload_n 3, 1) := by decide +kernel
theorem dX10_asks_43 : decode cX10_asks 43 = .ok (.iconst 1, 1) := by decide +kernel
theorem dX10_asks_44 : decode cX10_asks 44 = .ok (.if_icmp .ne 32, 3) := by decide +kernel
theorem dX10_asks_47 : decode cX10_asks 47 = .ok (.aload_n 0, 1) := by decide +kernel
theorem dX10_asks_48 : decode cX10_asks 48 = .ok (.getfield 51, 3) := by decide +kernel
theorem dX10_asks_51 : decode cX10_asks 51 = .ok (.aload_n 0, 1) := by decide +kernel
theorem dX10_asks_52 : decode cX10_asks 52 = .ok (.getfield 12, 3) := by decide +kernel
theorem dX10_asks_55 : decode cX10_asks 55 = .ok (.aload_n 0, 1) := by decide +kernel
theorem dX10_asks_56 : decode cX10_asks 56 = .ok (.getfield 12, 3) := by decide +kernel
theorem dX10_asks_59 : decode cX10_asks 59 = .ok (.invokevirtual 151, 3) := by decide +kernel
theorem dX10_asks_62 : decode cX10_asks 62 = .ok (.iload_n 1, 1) := by decide +kernel
theorem dX10_asks_63 : decode cX10_asks 63 = .ok (.iload_n 2, 1) := by decide +kernel
theorem dX10_asks_64 : decode cX10_asks 64 = .ok (.invokevirtual 166, 3) := by decide +kernel
theorem dX10_asks_67 : decode cX10_asks 67 = .ok (.ifCond .eq 7, 3) := by decide +kernel
theorem dX10_asks_70 : decode cX10_asks 70 = .ok (.iconst 1, 1) := by decide +kernel
theorem dX10_asks_71 : decode cX10_asks 71 = .ok (.goto 4, 3) := by decide +kernel
theorem dX10_asks_74 : decode cX10_asks 74 = .ok (.iconst 0, 1) := by decide +kernel
theorem dX10_asks_75 : decode cX10_asks 75 = .ok (.ireturn, 1) := by decide +kernel
theorem dX10_asks_76 : decode cX10_asks 76 = .ok (.iconst (-1), 1) := by decide +kernel
theorem dX10_asks_77 : decode cX10_asks 77 = .ok (.ireturn, 1) := by decide +kernel
theorem dX10_terms_0 : decode cX10_terms 0 = .ok (.iload_n 1, 1) := by decide +kernel
theorem dX10_terms_1 : decode cX10_terms 1 = .ok (.ifCond .lt 24, 3) := by decide +kernel
theorem dX10_terms_4 : decode cX10_terms 4 = .ok (.iload_n 1, 1) := by decide +kernel
theorem dX10_terms_5 : decode cX10_terms 5 = .ok (.getstatic 170, 3) := by decide +kernel
theorem dX10_terms_8 : decode cX10_terms 8 = .ok (.arraylength, 1) := by decide +kernel
theorem dX10_terms_9 : decode cX10_terms 9 = .ok (.if_icmp .ge 16, 3) := by decide +kernel
theorem dX10_terms_12 : decode cX10_terms 12 = .ok (.iload_n 2, 1) := by decide +kernel
theorem dX10_terms_13 : decode cX10_terms 13 = .ok (.ifCond .lt 12, 3) := by decide +kernel
theorem dX10_terms_16 : decode cX10_terms 16 = .ok (.iload_n 2, 1) := by decide +kernel
theorem dX10_terms_17 : decode cX10_terms 17 = .ok (.getstatic 170, 3) := by decide +kernel
theorem dX10_terms_20 : decode cX10_terms 20 = .ok (.iload_n 1, 1) := by decide +kernel
theorem dX10_terms_21 : decode cX10_terms 21 = .ok (.iaload, 1) := by decide +kernel
theorem dX10_terms_22 : decode cX10_terms 22 = .ok (.if_icmp .le 9, 3) := by decide +kernel
theorem dX10_terms_25 : decode cX10_terms 25 = .ok (.aload_n 0, 1) := by decide +kernel
theorem dX10_terms_26 : decode cX10_terms 26 = .ok (.iconst (-1), 1) := by decide +kernel
theorem dX10_terms_27 : decode cX10_terms 27 = .ok (.invokevirtual 93, 3) := by decide +kernel
theorem dX10_terms_30 : decode cX10_terms 30 = .ok (.ireturn, 1) := by decide +kernel
theorem dX10_terms_31 : decode cX10_terms 31 = .ok (.aload_n 0, 1) := by decide +kernel
theorem dX10_terms_32 : decode cX10_terms 32 = .ok (.getfield 12, 3) := by decide +kernel
theorem dX10_terms_35 : decode cX10_terms 35 = .ok (.getfield 173, 3) := by decide +kernel
theorem dX10_terms_38 : decode cX10_terms 38 = .ok (.iload_n 1, 1) := by decide +kernel
theorem dX10_terms_39 : decode cX10_terms 39 = .ok (.iaload, 1) := by decide +kernel
theorem dX10_terms_40 : decode cX10_terms 40 = .ok (.istore_n 3, 1) := by decide +kernel
theorem dX10_terms_41 : decode cX10_terms 41 = .ok (.aload_n 0, 1) := by decide +kernel
theorem dX10_terms_42 : decode cX10_terms 42 = .ok (.getfield 12, 3) := by decide +kernel
theorem dX10_terms_45 : decode cX10_terms 45 = .ok (.getfield 173, 3) := by decide +kernel
theorem dX10_terms_48 : decode cX10_terms 48 = .ok (.iload_n 1, 1) := by decide +kernel
theorem dX10_terms_49 : decode cX10_terms 49 = .ok (.iload_n 2, 1) := by decide +kernel
theorem dX10_terms_50 : decode cX10_terms 50 = .ok (.iastore, 1) := by decide +kernel
theorem dX10_terms_51 : decode cX10_terms 51 = .ok (.aload_n 0, 1) := by decide +kernel
theorem dX10_terms_52 : decode cX10_terms 52 = .ok (.getfield 29, 3) := by decide +kernel
theorem dX10_terms_55 : decode cX10_terms 55 = .ok (.iconst 0, 1) := by decide +kernel
theorem dX10_terms_56 : decode cX10_terms 56 = .ok (.putfield 100, 3) := by decide +kernel
theorem dX10_terms_59 : decode cX10_terms 59 = .ok (.aload_n 0, 1) := by decide +kernel
theorem dX10_terms_60 : decode cX10_terms 60 = .ok (.iload_n 3, 1) := by decide +kernel
theorem dX10_terms_61 : decode cX10_terms 61 = .ok (.invokevirtual 107, 3) := by decide +kernel
theorem dX10_terms_64 : decode cX10_terms 64 = .ok (.ireturn, 1) := by decide +kernel
theorem dX10_feed_0 : decode cX10_feed 0 = .ok (.aload_n 0, 1) := by decide +kernel
theorem dX10_feed_1 : decode cX10_feed 1 = .ok (.getfield 47, 3) := by decide +kernel
theorem dX10_feed_4 : decode cX10_feed 4 = .ok (.getfield 176, 3) := by decide +kernel
theorem dX10_feed_7 : decode cX10_feed 7 = .ok (.bipush 20, 2) := by decide +kernel
theorem dX10_feed_9 : decode cX10_feed 9 = .ok (.iadd, 1) := by decide +kernel
theorem dX10_feed_10 : decode cX10_feed 10 = .ok (.sipush 400, 3) := by decide +kernel
theorem dX10_feed_13 : decode cX10_feed 13 = .ok (.if_icmp .le 5, 3) := by decide +kernel
theorem dX10_feed_16 : decode cX10_feed 16 = .ok (.iconst (-1), 1) := by decide +kernel
theorem dX10_feed_17 : decode cX10_feed 17 = .ok (.ireturn, 1) := by decide +kernel
theorem dX10_feed_18 : decode cX10_feed 18 = .ok (.aload_n 0, 1) := by decide +kernel
theorem dX10_feed_19 : decode cX10_feed 19 = .ok (.getfield 47, 3) := by decide +kernel
theorem dX10_feed_22 : decode cX10_feed 22 = .ok (.iload_n 1, 1) := by decide +kernel
theorem dX10_feed_23 : decode cX10_feed 23 = .ok (.invokevirtual 181, 3) := by decide +kernel
theorem dX10_feed_26 : decode cX10_feed 26 = .ok (.aload_n 0, 1) := by decide +kernel
theorem dX10_feed_27 : decode cX10_feed 27 = .ok (.getfield 47, 3) := by decide +kernel
theorem dX10_feed_30 : decode cX10_feed 30 = .ok (.iload_n 2, 1) := by decide +kernel
theorem dX10_feed_31 : decode cX10_feed 31 = .ok (.invokevirtual 181, 3) := by decide +kernel
theorem dX10_feed_34 : decode cX10_feed 34 = .ok (.aload_n 0, 1) := by decide +kernel
theorem dX10_feed_35 : decode cX10_feed 35 = .ok (.getfield 47, 3) := by decide +kernel
theorem dX10_feed_38 : decode cX10_feed 38 = .ok (.iload_n 3, 1) := by decide +kernel
theorem dX10_feed_39 : decode cX10_feed 39 = .ok (.invokevirtual 181, 3) := by decide +kernel
theorem dX10_feed_42 : decode cX10_feed 42 = .ok (.aload_n 0, 1) := by decide +kernel
theorem dX10_feed_43 : decode cX10_feed 43 = .ok (.getfield 47, 3) := by decide +kernel
theorem dX10_feed_46 : decode cX10_feed 46 = .ok (.iload 4, 2) := by decide +kernel
theorem dX10_feed_48 : decode cX10_feed 48 = .ok (.invokevirtual 181, 3) := by decide +kernel
theorem dX10_feed_51 : decode cX10_feed 51 = .ok (.aload_n 0, 1) := by decide +kernel
theorem dX10_feed_52 : decode cX10_feed 52 = .ok (.getfield 47, 3) := by decide +kernel
theorem dX10_feed_55 : decode cX10_feed 55 = .ok (.iload 5, 2) := by decide +kernel
theorem dX10_feed_57 : decode cX10_feed 57 = .ok (.invokevirtual 181, 3) := by decide +kernel
theorem dX10_feed_60 : decode cX10_feed 60 = .ok (.aload_n 0, 1) := by decide +kernel
theorem dX10_feed_61 : decode cX10_feed 61 = .ok (.getfield 47, 3) := by decide +kernel
theorem dX10_feed_64 : decode cX10_feed 64 = .ok (.getfield 176, 3) := by decide +kernel
theorem dX10_feed_67 : decode cX10_feed 67 = .ok (.ireturn, 1) := by decide +kernel
theorem dX10_end_0 : decode cX10_end 0 = .ok (.iload_n 1, 1) := by decide +kernel
theorem dX10_end_1 : decode cX10_end 1 = .ok (.ifCond .lt 14, 3) := by decide +kernel
theorem dX10_end_4 : decode cX10_end 4 = .ok (.iload_n 1, 1) := by decide +kernel
theorem dX10_end_5 : decode cX10_end 5 = .ok (.aload_n 0, 1) := by decide +kernel
theorem dX10_end_6 : decode cX10_end 6 = .ok (.getfield 47, 3) := by decide +kernel
theorem dX10_end_9 : decode cX10_end 9 = .ok (.getfield 176, 3) := by decide +kernel
theorem dX10_end_12 : decode cX10_end 12 = .ok (.if_icmp .le 5, 3) := by decide +kernel
theorem dX10_end_15 : decode cX10_end 15 = .ok (.iconst (-1), 1) := by decide +kernel
theorem dX10_end_16 : decode cX10_end 16 = .ok (.ireturn, 1) := by decide +kernel
theorem dX10_end_17 : decode cX10_end 17 = .ok (.aload_n 0, 1) := by decide +kernel
theorem dX10_end_18 : decode cX10_end 18 = .ok (.getfield 47, 3) := by decide +kernel
theorem dX10_end_21 : decode cX10_end 21 = .ok (.iload_n 1, 1) := by decide +kernel
theorem dX10_end_22 : decode cX10_end 22 = .ok (.putfield 176, 3) := by decide +kernel
theorem dX10_end_25 : decode cX10_end 25 = .ok (.iload_n 1, 1) := by decide +kernel
theorem dX10_end_26 : decode cX10_end 26 = .ok (.ireturn, 1) := by decide +kernel
theorem dX10_layLane_0 : decode cX10_layLane 0 = .ok (.iload_n 1, 1) := by decide +kernel
theorem dX10_layLane_1 : decode cX10_layLane 1 = .ok (.ifCond .lt 28, 3) := by decide +kernel
theorem dX10_layLane_4 : decode cX10_layLane 4 = .ok (.iload_n 1, 1) := by decide +kernel
theorem dX10_layLane_5 : decode cX10_layLane 5 = .ok (.iconst 4, 1) := by decide +kernel
theorem dX10_layLane_6 : decode cX10_layLane 6 = .ok (.iadd, 1) := by decide +kernel
theorem dX10_layLane_7 : decode cX10_layLane 7 = .ok (.aload_n 0, 1) := by decide +kernel
theorem dX10_layLane_8 : decode cX10_layLane 8 = .ok (.getfield 47, 3) := by decide +kernel
theorem dX10_layLane_11 : decode cX10_layLane 11 = .ok (.getfield 176, 3) := by decide +kernel
theorem dX10_layLane_14 : decode cX10_layLane 14 = .ok (.if_icmp .gt 15, 3) := by decide +kernel
theorem dX10_layLane_17 : decode cX10_layLane 17 = .ok (.aload_n 0, 1) := by decide +kernel
theorem dX10_layLane_18 : decode cX10_layLane 18 = .ok (.getfield 12, 3) := by decide +kernel
theorem dX10_layLane_21 : decode cX10_layLane 21 = .ok (.getfield 97, 3) := by decide +kernel
theorem dX10_layLane_24 : decode cX10_layLane 24 = .ok (.bipush 10, 2) := by decide +kernel
theorem dX10_layLane_26 : decode cX10_layLane 26 = .ok (.if_icmp .lt 5, 3) := by decide +kernel
theorem dX10_layLane_29 : decode cX10_layLane 29 = .ok (.iconst 0, 1) := by decide +kernel
theorem dX10_layLane_30 : decode cX10_layLane 30 = .ok (.ireturn, 1) := by decide +kernel
theorem dX10_layLane_31 : decode cX10_layLane 31 = .ok (.aload_n 0, 1) := by decide +kernel
theorem dX10_layLane_32 : decode cX10_layLane 32 = .ok (.getfield 47, 3) := by decide +kernel
theorem dX10_layLane_35 : decode cX10_layLane 35 = .ok (.getfield 380, 3) := by decide +kernel
theorem dX10_layLane_38 : decode cX10_layLane 38 = .ok (.iload_n 1, 1) := by decide +kernel
theorem dX10_layLane_39 : decode cX10_layLane 39 = .ok (.iaload, 1) := by decide +kernel
theorem dX10_layLane_40 : decode cX10_layLane 40 = .ok (.istore_n 2, 1) := by decide +kernel
theorem dX10_layLane_41 : decode cX10_layLane 41 = .ok (.aload_n 0, 1) := by decide +kernel
theorem dX10_layLane_42 : decode cX10_layLane 42 = .ok (.getfield 47, 3) := by decide +kernel
theorem dX10_layLane_45 : decode cX10_layLane 45 = .ok (.getfield 380, 3) := by decide +kernel
theorem dX10_layLane_48 : decode cX10_layLane 48 = .ok (.iload_n 1, 1) := by decide +kernel
theorem dX10_layLane_49 : decode cX10_layLane 49 = .ok (.iconst 1, 1) := by decide +kernel
theorem dX10_layLane_50 : decode cX10_layLane 50 = .ok (.iadd, 1) := by decide +kernel
theorem dX10_layLane_51 : decode cX10_layLane 51 = .ok (.iaload, 1) := by decide +kernel
theorem dX10_layLane_52 : decode cX10_layLane 52 = .ok (.istore_n 3, 1) := by decide +kernel
theorem dX10_layLane_53 : decode cX10_layLane 53 = .ok (.aload_n 0, 1) := by decide +kernel
theorem dX10_layLane_54 : decode cX10_layLane 54 = .ok (.getfield 47, 3) := by decide +kernel
theorem dX10_layLane_57 : decode cX10_layLane 57 = .ok (.getfield 380, 3) := by decide +kernel
theorem dX10_layLane_60 : decode cX10_layLane 60 = .ok (.iload_n 1, 1) := by decide +kernel
theorem dX10_layLane_61 : decode cX10_layLane 61 = .ok (.iconst 2, 1) := by decide +kernel
theorem dX10_layLane_62 : decode cX10_layLane 62 = .ok (.iadd, 1) := by decide +kernel
theorem dX10_layLane_63 : decode cX10_layLane 63 = .ok (.iaload, 1) := by decide +kernel
theorem dX10_layLane_64 : decode cX10_layLane 64 = .ok (.istore 4, 2) := by decide +kernel
theorem dX10_layLane_66 : decode cX10_layLane 66 = .ok (.aload_n 0, 1) := by decide +kernel
theorem dX10_layLane_67 : decode cX10_layLane 67 = .ok (.getfield 47, 3) := by decide +kernel
theorem dX10_layLane_70 : decode cX10_layLane 70 = .ok (.getfield 380, 3) := by decide +kernel
theorem dX10_layLane_73 : decode cX10_layLane 73 = .ok (.iload_n 1, 1) := by decide +kernel
theorem dX10_layLane_74 : decode cX10_layLane 74 = .ok (.iconst 3, 1) := by decide +kernel
theorem dX10_layLane_75 : decode cX10_layLane 75 = .ok (.iadd, 1) := by decide +kernel
theorem dX10_layLane_76 : decode cX10_layLane 76 = .ok (.iaload, 1) := by decide +kernel
theorem dX10_layLane_77 : decode cX10_layLane 77 = .ok (.istore 5, 2) := by decide +kernel
theorem dX10_layLane_79 : decode cX10_layLane 79 = .ok (.iload_n 2, 1) := by decide +kernel
theorem dX10_layLane_80 : decode cX10_layLane 80 = .ok (.iload_n 3, 1) := by decide +kernel
theorem dX10_layLane_81 : decode cX10_layLane 81 = .ok (.iload 4, 2) := by decide +kernel
theorem dX10_layLane_83 : decode cX10_layLane 83 = .ok (.iload 5, 2) := by decide +kernel
theorem dX10_layLane_85 : decode cX10_layLane 85 = .ok (.invokestatic 89, 3) := by decide +kernel
theorem dX10_layLane_88 : decode cX10_layLane 88 = .ok (.ifCond .ne 5, 3) := by decide +kernel
theorem dX10_layLane_91 : decode cX10_layLane 91 = .ok (.iconst 0, 1) := by decide +kernel
theorem dX10_layLane_92 : decode cX10_layLane 92 = .ok (.ireturn, 1) := by decide +kernel
theorem dX10_layLane_93 : decode cX10_layLane 93 = .ok (.aload_n 0, 1) := by decide +kernel
theorem dX10_layLane_94 : decode cX10_layLane 94 = .ok (.getfield 12, 3) := by decide +kernel
theorem dX10_layLane_97 : decode cX10_layLane 97 = .ok (.iload_n 2, 1) := by decide +kernel
theorem dX10_layLane_98 : decode cX10_layLane 98 = .ok (.iload_n 3, 1) := by decide +kernel
theorem dX10_layLane_99 : decode cX10_layLane 99 = .ok (.iload 4, 2) := by decide +kernel
theorem dX10_layLane_101 : decode cX10_layLane 101 = .ok (.iload 5, 2) := by decide +kernel
theorem dX10_layLane_103 : decode cX10_layLane 103 = .ok (.invokevirtual 103, 3) := by decide +kernel
theorem dX10_layLane_106 : decode cX10_layLane 106 = .ok (.pop, 1) := by decide +kernel
theorem dX10_layLane_107 : decode cX10_layLane 107 = .ok (.iconst 1, 1) := by decide +kernel
theorem dX10_layLane_108 : decode cX10_layLane 108 = .ok (.ireturn, 1) := by decide +kernel
theorem dX10_row_0 : decode cX10_row 0 = .ok (.aload_n 0, 1) := by decide +kernel
theorem dX10_row_1 : decode cX10_row 1 = .ok (.getfield 47, 3) := by decide +kernel
theorem dX10_row_4 : decode cX10_row 4 = .ok (.getfield 176, 3) := by decide +kernel
theorem dX10_row_7 : decode cX10_row 7 = .ok (.ifCond .ne 10, 3) := by decide +kernel
theorem dX10_row_10 : decode cX10_row 10 = .ok (.aload_n 0, 1) := by decide +kernel
theorem dX10_row_11 : decode cX10_row 11 = .ok (.bipush (-6), 2) := by decide +kernel
theorem dX10_row_13 : decode cX10_row 13 = .ok (.invokevirtual 93, 3) := by decide +kernel
theorem dX10_row_16 : decode cX10_row 16 = .ok (.ireturn, 1) := by decide +kernel
theorem dX10_row_17 : decode cX10_row 17 = .ok (.iconst 0, 1) := by decide +kernel
theorem dX10_row_18 : decode cX10_row 18 = .ok (.istore_n 1, 1) := by decide +kernel
theorem dX10_row_19 : decode cX10_row 19 = .ok (.aload_n 0, 1) := by decide +kernel
theorem dX10_row_20 : decode cX10_row 20 = .ok (.iconst 0, 1) := by decide +kernel
theorem dX10_row_21 : decode cX10_row 21 = .ok (.putfield 185, 3) := by decide +kernel
theorem dX10_row_24 : decode cX10_row 24 = .ok (.iconst 0, 1) := by decide +kernel
theorem dX10_row_25 : decode cX10_row 25 = .ok (.istore_n 2, 1) := by decide +kernel
theorem dX10_row_26 : decode cX10_row 26 = .ok (.iload_n 2, 1) := by decide +kernel
theorem dX10_row_27 : decode cX10_row 27 = .ok (.aload_n 0, 1) := by decide +kernel
theorem dX10_row_28 : decode cX10_row 28 = .ok (.getfield 47, 3) := by decide +kernel
theorem dX10_row_31 : decode cX10_row 31 = .ok (.getfield 176, 3) := by decide +kernel
theorem dX10_row_34 : decode cX10_row 34 = .ok (.if_icmp .ge 33, 3) := by decide +kernel
theorem dX10_row_37 : decode cX10_row 37 = .ok (.aload_n 0, 1) := by decide +kernel
theorem dX10_row_38 : decode cX10_row 38 = .ok (.iload_n 2, 1) := by decide +kernel
theorem dX10_row_39 : decode cX10_row 39 = .ok (.invokevirtual 188, 3) := by decide +kernel
theorem dX10_row_42 : decode cX10_row 42 = .ok (.ifCond .eq 9, 3) := by decide +kernel
theorem dX10_row_45 : decode cX10_row 45 = .ok (.iinc 1 1, 3) := by decide +kernel
theorem dX10_row_48 : decode cX10_row 48 = .ok (.goto 13, 3) := by decide +kernel
theorem dX10_row_51 : decode cX10_row 51 = .ok (.aload_n 0, 1) := by decide +kernel
theorem dX10_row_52 : decode cX10_row 52 = .ok (.dup, 1) := by decide +kernel
theorem dX10_row_53 : decode cX10_row 53 = .ok (.getfield 185, 3) := by decide +kernel
theorem dX10_row_56 : decode cX10_row 56 = .ok (.iconst 1, 1) := by decide +kernel
theorem dX10_row_57 : decode cX10_row 57 = .ok (.iadd, 1) := by decide +kernel
theorem dX10_row_58 : decode cX10_row 58 = .ok (.putfield 185, 3) := by decide +kernel
theorem dX10_row_61 : decode cX10_row 61 = .ok (.iinc 2 4, 3) := by decide +kernel
theorem dX10_row_64 : decode cX10_row 64 = .ok (.goto (-38), 3) := by decide +kernel
theorem dX10_row_67 : decode cX10_row 67 = .ok (.aload_n 0, 1) := by decide +kernel
theorem dX10_row_68 : decode cX10_row 68 = .ok (.getfield 47, 3) := by decide +kernel
theorem dX10_row_71 : decode cX10_row 71 = .ok (.iconst 0, 1) := by decide +kernel
theorem dX10_row_72 : decode cX10_row 72 = .ok (.putfield 176, 3) := by decide +kernel
theorem dX10_row_75 : decode cX10_row 75 = .ok (.aload_n 0, 1) := by decide +kernel
theorem dX10_row_76 : decode cX10_row 76 = .ok (.getfield 29, 3) := by decide +kernel
theorem dX10_row_79 : decode cX10_row 79 = .ok (.iconst 0, 1) := by decide +kernel
theorem dX10_row_80 : decode cX10_row 80 = .ok (.putfield 100, 3) := by decide +kernel
theorem dX10_row_83 : decode cX10_row 83 = .ok (.aload_n 0, 1) := by decide +kernel
theorem dX10_row_84 : decode cX10_row 84 = .ok (.iload_n 1, 1) := by decide +kernel
theorem dX10_row_85 : decode cX10_row 85 = .ok (.invokevirtual 107, 3) := by decide +kernel
theorem dX10_row_88 : decode cX10_row 88 = .ok (.ireturn, 1) := by decide +kernel
theorem dX10_gravel_0 : decode cX10_gravel 0 = .ok (.aload_n 0, 1) := by decide +kernel
theorem dX10_gravel_1 : decode cX10_gravel 1 = .ok (.getfield 185, 3) := by decide +kernel
theorem dX10_gravel_4 : decode cX10_gravel 4 = .ok (.ireturn, 1) := by decide +kernel
theorem dX10_fault_0 : decode cX10_fault 0 = .ok (.aload_n 0, 1) := by decide +kernel
theorem dX10_fault_1 : decode cX10_fault 1 = .ok (.getfield 39, 3) := by decide +kernel
theorem dX10_fault_4 : decode cX10_fault 4 = .ok (.getfield 228, 3) := by decide +kernel
theorem dX10_fault_7 : decode cX10_fault 7 = .ok (.ireturn, 1) := by decide +kernel
theorem dX10_stopped_0 : decode cX10_stopped 0 = .ok (.aload_n 0, 1) := by decide +kernel
theorem dX10_stopped_1 : decode cX10_stopped 1 = .ok (.getfield 85, 3) := by decide +kernel
theorem dX10_stopped_4 : decode cX10_stopped 4 = .ok (.ireturn, 1) := by decide +kernel
theorem dX10_force_0 : decode cX10_force 0 = .ok (.iload_n 1, 1) := by decide +kernel
theorem dX10_force_1 : decode cX10_force 1 = .ok (.iconst (-1), 1) := by decide +kernel
theorem dX10_force_2 : decode cX10_force 2 = .ok (.if_icmp .eq 21, 3) := by decide +kernel
theorem dX10_force_5 : decode cX10_force 5 = .ok (.aload_n 0, 1) := by decide +kernel
theorem dX10_force_6 : decode cX10_force 6 = .ok (.getfield 12, 3) := by decide +kernel
theorem dX10_force_9 : decode cX10_force 9 = .ok (.iload_n 1, 1) := by decide +kernel
theorem dX10_force_10 : decode cX10_force 10 = .ok (.invokevirtual 231, 3) := by decide +kernel
theorem dX10_force_13 : decode cX10_force 13 = .ok (.ifCond .ne 10, 3) := by decide +kernel
theorem dX10_force_16 : decode cX10_force 16 = .ok (.aload_n 0, 1) := by decide +kernel
theorem dX10_force_17 : decode cX10_force 17 = .ok (.bipush (-2), 2) := by decide +kernel
theorem dX10_force_19 : decode cX10_force 19 = .ok (.invokevirtual 93, 3) := by decide +kernel
theorem dX10_force_22 : decode cX10_force 22 = .ok (.ireturn, 1) := by decide +kernel
theorem dX10_force_23 : decode cX10_force 23 = .ok (.aload_n 0, 1) := by decide +kernel
theorem dX10_force_24 : decode cX10_force 24 = .ok (.getfield 12, 3) := by decide +kernel
theorem dX10_force_27 : decode cX10_force 27 = .ok (.getfield 234, 3) := by decide +kernel
theorem dX10_force_30 : decode cX10_force 30 = .ok (.istore_n 2, 1) := by decide +kernel
theorem dX10_force_31 : decode cX10_force 31 = .ok (.aload_n 0, 1) := by decide +kernel
theorem dX10_force_32 : decode cX10_force 32 = .ok (.getfield 12, 3) := by decide +kernel
theorem dX10_force_35 : decode cX10_force 35 = .ok (.iload_n 1, 1) := by decide +kernel
theorem dX10_force_36 : decode cX10_force 36 = .ok (.putfield 234, 3) := by decide +kernel
theorem dX10_force_39 : decode cX10_force 39 = .ok (.aload_n 0, 1) := by decide +kernel
theorem dX10_force_40 : decode cX10_force 40 = .ok (.iload_n 2, 1) := by decide +kernel
theorem dX10_force_41 : decode cX10_force 41 = .ok (.invokevirtual 107, 3) := by decide +kernel
theorem dX10_force_44 : decode cX10_force 44 = .ok (.ireturn, 1) := by decide +kernel
theorem dX10_cryIn_0 : decode cX10_cryIn 0 = .ok (.aload_n 1, 1) := by decide +kernel
theorem dX10_cryIn_1 : decode cX10_cryIn 1 = .ok (.iload_n 2, 1) := by decide +kernel
theorem dX10_cryIn_2 : decode cX10_cryIn 2 = .ok (.invokevirtual 139, 3) := by decide +kernel
theorem dX10_cryIn_5 : decode cX10_cryIn 5 = .ok (.ifCond .ne 6, 3) := by decide +kernel
theorem dX10_cryIn_8 : decode cX10_cryIn 8 = .ok (.bipush (-2), 2) := by decide +kernel
theorem dX10_cryIn_10 : decode cX10_cryIn 10 = .ok (.ireturn, 1) := by decide +kernel
theorem dX10_cryIn_11 : decode cX10_cryIn 11 = .ok (.aload_n 1, 1) := by decide +kernel
theorem dX10_cryIn_12 : decode cX10_cryIn 12 = .ok (.getfield 148, 3) := by decide +kernel
theorem dX10_cryIn_15 : decode cX10_cryIn 15 = .ok (.iload_n 2, 1) := by decide +kernel
theorem dX10_cryIn_16 : decode cX10_cryIn 16 = .ok (.iaload, 1) := by decide +kernel
theorem dX10_cryIn_17 : decode cX10_cryIn 17 = .ok (.istore_n 3, 1) := by decide +kernel
theorem dX10_cryIn_18 : decode cX10_cryIn 18 = .ok (.aload_n 1, 1) := by decide +kernel
theorem dX10_cryIn_19 : decode cX10_cryIn 19 = .ok (.iload_n 3, 1) := by decide +kernel
theorem dX10_cryIn_20 : decode cX10_cryIn 20 = .ok (.invokevirtual 110, 3) := by decide +kernel
theorem dX10_cryIn_23 : decode cX10_cryIn 23 = .ok (.ifCond .ne 6, 3) := by decide +kernel
theorem dX10_cryIn_26 : decode cX10_cryIn 26 = .ok (.bipush (-3), 2) := by decide +kernel
theorem dX10_cryIn_28 : decode cX10_cryIn 28 = .ok (.ireturn, 1) := by decide +kernel
theorem dX10_cryIn_29 : decode cX10_cryIn 29 = .ok (.aload_n 1, 1) := by decide +kernel
theorem dX10_cryIn_30 : decode cX10_cryIn 30 = .ok (.getfield 126, 3) := by decide +kernel
theorem dX10_cryIn_33 : decode cX10_cryIn 33 = .ok (.iload_n 3, 1) := by decide +kernel
theorem dX10_cryIn_34 : decode cX10_cryIn 34 = .ok (.aload_n 0, 1) := by decide +kernel
theorem dX10_cryIn_35 : decode cX10_cryIn 35 = .ok (.getfield 51, 3) := by decide +kernel
theorem dX10_cryIn_38 : decode cX10_cryIn 38 = .ok (.aload_n 1, 1) := by decide +kernel
theorem dX10_cryIn_39 : decode cX10_cryIn 39 = .ok (.iload_n 2, 1) := by decide +kernel
theorem dX10_cryIn_40 : decode cX10_cryIn 40 = .ok (.iload_n 3, 1) := by decide +kernel
theorem dX10_cryIn_41 : decode cX10_cryIn 41 = .ok (.invokevirtual 162, 3) := by decide +kernel
theorem dX10_cryIn_44 : decode cX10_cryIn 44 = .ok (.iastore, 1) := by decide +kernel
theorem dX10_cryIn_45 : decode cX10_cryIn 45 = .ok (.aload_n 1, 1) := by decide +kernel
theorem dX10_cryIn_46 : decode cX10_cryIn 46 = .ok (.getfield 126, 3) := by decide +kernel
theorem dX10_cryIn_49 : decode cX10_cryIn 49 = .ok (.iload_n 3, 1) := by decide +kernel
theorem dX10_cryIn_50 : decode cX10_cryIn 50 = .ok (.iaload, 1) := by decide +kernel
theorem dX10_cryIn_51 : decode cX10_cryIn 51 = .ok (.ireturn, 1) := by decide +kernel
theorem dX10_leadIn_0 : decode cX10_leadIn 0 = .ok (.iload_n 3, 1) := by decide +kernel
theorem dX10_leadIn_1 : decode cX10_leadIn 1 = .ok (.invokestatic 129, 3) := by decide +kernel
theorem dX10_leadIn_4 : decode cX10_leadIn 4 = .ok (.ifCond .ne 5, 3) := by decide +kernel
theorem dX10_leadIn_7 : decode cX10_leadIn 7 = .ok (.iconst (-1), 1) := by decide +kernel
theorem dX10_leadIn_8 : decode cX10_leadIn 8 = .ok (.ireturn, 1) := by decide +kernel
theorem dX10_leadIn_9 : decode cX10_leadIn 9 = .ok (.aload_n 1, 1) := by decide +kernel
theorem dX10_leadIn_10 : decode cX10_leadIn 10 = .ok (.iload_n 2, 1) := by decide +kernel
theorem dX10_leadIn_11 : decode cX10_leadIn 11 = .ok (.invokevirtual 139, 3) := by decide +kernel
theorem dX10_leadIn_14 : decode cX10_leadIn 14 = .ok (.ifCond .ne 6, 3) := by decide +kernel
theorem dX10_leadIn_17 : decode cX10_leadIn 17 = .ok (.bipush (-2), 2) := by decide +kernel
theorem dX10_leadIn_19 : decode cX10_leadIn 19 = .ok (.ireturn, 1) := by decide +kernel
theorem dX10_leadIn_20 : decode cX10_leadIn 20 = .ok (.aload_n 1, 1) := by decide +kernel
theorem dX10_leadIn_21 : decode cX10_leadIn 21 = .ok (.getfield 145, 3) := by decide +kernel
theorem dX10_leadIn_24 : decode cX10_leadIn 24 = .ok (.iload_n 2, 1) := by decide +kernel
theorem dX10_leadIn_25 : decode cX10_leadIn 25 = .ok (.iaload, 1) := by decide +kernel
theorem dX10_leadIn_26 : decode cX10_leadIn 26 = .ok (.istore 4, 2) := by decide +kernel
theorem dX10_leadIn_28 : decode cX10_leadIn 28 = .ok (.iload 4, 2) := by decide +kernel
theorem dX10_leadIn_30 : decode cX10_leadIn 30 = .ok (.iload_n 3, 1) := by decide +kernel
theorem dX10_leadIn_31 : decode cX10_leadIn 31 = .ok (.if_icmp .ne 6, 3) := by decide +kernel
theorem dX10_leadIn_34 : decode cX10_leadIn 34 = .ok (.bipush (-3), 2) := by decide +kernel
theorem dX10_leadIn_36 : decode cX10_leadIn 36 = .ok (.ireturn, 1) := by decide +kernel
theorem dX10_leadIn_37 : decode cX10_leadIn 37 = .ok (.aload_n 1, 1) := by decide +kernel
theorem dX10_leadIn_38 : decode cX10_leadIn 38 = .ok (.getfield 145, 3) := by decide +kernel
theorem dX10_leadIn_41 : decode cX10_leadIn 41 = .ok (.iload_n 2, 1) := by decide +kernel
theorem dX10_leadIn_42 : decode cX10_leadIn 42 = .ok (.iload_n 3, 1) := by decide +kernel
theorem dX10_leadIn_43 : decode cX10_leadIn 43 = .ok (.iastore, 1) := by decide +kernel
theorem dX10_leadIn_44 : decode cX10_leadIn 44 = .ok (.iload 4, 2) := by decide +kernel
theorem dX10_leadIn_46 : decode cX10_leadIn 46 = .ok (.ireturn, 1) := by decide +kernel
theorem dX10_passIn_0 : decode cX10_passIn 0 = .ok (.aload_n 1, 1) := by decide +kernel
theorem dX10_passIn_1 : decode cX10_passIn 1 = .ok (.getfield 173, 3) := by decide +kernel
theorem dX10_passIn_4 : decode cX10_passIn 4 = .ok (.iconst 0, 1) := by decide +kernel
theorem dX10_passIn_5 : decode cX10_passIn 5 = .ok (.iaload, 1) := by decide +kernel
theorem dX10_passIn_6 : decode cX10_passIn 6 = .ok (.sipush 999, 3) := by decide +kernel
theorem dX10_passIn_9 : decode cX10_passIn 9 = .ok (.if_icmp .lt 6, 3) := by decide +kernel
theorem dX10_passIn_12 : decode cX10_passIn 12 = .ok (.bipush (-3), 2) := by decide +kernel
theorem dX10_passIn_14 : decode cX10_passIn 14 = .ok (.ireturn, 1) := by decide +kernel
theorem dX10_passIn_15 : decode cX10_passIn 15 = .ok (.iconst 0, 1) := by decide +kernel
theorem dX10_passIn_16 : decode cX10_passIn 16 = .ok (.istore_n 2, 1) := by decide +kernel
theorem dX10_passIn_17 : decode cX10_passIn 17 = .ok (.iconst 0, 1) := by decide +kernel
theorem dX10_passIn_18 : decode cX10_passIn 18 = .ok (.istore_n 3, 1) := by decide +kernel
theorem dX10_passIn_19 : decode cX10_passIn 19 = .ok (.iload_n 3, 1) := by decide +kernel
theorem dX10_passIn_20 : decode cX10_passIn 20 = .ok (.aload_n 1, 1) := by decide +kernel
theorem dX10_passIn_21 : decode cX10_passIn 21 = .ok (.getfield 132, 3) := by decide +kernel
theorem dX10_passIn_24 : decode cX10_passIn 24 = .ok (.if_icmp .ge 40, 3) := by decide +kernel
theorem dX10_passIn_27 : decode cX10_passIn 27 = .ok (.aload_n 0, 1) := by decide +kernel
theorem dX10_passIn_28 : decode cX10_passIn 28 = .ok (.getfield 51, 3) := by decide +kernel
theorem dX10_passIn_31 : decode cX10_passIn 31 = .ok (.aload_n 1, 1) := by decide +kernel
theorem dX10_passIn_32 : decode cX10_passIn 32 = .ok (.aload_n 1, 1) := by decide +kernel
theorem dX10_passIn_33 : decode cX10_passIn 33 = .ok (.invokevirtual 151, 3) := by decide +kernel
theorem dX10_passIn_36 : decode cX10_passIn 36 = .ok (.iload_n 3, 1) := by decide +kernel
theorem dX10_passIn_37 : decode cX10_passIn 37 = .ok (.invokevirtual 159, 3) := by decide +kernel
theorem dX10_passIn_40 : decode cX10_passIn 40 = .ok (.istore 4, 2) := by decide +kernel
theorem dX10_passIn_42 : decode cX10_passIn 42 = .ok (.iload 4, 2) := by decide +kernel
theorem dX10_passIn_44 : decode cX10_passIn 44 = .ok (.iconst (-1), 1) := by decide +kernel
theorem dX10_passIn_45 : decode cX10_passIn 45 = .ok (.if_icmp .eq 13, 3) := by decide +kernel
theorem dX10_passIn_48 : decode cX10_passIn 48 = .ok (.aload_n 1, 1) := by decide +kernel
theorem dX10_passIn_49 : decode cX10_passIn 49 = .ok (.iload_n 3, 1) := by decide +kernel
theorem dX10_passIn_50 : decode cX10_passIn 50 = .ok (.iload 4, 2) := by decide +kernel
theorem dX10_passIn_52 : decode cX10_passIn 52 = .ok (.invokevirtual 424, 3) := by decide +kernel
theorem dX10_passIn_55 : decode cX10_passIn 55 = .ok (.iinc 2 1, 3) := by decide +kernel
theorem dX10_passIn_58 : decode cX10_passIn 58 = .ok (.iinc 3 1, 3) := by decide +kernel
theorem dX10_passIn_61 : decode cX10_passIn 61 = .ok (.goto (-42), 3) := by decide +kernel
theorem dX10_passIn_64 : decode cX10_passIn 64 = .ok (.aload_n 1, 1) := by decide +kernel
theorem dX10_passIn_65 : decode cX10_passIn 65 = .ok (.getfield 173, 3) := by decide +kernel
theorem dX10_passIn_68 : decode cX10_passIn 68 = .ok (.iconst 0, 1) := by decide +kernel
theorem dX10_passIn_69 : decode cX10_passIn 69 = .ok (.dup2, 1) := by decide +kernel
theorem dX10_passIn_70 : decode cX10_passIn 70 = .ok (.iaload, 1) := by decide +kernel
theorem dX10_passIn_71 : decode cX10_passIn 71 = .ok (.iconst 1, 1) := by decide +kernel
theorem dX10_passIn_72 : decode cX10_passIn 72 = .ok (.iadd, 1) := by decide +kernel
theorem dX10_passIn_73 : decode cX10_passIn 73 = .ok (.iastore, 1) := by decide +kernel
theorem dX10_passIn_74 : decode cX10_passIn 74 = .ok (.iload_n 2, 1) := by decide +kernel
theorem dX10_passIn_75 : decode cX10_passIn 75 = .ok (.ireturn, 1) := by decide +kernel
theorem dX10_wanderIn_0 : decode cX10_wanderIn 0 = .ok (.aload_n 1, 1) := by decide +kernel
theorem dX10_wanderIn_1 : decode cX10_wanderIn 1 = .ok (.iload_n 2, 1) := by decide +kernel
theorem dX10_wanderIn_2 : decode cX10_wanderIn 2 = .ok (.invokevirtual 139, 3) := by decide +kernel
theorem dX10_wanderIn_5 : decode cX10_wanderIn 5 = .ok (.ifCond .ne 6, 3) := by decide +kernel
theorem dX10_wanderIn_8 : decode cX10_wanderIn 8 = .ok (.bipush (-2), 2) := by decide +kernel
theorem dX10_wanderIn_10 : decode cX10_wanderIn 10 = .ok (.ireturn, 1) := by decide +kernel
theorem dX10_wanderIn_11 : decode cX10_wanderIn 11 = .ok (.aload_n 0, 1) := by decide +kernel
theorem dX10_wanderIn_12 : decode cX10_wanderIn 12 = .ok (.getfield 51, 3) := by decide +kernel
theorem dX10_wanderIn_15 : decode cX10_wanderIn 15 = .ok (.aload_n 1, 1) := by decide +kernel
theorem dX10_wanderIn_16 : decode cX10_wanderIn 16 = .ok (.aload_n 1, 1) := by decide +kernel
theorem dX10_wanderIn_17 : decode cX10_wanderIn 17 = .ok (.invokevirtual 151, 3) := by decide +kernel
theorem dX10_wanderIn_20 : decode cX10_wanderIn 20 = .ok (.iload_n 2, 1) := by decide +kernel
theorem dX10_wanderIn_21 : decode cX10_wanderIn 21 = .ok (.invokevirtual 159, 3) := by decide +kernel
theorem dX10_wanderIn_24 : decode cX10_wanderIn 24 = .ok (.istore_n 3, 1) := by decide +kernel
theorem dX10_wanderIn_25 : decode cX10_wanderIn 25 = .ok (.iload_n 3, 1) := by decide +kernel
theorem dX10_wanderIn_26 : decode cX10_wanderIn 26 = .ok (.iconst (-1), 1) := by decide +kernel
theorem dX10_wanderIn_27 : decode cX10_wanderIn 27 = .ok (.if_icmp .ne 6, 3) := by decide +kernel
theorem dX10_wanderIn_30 : decode cX10_wanderIn 30 = .ok (.bipush (-3), 2) := by decide +kernel
theorem dX10_wanderIn_32 : decode cX10_wanderIn 32 = .ok (.ireturn, 1) := by decide +kernel
theorem dX10_wanderIn_33 : decode cX10_wanderIn 33 = .ok (.aload_n 1, 1) := by decide +kernel
theorem dX10_wanderIn_34 : decode cX10_wanderIn 34 = .ok (.iload_n 2, 1) := by decide +kernel
theorem dX10_wanderIn_35 : decode cX10_wanderIn 35 = .ok (.iload_n 3, 1) := by decide +kernel
theorem dX10_wanderIn_36 : decode cX10_wanderIn 36 = .ok (.invokevirtual 424, 3) := by decide +kernel
theorem dX10_wanderIn_39 : decode cX10_wanderIn 39 = .ok (.aload_n 1, 1) := by decide +kernel
theorem dX10_wanderIn_40 : decode cX10_wanderIn 40 = .ok (.getfield 145, 3) := by decide +kernel
theorem dX10_wanderIn_43 : decode cX10_wanderIn 43 = .ok (.iload_n 2, 1) := by decide +kernel
theorem dX10_wanderIn_44 : decode cX10_wanderIn 44 = .ok (.iaload, 1) := by decide +kernel
theorem dX10_wanderIn_45 : decode cX10_wanderIn 45 = .ok (.ireturn, 1) := by decide +kernel
theorem dX10_act_0 : decode cX10_act 0 = .ok (.aload_n 0, 1) := by decide +kernel
theorem dX10_act_1 : decode cX10_act 1 = .ok (.getfield 29, 3) := by decide +kernel
theorem dX10_act_4 : decode cX10_act 4 = .ok (.aload_n 0, 1) := by decide +kernel
theorem dX10_act_5 : decode cX10_act 5 = .ok (.getfield 12, 3) := by decide +kernel
theorem dX10_act_8 : decode cX10_act 8 = .ok (.invokevirtual 415, 3) := by decide +kernel
theorem dX10_act_11 : decode cX10_act 11 = .ok (.iload_n 1, 1) := by decide +kernel
theorem dX10_act_12 : decode cX10_act 12 = .ok (.ifCond .ne 17, 3) := by decide +kernel
theorem dX10_act_15 : decode cX10_act 15 = .ok (.aload_n 0, 1) := by decide +kernel
theorem dX10_act_16 : decode cX10_act 16 = .ok (.aload_n 0, 1) := by decide +kernel
theorem dX10_act_17 : decode cX10_act 17 = .ok (.getfield 12, 3) := by decide +kernel
theorem dX10_act_20 : decode cX10_act 20 = .ok (.iload_n 2, 1) := by decide +kernel
theorem dX10_act_21 : decode cX10_act 21 = .ok (.invokevirtual 418, 3) := by decide +kernel
theorem dX10_act_24 : decode cX10_act 24 = .ok (.istore 4, 2) := by decide +kernel
theorem dX10_act_26 : decode cX10_act 26 = .ok (.goto 52, 3) := by decide +kernel
theorem dX10_act_29 : decode cX10_act 29 = .ok (.iload_n 1, 1) := by decide +kernel
theorem dX10_act_30 : decode cX10_act 30 = .ok (.iconst 1, 1) := by decide +kernel
theorem dX10_act_31 : decode cX10_act 31 = .ok (.if_icmp .ne 17, 3) := by decide +kernel
theorem dX10_act_34 : decode cX10_act 34 = .ok (.aload_n 0, 1) := by decide +kernel
theorem dX10_act_35 : decode cX10_act 35 = .ok (.aload_n 0, 1) := by decide +kernel
theorem dX10_act_36 : decode cX10_act 36 = .ok (.getfield 12, 3) := by decide +kernel
theorem dX10_act_39 : decode cX10_act 39 = .ok (.iload_n 2, 1) := by decide +kernel
theorem dX10_act_40 : decode cX10_act 40 = .ok (.invokevirtual 364, 3) := by decide +kernel
theorem dX10_act_43 : decode cX10_act 43 = .ok (.istore 4, 2) := by decide +kernel
theorem dX10_act_45 : decode cX10_act 45 = .ok (.goto 33, 3) := by decide +kernel
theorem dX10_act_48 : decode cX10_act 48 = .ok (.iload_n 1, 1) := by decide +kernel
theorem dX10_act_49 : decode cX10_act 49 = .ok (.iconst 2, 1) := by decide +kernel
theorem dX10_act_50 : decode cX10_act 50 = .ok (.if_icmp .ne 18, 3) := by decide +kernel
theorem dX10_act_53 : decode cX10_act 53 = .ok (.aload_n 0, 1) := by decide +kernel
theorem dX10_act_54 : decode cX10_act 54 = .ok (.aload_n 0, 1) := by decide +kernel
theorem dX10_act_55 : decode cX10_act 55 = .ok (.getfield 12, 3) := by decide +kernel
theorem dX10_act_58 : decode cX10_act 58 = .ok (.iload_n 2, 1) := by decide +kernel
theorem dX10_act_59 : decode cX10_act 59 = .ok (.iload_n 3, 1) := by decide +kernel
theorem dX10_act_60 : decode cX10_act 60 = .ok (.invokevirtual 368, 3) := by decide +kernel
theorem dX10_act_63 : decode cX10_act 63 = .ok (.istore 4, 2) := by decide +kernel
theorem dX10_act_65 : decode cX10_act 65 = .ok (.goto 13, 3) := by decide +kernel
theorem dX10_act_68 : decode cX10_act 68 = .ok (.aload_n 0, 1) := by decide +kernel
theorem dX10_act_69 : decode cX10_act 69 = .ok (.aload_n 0, 1) := by decide +kernel
theorem dX10_act_70 : decode cX10_act 70 = .ok (.getfield 12, 3) := by decide +kernel
theorem dX10_act_73 : decode cX10_act 73 = .ok (.invokevirtual 371, 3) := by decide +kernel
theorem dX10_act_76 : decode cX10_act 76 = .ok (.istore 4, 2) := by decide +kernel
theorem dX10_act_78 : decode cX10_act 78 = .ok (.iload 4, 2) := by decide +kernel
theorem dX10_act_80 : decode cX10_act 80 = .ok (.ifCond .lt 11, 3) := by decide +kernel
theorem dX10_act_83 : decode cX10_act 83 = .ok (.aload_n 0, 1) := by decide +kernel
theorem dX10_act_84 : decode cX10_act 84 = .ok (.getfield 29, 3) := by decide +kernel
theorem dX10_act_87 : decode cX10_act 87 = .ok (.iload_n 1, 1) := by decide +kernel
theorem dX10_act_88 : decode cX10_act 88 = .ok (.invokevirtual 421, 3) := by decide +kernel
theorem dX10_act_91 : decode cX10_act 91 = .ok (.iload 4, 2) := by decide +kernel
theorem dX10_act_93 : decode cX10_act 93 = .ok (.ireturn, 1) := by decide +kernel
theorem dX10_answer_0 : decode cX10_answer 0 = .ok (.iload_n 1, 1) := by decide +kernel
theorem dX10_answer_1 : decode cX10_answer 1 = .ok (.ifCond .ge 11, 3) := by decide +kernel
theorem dX10_answer_4 : decode cX10_answer 4 = .ok (.aload_n 0, 1) := by decide +kernel
theorem dX10_answer_5 : decode cX10_answer 5 = .ok (.iload_n 1, 1) := by decide +kernel
theorem dX10_answer_6 : decode cX10_answer 6 = .ok (.invokevirtual 93, 3) := by decide +kernel
theorem dX10_answer_9 : decode cX10_answer 9 = .ok (.goto 8, 3) := by decide +kernel
theorem dX10_answer_12 : decode cX10_answer 12 = .ok (.aload_n 0, 1) := by decide +kernel
theorem dX10_answer_13 : decode cX10_answer 13 = .ok (.iload_n 1, 1) := by decide +kernel
theorem dX10_answer_14 : decode cX10_answer 14 = .ok (.invokevirtual 107, 3) := by decide +kernel
theorem dX10_answer_17 : decode cX10_answer 17 = .ok (.ireturn, 1) := by decide +kernel
theorem dX10_wander_0 : decode cX10_wander 0 = .ok (.aload_n 0, 1) := by decide +kernel
theorem dX10_wander_1 : decode cX10_wander 1 = .ok (.aload_n 0, 1) := by decide +kernel
theorem dX10_wander_2 : decode cX10_wander 2 = .ok (.iconst 0, 1) := by decide +kernel
theorem dX10_wander_3 : decode cX10_wander 3 = .ok (.iload_n 1, 1) := by decide +kernel
theorem dX10_wander_4 : decode cX10_wander 4 = .ok (.iconst (-1), 1) := by decide +kernel
theorem dX10_wander_5 : decode cX10_wander 5 = .ok (.invokevirtual 237, 3) := by decide +kernel
theorem dX10_wander_8 : decode cX10_wander 8 = .ok (.invokevirtual 241, 3) := by decide +kernel
theorem dX10_wander_11 : decode cX10_wander 11 = .ok (.ireturn, 1) := by decide +kernel
theorem dX10_cry_0 : decode cX10_cry 0 = .ok (.aload_n 0, 1) := by decide +kernel
theorem dX10_cry_1 : decode cX10_cry 1 = .ok (.aload_n 0, 1) := by decide +kernel
theorem dX10_cry_2 : decode cX10_cry 2 = .ok (.iconst 1, 1) := by decide +kernel
theorem dX10_cry_3 : decode cX10_cry 3 = .ok (.iload_n 1, 1) := by decide +kernel
theorem dX10_cry_4 : decode cX10_cry 4 = .ok (.iconst (-1), 1) := by decide +kernel
theorem dX10_cry_5 : decode cX10_cry 5 = .ok (.invokevirtual 237, 3) := by decide +kernel
theorem dX10_cry_8 : decode cX10_cry 8 = .ok (.invokevirtual 241, 3) := by decide +kernel
theorem dX10_cry_11 : decode cX10_cry 11 = .ok (.ireturn, 1) := by decide +kernel
theorem dX10_lead_0 : decode cX10_lead 0 = .ok (.aload_n 0, 1) := by decide +kernel
theorem dX10_lead_1 : decode cX10_lead 1 = .ok (.aload_n 0, 1) := by decide +kernel
theorem dX10_lead_2 : decode cX10_lead 2 = .ok (.iconst 2, 1) := by decide +kernel
theorem dX10_lead_3 : decode cX10_lead 3 = .ok (.iload_n 1, 1) := by decide +kernel
theorem dX10_lead_4 : decode cX10_lead 4 = .ok (.iload_n 2, 1) := by decide +kernel
theorem dX10_lead_5 : decode cX10_lead 5 = .ok (.invokevirtual 237, 3) := by decide +kernel
theorem dX10_lead_8 : decode cX10_lead 8 = .ok (.invokevirtual 241, 3) := by decide +kernel
theorem dX10_lead_11 : decode cX10_lead 11 = .ok (.ireturn, 1) := by decide +kernel
theorem dX10_pass_0 : decode cX10_pass 0 = .ok (.aload_n 0, 1) := by decide +kernel
theorem dX10_pass_1 : decode cX10_pass 1 = .ok (.aload_n 0, 1) := by decide +kernel
theorem dX10_pass_2 : decode cX10_pass 2 = .ok (.iconst 3, 1) := by decide +kernel
theorem dX10_pass_3 : decode cX10_pass 3 = .ok (.iconst (-1), 1) := by decide +kernel
theorem dX10_pass_4 : decode cX10_pass 4 = .ok (.iconst (-1), 1) := by decide +kernel
theorem dX10_pass_5 : decode cX10_pass 5 = .ok (.invokevirtual 237, 3) := by decide +kernel
theorem dX10_pass_8 : decode cX10_pass 8 = .ok (.invokevirtual 241, 3) := by decide +kernel
theorem dX10_pass_11 : decode cX10_pass 11 = .ok (.ireturn, 1) := by decide +kernel
theorem dX10_undo_0 : decode cX10_undo 0 = .ok (.aload_n 0, 1) := by decide +kernel
theorem dX10_undo_1 : decode cX10_undo 1 = .ok (.getfield 29, 3) := by decide +kernel
theorem dX10_undo_4 : decode cX10_undo 4 = .ok (.getfield 100, 3) := by decide +kernel
theorem dX10_undo_7 : decode cX10_undo 7 = .ok (.ifCond .gt 10, 3) := by decide +kernel
theorem dX10_undo_10 : decode cX10_undo 10 = .ok (.aload_n 0, 1) := by decide +kernel
theorem dX10_undo_11 : decode cX10_undo 11 = .ok (.bipush (-3), 2) := by decide +kernel
theorem dX10_undo_13 : decode cX10_undo 13 = .ok (.invokevirtual 93, 3) := by decide +kernel
theorem dX10_undo_16 : decode cX10_undo 16 = .ok (.ireturn, 1) := by decide +kernel
theorem dX10_undo_17 : decode cX10_undo 17 = .ok (.aload_n 0, 1) := by decide +kernel
theorem dX10_undo_18 : decode cX10_undo 18 = .ok (.aload_n 0, 1) := by decide +kernel
theorem dX10_undo_19 : decode cX10_undo 19 = .ok (.getfield 29, 3) := by decide +kernel
theorem dX10_undo_22 : decode cX10_undo 22 = .ok (.aload_n 0, 1) := by decide +kernel
theorem dX10_undo_23 : decode cX10_undo 23 = .ok (.getfield 12, 3) := by decide +kernel
theorem dX10_undo_26 : decode cX10_undo 26 = .ok (.invokevirtual 244, 3) := by decide +kernel
theorem dX10_undo_29 : decode cX10_undo 29 = .ok (.invokevirtual 107, 3) := by decide +kernel
theorem dX10_undo_32 : decode cX10_undo 32 = .ok (.ireturn, 1) := by decide +kernel
theorem dX10_where_0 : decode cX10_where 0 = .ok (.aload_n 0, 1) := by decide +kernel
theorem dX10_where_1 : decode cX10_where 1 = .ok (.getfield 12, 3) := by decide +kernel
theorem dX10_where_4 : decode cX10_where 4 = .ok (.iload_n 1, 1) := by decide +kernel
theorem dX10_where_5 : decode cX10_where 5 = .ok (.invokevirtual 139, 3) := by decide +kernel
theorem dX10_where_8 : decode cX10_where 8 = .ok (.ifCond .eq 13, 3) := by decide +kernel
theorem dX10_where_11 : decode cX10_where 11 = .ok (.iload_n 2, 1) := by decide +kernel
theorem dX10_where_12 : decode cX10_where 12 = .ok (.ifCond .lt 9, 3) := by decide +kernel
theorem dX10_where_15 : decode cX10_where 15 = .ok (.iload_n 2, 1) := by decide +kernel
theorem dX10_where_16 : decode cX10_where 16 = .ok (.bipush 60, 2) := by decide +kernel
theorem dX10_where_18 : decode cX10_where 18 = .ok (.if_icmp .le 5, 3) := by decide +kernel
theorem dX10_where_21 : decode cX10_where 21 = .ok (.iconst (-1), 1) := by decide +kernel
theorem dX10_where_22 : decode cX10_where 22 = .ok (.ireturn, 1) := by decide +kernel
theorem dX10_where_23 : decode cX10_where 23 = .ok (.aload_n 0, 1) := by decide +kernel
theorem dX10_where_24 : decode cX10_where 24 = .ok (.getfield 51, 3) := by decide +kernel
theorem dX10_where_27 : decode cX10_where 27 = .ok (.aload_n 0, 1) := by decide +kernel
theorem dX10_where_28 : decode cX10_where 28 = .ok (.getfield 12, 3) := by decide +kernel
theorem dX10_where_31 : decode cX10_where 31 = .ok (.iload_n 1, 1) := by decide +kernel
theorem dX10_where_32 : decode cX10_where 32 = .ok (.iload_n 2, 1) := by decide +kernel
theorem dX10_where_33 : decode cX10_where 33 = .ok (.invokevirtual 248, 3) := by decide +kernel
theorem dX10_where_36 : decode cX10_where 36 = .ok (.aload_n 0, 1) := by decide +kernel
theorem dX10_where_37 : decode cX10_where 37 = .ok (.getfield 51, 3) := by decide +kernel
theorem dX10_where_40 : decode cX10_where 40 = .ok (.getfield 252, 3) := by decide +kernel
theorem dX10_where_43 : decode cX10_where 43 = .ok (.iload_n 2, 1) := by decide +kernel
theorem dX10_where_44 : decode cX10_where 44 = .ok (.iaload, 1) := by decide +kernel
theorem dX10_where_45 : decode cX10_where 45 = .ok (.ireturn, 1) := by decide +kernel
theorem dX10_far_0 : decode cX10_far 0 = .ok (.iload_n 1, 1) := by decide +kernel
theorem dX10_far_1 : decode cX10_far 1 = .ok (.invokestatic 129, 3) := by decide +kernel
theorem dX10_far_4 : decode cX10_far 4 = .ok (.ifCond .eq 10, 3) := by decide +kernel
theorem dX10_far_7 : decode cX10_far 7 = .ok (.iload_n 2, 1) := by decide +kernel
theorem dX10_far_8 : decode cX10_far 8 = .ok (.invokestatic 129, 3) := by decide +kernel
theorem dX10_far_11 : decode cX10_far 11 = .ok (.ifCond .ne 5, 3) := by decide +kernel
theorem dX10_far_14 : decode cX10_far 14 = .ok (.iconst (-1), 1) := by decide +kernel
theorem dX10_far_15 : decode cX10_far 15 = .ok (.ireturn, 1) := by decide +kernel
theorem dX10_far_16 : decode cX10_far 16 = .ok (.aload_n 0, 1) := by decide +kernel
theorem dX10_far_17 : decode cX10_far 17 = .ok (.getfield 63, 3) := by decide +kernel
theorem dX10_far_20 : decode cX10_far 20 = .ok (.aload_n 0, 1) := by decide +kernel
theorem dX10_far_21 : decode cX10_far 21 = .ok (.getfield 12, 3) := by decide +kernel
theorem dX10_far_24 : decode cX10_far 24 = .ok (.invokevirtual 255, 3) := by decide +kernel
theorem dX10_far_27 : decode cX10_far 27 = .ok (.aload_n 0, 1) := by decide +kernel
theorem dX10_far_28 : decode cX10_far 28 = .ok (.getfield 63, 3) := by decide +kernel
theorem dX10_far_31 : decode cX10_far 31 = .ok (.iload_n 1, 1) := by decide +kernel
theorem dX10_far_32 : decode cX10_far 32 = .ok (.iload_n 2, 1) := by decide +kernel
theorem dX10_far_33 : decode cX10_far 33 = .ok (.invokevirtual 258, 3) := by decide +kernel
theorem dX10_far_36 : decode cX10_far 36 = .ok (.istore_n 3, 1) := by decide +kernel
theorem dX10_far_37 : decode cX10_far 37 = .ok (.iload_n 3, 1) := by decide +kernel
theorem dX10_far_38 : decode cX10_far 38 = .ok (.ldc_w 261, 3) := by decide +kernel
theorem dX10_far_41 : decode cX10_far 41 = .ok (.if_icmp .ge 7, 3) := by decide +kernel
theorem dX10_far_44 : decode cX10_far 44 = .ok (.iload_n 3, 1) := by decide +kernel
theorem dX10_far_45 : decode cX10_far 45 = .ok (.goto 4, 3) := by decide +kernel
theorem dX10_far_48 : decode cX10_far 48 = .ok (.iconst (-1), 1) := by decide +kernel
theorem dX10_far_49 : decode cX10_far 49 = .ok (.ireturn, 1) := by decide +kernel
theorem dX10_found_0 : decode cX10_found 0 = .ok (.iload_n 1, 1) := by decide +kernel
theorem dX10_found_1 : decode cX10_found 1 = .ok (.invokestatic 129, 3) := by decide +kernel
theorem dX10_found_4 : decode cX10_found 4 = .ok (.ifCond .eq 14, 3) := by decide +kernel
theorem dX10_found_7 : decode cX10_found 7 = .ok (.aload_n 0, 1) := by decide +kernel
theorem dX10_found_8 : decode cX10_found 8 = .ok (.getfield 12, 3) := by decide +kernel
theorem dX10_found_11 : decode cX10_found 11 = .ok (.iload_n 2, 1) := by decide +kernel
theorem dX10_found_12 : decode cX10_found 12 = .ok (.invokevirtual 139, 3) := by decide +kernel
theorem dX10_found_15 : decode cX10_found 15 = .ok (.ifCond .ne 5, 3) := by decide +kernel
theorem dX10_found_18 : decode cX10_found 18 = .ok (.iconst (-1), 1) := by decide +kernel
theorem dX10_found_19 : decode cX10_found 19 = .ok (.ireturn, 1) := by decide +kernel
theorem dX10_found_20 : decode cX10_found 20 = .ok (.aload_n 0, 1) := by decide +kernel
theorem dX10_found_21 : decode cX10_found 21 = .ok (.getfield 63, 3) := by decide +kernel
theorem dX10_found_24 : decode cX10_found 24 = .ok (.aload_n 0, 1) := by decide +kernel
theorem dX10_found_25 : decode cX10_found 25 = .ok (.getfield 12, 3) := by decide +kernel
theorem dX10_found_28 : decode cX10_found 28 = .ok (.invokevirtual 255, 3) := by decide +kernel
theorem dX10_found_31 : decode cX10_found 31 = .ok (.aload_n 0, 1) := by decide +kernel
theorem dX10_found_32 : decode cX10_found 32 = .ok (.getfield 51, 3) := by decide +kernel
theorem dX10_found_35 : decode cX10_found 35 = .ok (.aload_n 0, 1) := by decide +kernel
theorem dX10_found_36 : decode cX10_found 36 = .ok (.getfield 12, 3) := by decide +kernel
theorem dX10_found_39 : decode cX10_found 39 = .ok (.iload_n 2, 1) := by decide +kernel
theorem dX10_found_40 : decode cX10_found 40 = .ok (.bipush 60, 2) := by decide +kernel
theorem dX10_found_42 : decode cX10_found 42 = .ok (.invokevirtual 248, 3) := by decide +kernel
theorem dX10_found_45 : decode cX10_found 45 = .ok (.aload_n 0, 1) := by decide +kernel
theorem dX10_found_46 : decode cX10_found 46 = .ok (.getfield 63, 3) := by decide +kernel
theorem dX10_found_49 : decode cX10_found 49 = .ok (.iload_n 1, 1) := by decide +kernel
theorem dX10_found_50 : decode cX10_found 50 = .ok (.aload_n 0, 1) := by decide +kernel
theorem dX10_found_51 : decode cX10_found 51 = .ok (.getfield 51, 3) := by decide +kernel
theorem dX10_found_54 : decode cX10_found 54 = .ok (.getfield 252, 3) := by decide +kernel
theorem dX10_found_57 : decode cX10_found 57 = .ok (.invokevirtual 262, 3) := by decide +kernel
theorem dX10_found_60 : decode cX10_found 60 = .ok (.istore_n 3, 1) := by decide +kernel
theorem dX10_found_61 : decode cX10_found 61 = .ok (.iload_n 3, 1) := by decide +kernel
theorem dX10_found_62 : decode cX10_found 62 = .ok (.ldc_w 261, 3) := by decide +kernel
theorem dX10_found_65 : decode cX10_found 65 = .ok (.if_icmp .ge 7, 3) := by decide +kernel
theorem dX10_found_68 : decode cX10_found 68 = .ok (.iload_n 3, 1) := by decide +kernel
theorem dX10_found_69 : decode cX10_found 69 = .ok (.goto 4, 3) := by decide +kernel
theorem dX10_found_72 : decode cX10_found 72 = .ok (.iconst (-1), 1) := by decide +kernel
theorem dX10_found_73 : decode cX10_found 73 = .ok (.ireturn, 1) := by decide +kernel
theorem dX10_post_0 : decode cX10_post 0 = .ok (.iload_n 1, 1) := by decide +kernel
theorem dX10_post_1 : decode cX10_post 1 = .ok (.ifCond .lt 18, 3) := by decide +kernel
theorem dX10_post_4 : decode cX10_post 4 = .ok (.iload_n 1, 1) := by decide +kernel
theorem dX10_post_5 : decode cX10_post 5 = .ok (.iconst 1, 1) := by decide +kernel
theorem dX10_post_6 : decode cX10_post 6 = .ok (.if_icmp .gt 13, 3) := by decide +kernel
theorem dX10_post_9 : decode cX10_post 9 = .ok (.aload_n 0, 1) := by decide +kernel
theorem dX10_post_10 : decode cX10_post 10 = .ok (.getfield 12, 3) := by decide +kernel
theorem dX10_post_13 : decode cX10_post 13 = .ok (.getfield 132, 3) := by decide +kernel
theorem dX10_post_16 : decode cX10_post 16 = .ok (.ifCond .ne 5, 3) := by decide +kernel
theorem dX10_post_19 : decode cX10_post 19 = .ok (.iconst (-1), 1) := by decide +kernel
theorem dX10_post_20 : decode cX10_post 20 = .ok (.ireturn, 1) := by decide +kernel
theorem dX10_post_21 : decode cX10_post 21 = .ok (.aload_n 0, 1) := by decide +kernel
theorem dX10_post_22 : decode cX10_post 22 = .ok (.getfield 63, 3) := by decide +kernel
theorem dX10_post_25 : decode cX10_post 25 = .ok (.aload_n 0, 1) := by decide +kernel
theorem dX10_post_26 : decode cX10_post 26 = .ok (.getfield 12, 3) := by decide +kernel
theorem dX10_post_29 : decode cX10_post 29 = .ok (.invokevirtual 255, 3) := by decide +kernel
theorem dX10_post_32 : decode cX10_post 32 = .ok (.aload_n 0, 1) := by decide +kernel
theorem dX10_post_33 : decode cX10_post 33 = .ok (.getfield 63, 3) := by decide +kernel
theorem dX10_post_36 : decode cX10_post 36 = .ok (.getfield 266, 3) := by decide +kernel
theorem dX10_post_39 : decode cX10_post 39 = .ok (.iconst 0, 1) := by decide +kernel
theorem dX10_post_40 : decode cX10_post 40 = .ok (.invokestatic 269, 3) := by decide +kernel
theorem dX10_post_43 : decode cX10_post 43 = .ok (.iconst 0, 1) := by decide +kernel
theorem dX10_post_44 : decode cX10_post 44 = .ok (.istore_n 2, 1) := by decide +kernel
theorem dX10_post_45 : decode cX10_post 45 = .ok (.iload_n 2, 1) := by decide +kernel
theorem dX10_post_46 : decode cX10_post 46 = .ok (.aload_n 0, 1) := by decide +kernel
theorem dX10_post_47 : decode cX10_post 47 = .ok (.getfield 12, 3) := by decide +kernel
theorem dX10_post_50 : decode cX10_post 50 = .ok (.getfield 132, 3) := by decide +kernel
theorem dX10_post_53 : decode cX10_post 53 = .ok (.if_icmp .ge 37, 3) := by decide +kernel
theorem dX10_post_56 : decode cX10_post 56 = .ok (.aload_n 0, 1) := by decide +kernel
theorem dX10_post_57 : decode cX10_post 57 = .ok (.getfield 51, 3) := by decide +kernel
theorem dX10_post_60 : decode cX10_post 60 = .ok (.aload_n 0, 1) := by decide +kernel
theorem dX10_post_61 : decode cX10_post 61 = .ok (.getfield 12, 3) := by decide +kernel
theorem dX10_post_64 : decode cX10_post 64 = .ok (.iload_n 2, 1) := by decide +kernel
theorem dX10_post_65 : decode cX10_post 65 = .ok (.bipush 60, 2) := by decide +kernel
theorem dX10_post_67 : decode cX10_post 67 = .ok (.invokevirtual 248, 3) := by decide +kernel
theorem dX10_post_70 : decode cX10_post 70 = .ok (.aload_n 0, 1) := by decide +kernel
theorem dX10_post_71 : decode cX10_post 71 = .ok (.getfield 63, 3) := by decide +kernel
theorem dX10_post_74 : decode cX10_post 74 = .ok (.aload_n 0, 1) := by decide +kernel
theorem dX10_post_75 : decode cX10_post 75 = .ok (.getfield 51, 3) := by decide +kernel
theorem dX10_post_78 : decode cX10_post 78 = .ok (.getfield 252, 3) := by decide +kernel
theorem dX10_post_81 : decode cX10_post 81 = .ok (.invokevirtual 275, 3) := by decide +kernel
theorem dX10_post_84 : decode cX10_post 84 = .ok (.iinc 2 1, 3) := by decide +kernel
theorem dX10_post_87 : decode cX10_post 87 = .ok (.goto (-42), 3) := by decide +kernel
theorem dX10_post_90 : decode cX10_post 90 = .ok (.aload_n 0, 1) := by decide +kernel
theorem dX10_post_91 : decode cX10_post 91 = .ok (.getfield 63, 3) := by decide +kernel
theorem dX10_post_94 : decode cX10_post 94 = .ok (.invokevirtual 279, 3) := by decide +kernel
theorem dX10_post_97 : decode cX10_post 97 = .ok (.istore_n 2, 1) := by decide +kernel
theorem dX10_post_98 : decode cX10_post 98 = .ok (.aload_n 0, 1) := by decide +kernel
theorem dX10_post_99 : decode cX10_post 99 = .ok (.getfield 63, 3) := by decide +kernel
theorem dX10_post_102 : decode cX10_post 102 = .ok (.getfield 266, 3) := by decide +kernel
theorem dX10_post_105 : decode cX10_post 105 = .ok (.iload_n 2, 1) := by decide +kernel
theorem dX10_post_106 : decode cX10_post 106 = .ok (.iaload, 1) := by decide +kernel
theorem dX10_post_107 : decode cX10_post 107 = .ok (.istore_n 3, 1) := by decide +kernel
theorem dX10_post_108 : decode cX10_post 108 = .ok (.iload_n 3, 1) := by decide +kernel
theorem dX10_post_109 : decode cX10_post 109 = .ok (.ldc_w 261, 3) := by decide +kernel
theorem dX10_post_112 : decode cX10_post 112 = .ok (.if_icmp .lt 5, 3) := by decide +kernel
theorem dX10_post_115 : decode cX10_post 115 = .ok (.iconst (-1), 1) := by decide +kernel
theorem dX10_post_116 : decode cX10_post 116 = .ok (.ireturn, 1) := by decide +kernel
theorem dX10_post_117 : decode cX10_post 117 = .ok (.iload_n 1, 1) := by decide +kernel
theorem dX10_post_118 : decode cX10_post 118 = .ok (.ifCond .ne 7, 3) := by decide +kernel
theorem dX10_post_121 : decode cX10_post 121 = .ok (.iload_n 2, 1) := by decide +kernel
theorem dX10_post_122 : decode cX10_post 122 = .ok (.goto 4, 3) := by decide +kernel
theorem dX10_post_125 : decode cX10_post 125 = .ok (.iload_n 3, 1) := by decide +kernel
theorem dX10_post_126 : decode cX10_post 126 = .ok (.ireturn, 1) := by decide +kernel
theorem dX10_posts_0 : decode cX10_posts 0 = .ok (.iload_n 1, 1) := by decide +kernel
theorem dX10_posts_1 : decode cX10_posts 1 = .ok (.ifCond .lt 18, 3) := by decide +kernel
theorem dX10_posts_4 : decode cX10_posts 4 = .ok (.iload_n 1, 1) := by decide +kernel
theorem dX10_posts_5 : decode cX10_posts 5 = .ok (.bipush 50, 2) := by decide +kernel
theorem dX10_posts_7 : decode cX10_posts 7 = .ok (.if_icmp .gt 12, 3) := by decide +kernel
theorem dX10_posts_10 : decode cX10_posts 10 = .ok (.iload_n 2, 1) := by decide +kernel
theorem dX10_posts_11 : decode cX10_posts 11 = .ok (.ifCond .lt 8, 3) := by decide +kernel
theorem dX10_posts_14 : decode cX10_posts 14 = .ok (.iload_n 2, 1) := by decide +kernel
theorem dX10_posts_15 : decode cX10_posts 15 = .ok (.iconst 1, 1) := by decide +kernel
theorem dX10_posts_16 : decode cX10_posts 16 = .ok (.if_icmp .le 5, 3) := by decide +kernel
theorem dX10_posts_19 : decode cX10_posts 19 = .ok (.iconst (-1), 1) := by decide +kernel
theorem dX10_posts_20 : decode cX10_posts 20 = .ok (.ireturn, 1) := by decide +kernel
theorem dX10_posts_21 : decode cX10_posts 21 = .ok (.aload_n 0, 1) := by decide +kernel
theorem dX10_posts_22 : decode cX10_posts 22 = .ok (.getfield 63, 3) := by decide +kernel
theorem dX10_posts_25 : decode cX10_posts 25 = .ok (.aload_n 0, 1) := by decide +kernel
theorem dX10_posts_26 : decode cX10_posts 26 = .ok (.getfield 12, 3) := by decide +kernel
theorem dX10_posts_29 : decode cX10_posts 29 = .ok (.invokevirtual 255, 3) := by decide +kernel
theorem dX10_posts_32 : decode cX10_posts 32 = .ok (.aload_n 0, 1) := by decide +kernel
theorem dX10_posts_33 : decode cX10_posts 33 = .ok (.getfield 63, 3) := by decide +kernel
theorem dX10_posts_36 : decode cX10_posts 36 = .ok (.iload_n 1, 1) := by decide +kernel
theorem dX10_posts_37 : decode cX10_posts 37 = .ok (.aload_n 0, 1) := by decide +kernel
theorem dX10_posts_38 : decode cX10_posts 38 = .ok (.getfield 63, 3) := by decide +kernel
theorem dX10_posts_41 : decode cX10_posts 41 = .ok (.aload_n 0, 1) := by decide +kernel
theorem dX10_posts_42 : decode cX10_posts 42 = .ok (.getfield 12, 3) := by decide +kernel
theorem dX10_posts_45 : decode cX10_posts 45 = .ok (.invokevirtual 283, 3) := by decide +kernel
theorem dX10_posts_48 : decode cX10_posts 48 = .ok (.invokevirtual 286, 3) := by decide +kernel
theorem dX10_posts_51 : decode cX10_posts 51 = .ok (.istore_n 3, 1) := by decide +kernel
theorem dX10_posts_52 : decode cX10_posts 52 = .ok (.iload_n 2, 1) := by decide +kernel
theorem dX10_posts_53 : decode cX10_posts 53 = .ok (.ifCond .ne 10, 3) := by decide +kernel
theorem dX10_posts_56 : decode cX10_posts 56 = .ok (.iload_n 3, 1) := by decide +kernel
theorem dX10_posts_57 : decode cX10_posts 57 = .ok (.invokestatic 289, 3) := by decide +kernel
theorem dX10_posts_60 : decode cX10_posts 60 = .ok (.goto 4, 3) := by decide +kernel
theorem dX10_posts_63 : decode cX10_posts 63 = .ok (.iload_n 3, 1) := by decide +kernel
theorem dX10_posts_64 : decode cX10_posts 64 = .ok (.ireturn, 1) := by decide +kernel
theorem dX10_again_0 : decode cX10_again 0 = .ok (.aload_n 0, 1) := by decide +kernel
theorem dX10_again_1 : decode cX10_again 1 = .ok (.getfield 12, 3) := by decide +kernel
theorem dX10_again_4 : decode cX10_again 4 = .ok (.iload_n 1, 1) := by decide +kernel
theorem dX10_again_5 : decode cX10_again 5 = .ok (.invokevirtual 139, 3) := by decide +kernel
theorem dX10_again_8 : decode cX10_again 8 = .ok (.ifCond .ne 5, 3) := by decide +kernel
theorem dX10_again_11 : decode cX10_again 11 = .ok (.iconst (-1), 1) := by decide +kernel
theorem dX10_again_12 : decode cX10_again 12 = .ok (.ireturn, 1) := by decide +kernel
theorem dX10_again_13 : decode cX10_again 13 = .ok (.aload_n 0, 1) := by decide +kernel
theorem dX10_again_14 : decode cX10_again 14 = .ok (.getfield 51, 3) := by decide +kernel
theorem dX10_again_17 : decode cX10_again 17 = .ok (.aload_n 0, 1) := by decide +kernel
theorem dX10_again_18 : decode cX10_again 18 = .ok (.getfield 12, 3) := by decide +kernel
theorem dX10_again_21 : decode cX10_again 21 = .ok (.iload_n 1, 1) := by decide +kernel
theorem dX10_again_22 : decode cX10_again 22 = .ok (.bipush 60, 2) := by decide +kernel
theorem dX10_again_24 : decode cX10_again 24 = .ok (.invokevirtual 248, 3) := by decide +kernel
theorem dX10_again_27 : decode cX10_again 27 = .ok (.iconst 1, 1) := by decide +kernel
theorem dX10_again_28 : decode cX10_again 28 = .ok (.istore_n 2, 1) := by decide +kernel
theorem dX10_again_29 : decode cX10_again 29 = .ok (.iload_n 2, 1) := by decide +kernel
theorem dX10_again_30 : decode cX10_again 30 = .ok (.bipush 60, 2) := by decide +kernel
theorem dX10_again_32 : decode cX10_again 32 = .ok (.if_icmp .gt 32, 3) := by decide +kernel
theorem dX10_again_35 : decode cX10_again 35 = .ok (.aload_n 0, 1) := by decide +kernel
theorem dX10_again_36 : decode cX10_again 36 = .ok (.getfield 51, 3) := by decide +kernel
theorem dX10_again_39 : decode cX10_again 39 = .ok (.getfield 252, 3) := by decide +kernel
theorem dX10_again_42 : decode cX10_again 42 = .ok (.iload_n 2, 1) := by decide +kernel
theorem dX10_again_43 : decode cX10_again 43 = .ok (.iaload, 1) := by decide +kernel
theorem dX10_again_44 : decode cX10_again 44 = .ok (.aload_n 0, 1) := by decide +kernel
theorem dX10_again_45 : decode cX10_again 45 = .ok (.getfield 51, 3) := by decide +kernel
theorem dX10_again_48 : decode cX10_again 48 = .ok (.getfield 252, 3) := by decide +kernel
theorem dX10_again_51 : decode cX10_again 51 = .ok (.iconst 0, 1) := by decide +kernel
theorem dX10_again_52 : decode cX10_again 52 = .ok (.iaload, 1) := by decide +kernel
theorem dX10_again_53 : decode cX10_again 53 = .ok (.if_icmp .ne 5, 3) := by decide +kernel
theorem dX10_again_56 : decode cX10_again 56 = .ok (.iload_n 2, 1) := by decide +kernel
theorem dX10_again_57 : decode cX10_again 57 = .ok (.ireturn, 1) := by decide +kernel
theorem dX10_again_58 : decode cX10_again 58 = .ok (.iinc 2 1, 3) := by decide +kernel
theorem dX10_again_61 : decode cX10_again 61 = .ok (.goto (-32), 3) := by decide +kernel
theorem dX10_again_64 : decode cX10_again 64 = .ok (.iconst (-1), 1) := by decide +kernel
theorem dX10_again_65 : decode cX10_again 65 = .ok (.ireturn, 1) := by decide +kernel
theorem dX10_isName_0 : decode cX10_isName 0 = .ok (.iload_n 0, 1) := by decide +kernel
theorem dX10_isName_1 : decode cX10_isName 1 = .ok (.ifCond .lt 13, 3) := by decide +kernel
theorem dX10_isName_4 : decode cX10_isName 4 = .ok (.iload_n 0, 1) := by decide +kernel
theorem dX10_isName_5 : decode cX10_isName 5 = .ok (.bipush 20, 2) := by decide +kernel
theorem dX10_isName_7 : decode cX10_isName 7 = .ok (.if_icmp .ge 7, 3) := by decide +kernel
theorem dX10_isName_10 : decode cX10_isName 10 = .ok (.iconst 1, 1) := by decide +kernel
theorem dX10_isName_11 : decode cX10_isName 11 = .ok (.goto 4, 3) := by decide +kernel
theorem dX10_isName_14 : decode cX10_isName 14 = .ok (.iconst 0, 1) := by decide +kernel
theorem dX10_isName_15 : decode cX10_isName 15 = .ok (.ireturn, 1) := by decide +kernel
theorem dX10_hear_0 : decode cX10_hear 0 = .ok (.iload_n 1, 1) := by decide +kernel
theorem dX10_hear_1 : decode cX10_hear 1 = .ok (.invokestatic 294, 3) := by decide +kernel
theorem dX10_hear_4 : decode cX10_hear 4 = .ok (.ifCond .ne 9, 3) := by decide +kernel
theorem dX10_hear_7 : decode cX10_hear 7 = .ok (.aload_n 0, 1) := by decide +kernel
theorem dX10_hear_8 : decode cX10_hear 8 = .ok (.iconst (-1), 1) := by decide +kernel
theorem dX10_hear_9 : decode cX10_hear 9 = .ok (.invokevirtual 93, 3) := by decide +kernel
theorem dX10_hear_12 : decode cX10_hear 12 = .ok (.ireturn, 1) := by decide +kernel
theorem dX10_hear_13 : decode cX10_hear 13 = .ok (.aload_n 0, 1) := by decide +kernel
theorem dX10_hear_14 : decode cX10_hear 14 = .ok (.getfield 12, 3) := by decide +kernel
theorem dX10_hear_17 : decode cX10_hear 17 = .ok (.getfield 297, 3) := by decide +kernel
theorem dX10_hear_20 : decode cX10_hear 20 = .ok (.bipush 6, 2) := by decide +kernel
theorem dX10_hear_22 : decode cX10_hear 22 = .ok (.if_icmp .lt 10, 3) := by decide +kernel
theorem dX10_hear_25 : decode cX10_hear 25 = .ok (.aload_n 0, 1) := by decide +kernel
theorem dX10_hear_26 : decode cX10_hear 26 = .ok (.bipush (-5), 2) := by decide +kernel
theorem dX10_hear_28 : decode cX10_hear 28 = .ok (.invokevirtual 93, 3) := by decide +kernel
theorem dX10_hear_31 : decode cX10_hear 31 = .ok (.ireturn, 1) := by decide +kernel
theorem dX10_hear_32 : decode cX10_hear 32 = .ok (.aload_n 0, 1) := by decide +kernel
theorem dX10_hear_33 : decode cX10_hear 33 = .ok (.getfield 12, 3) := by decide +kernel
theorem dX10_hear_36 : decode cX10_hear 36 = .ok (.getfield 300, 3) := by decide +kernel
theorem dX10_hear_39 : decode cX10_hear 39 = .ok (.aload_n 0, 1) := by decide +kernel
theorem dX10_hear_40 : decode cX10_hear 40 = .ok (.getfield 12, 3) := by decide +kernel
theorem dX10_hear_43 : decode cX10_hear 43 = .ok (.getfield 297, 3) := by decide +kernel
theorem dX10_hear_46 : decode cX10_hear 46 = .ok (.iload_n 1, 1) := by decide +kernel
theorem dX10_hear_47 : decode cX10_hear 47 = .ok (.iastore, 1) := by decide +kernel
theorem dX10_hear_48 : decode cX10_hear 48 = .ok (.aload_n 0, 1) := by decide +kernel
theorem dX10_hear_49 : decode cX10_hear 49 = .ok (.getfield 12, 3) := by decide +kernel
theorem dX10_hear_52 : decode cX10_hear 52 = .ok (.dup, 1) := by decide +kernel
theorem dX10_hear_53 : decode cX10_hear 53 = .ok (.getfield 297, 3) := by decide +kernel
theorem dX10_hear_56 : decode cX10_hear 56 = .ok (.iconst 1, 1) := by decide +kernel
theorem dX10_hear_57 : decode cX10_hear 57 = .ok (.iadd, 1) := by decide +kernel
theorem dX10_hear_58 : decode cX10_hear 58 = .ok (.putfield 297, 3) := by decide +kernel
theorem dX10_hear_61 : decode cX10_hear 61 = .ok (.aload_n 0, 1) := by decide +kernel
theorem dX10_hear_62 : decode cX10_hear 62 = .ok (.aload_n 0, 1) := by decide +kernel
theorem dX10_hear_63 : decode cX10_hear 63 = .ok (.getfield 12, 3) := by decide +kernel
theorem dX10_hear_66 : decode cX10_hear 66 = .ok (.getfield 297, 3) := by decide +kernel
theorem dX10_hear_69 : decode cX10_hear 69 = .ok (.invokevirtual 107, 3) := by decide +kernel
theorem dX10_hear_72 : decode cX10_hear 72 = .ok (.ireturn, 1) := by decide +kernel
theorem dX10_forget_0 : decode cX10_forget 0 = .ok (.aload_n 0, 1) := by decide +kernel
theorem dX10_forget_1 : decode cX10_forget 1 = .ok (.getfield 12, 3) := by decide +kernel
theorem dX10_forget_4 : decode cX10_forget 4 = .ok (.getfield 297, 3) := by decide +kernel
theorem dX10_forget_7 : decode cX10_forget 7 = .ok (.istore_n 1, 1) := by decide +kernel
theorem dX10_forget_8 : decode cX10_forget 8 = .ok (.aload_n 0, 1) := by decide +kernel
theorem dX10_forget_9 : decode cX10_forget 9 = .ok (.getfield 12, 3) := by decide +kernel
theorem dX10_forget_12 : decode cX10_forget 12 = .ok (.iconst 0, 1) := by decide +kernel
theorem dX10_forget_13 : decode cX10_forget 13 = .ok (.putfield 297, 3) := by decide +kernel
theorem dX10_forget_16 : decode cX10_forget 16 = .ok (.iload_n 1, 1) := by decide +kernel
theorem dX10_forget_17 : decode cX10_forget 17 = .ok (.ireturn, 1) := by decide +kernel
theorem dX10_gone_0 : decode cX10_gone 0 = .ok (.iload_n 1, 1) := by decide +kernel
theorem dX10_gone_1 : decode cX10_gone 1 = .ok (.ifCond .lt 8, 3) := by decide +kernel
theorem dX10_gone_4 : decode cX10_gone 4 = .ok (.iload_n 1, 1) := by decide +kernel
theorem dX10_gone_5 : decode cX10_gone 5 = .ok (.iconst 2, 1) := by decide +kernel
theorem dX10_gone_6 : decode cX10_gone 6 = .ok (.if_icmp .le 5, 3) := by decide +kernel
theorem dX10_gone_9 : decode cX10_gone 9 = .ok (.iconst (-1), 1) := by decide +kernel
theorem dX10_gone_10 : decode cX10_gone 10 = .ok (.ireturn, 1) := by decide +kernel
theorem dX10_gone_11 : decode cX10_gone 11 = .ok (.aload_n 0, 1) := by decide +kernel
theorem dX10_gone_12 : decode cX10_gone 12 = .ok (.getfield 70, 3) := by decide +kernel
theorem dX10_gone_15 : decode cX10_gone 15 = .ok (.aload_n 0, 1) := by decide +kernel
theorem dX10_gone_16 : decode cX10_gone 16 = .ok (.getfield 12, 3) := by decide +kernel
theorem dX10_gone_19 : decode cX10_gone 19 = .ok (.invokevirtual 303, 3) := by decide +kernel
theorem dX10_gone_22 : decode cX10_gone 22 = .ok (.iload_n 1, 1) := by decide +kernel
theorem dX10_gone_23 : decode cX10_gone 23 = .ok (.ifCond .ne 11, 3) := by decide +kernel
theorem dX10_gone_26 : decode cX10_gone 26 = .ok (.aload_n 0, 1) := by decide +kernel
theorem dX10_gone_27 : decode cX10_gone 27 = .ok (.getfield 70, 3) := by decide +kernel
theorem dX10_gone_30 : decode cX10_gone 30 = .ok (.getfield 306, 3) := by decide +kernel
theorem dX10_gone_33 : decode cX10_gone 33 = .ok (.ireturn, 1) := by decide +kernel
theorem dX10_gone_34 : decode cX10_gone 34 = .ok (.iload_n 1, 1) := by decide +kernel
theorem dX10_gone_35 : decode cX10_gone 35 = .ok (.iconst 1, 1) := by decide +kernel
theorem dX10_gone_36 : decode cX10_gone 36 = .ok (.if_icmp .ne 13, 3) := by decide +kernel
theorem dX10_gone_39 : decode cX10_gone 39 = .ok (.aload_n 0, 1) := by decide +kernel
theorem dX10_gone_40 : decode cX10_gone 40 = .ok (.getfield 70, 3) := by decide +kernel
theorem dX10_gone_43 : decode cX10_gone 43 = .ok (.getfield 309, 3) := by decide +kernel
theorem dX10_gone_46 : decode cX10_gone 46 = .ok (.goto 10, 3) := by decide +kernel
theorem dX10_gone_49 : decode cX10_gone 49 = .ok (.aload_n 0, 1) := by decide +kernel
theorem dX10_gone_50 : decode cX10_gone 50 = .ok (.getfield 70, 3) := by decide +kernel
theorem dX10_gone_53 : decode cX10_gone 53 = .ok (.getfield 312, 3) := by decide +kernel
theorem dX10_gone_56 : decode cX10_gone 56 = .ok (.ireturn, 1) := by decide +kernel
theorem dX10_named_0 : decode cX10_named 0 = .ok (.iload_n 1, 1) := by decide +kernel
theorem dX10_named_1 : decode cX10_named 1 = .ok (.invokestatic 294, 3) := by decide +kernel
theorem dX10_named_4 : decode cX10_named 4 = .ok (.ifCond .ne 5, 3) := by decide +kernel
theorem dX10_named_7 : decode cX10_named 7 = .ok (.iconst (-1), 1) := by decide +kernel
theorem dX10_named_8 : decode cX10_named 8 = .ok (.ireturn, 1) := by decide +kernel
theorem dX10_named_9 : decode cX10_named 9 = .ok (.iconst 0, 1) := by decide +kernel
theorem dX10_named_10 : decode cX10_named 10 = .ok (.istore_n 2, 1) := by decide +kernel
theorem dX10_named_11 : decode cX10_named 11 = .ok (.iload_n 2, 1) := by decide +kernel
theorem dX10_named_12 : decode cX10_named 12 = .ok (.aload_n 0, 1) := by decide +kernel
theorem dX10_named_13 : decode cX10_named 13 = .ok (.getfield 12, 3) := by decide +kernel
theorem dX10_named_16 : decode cX10_named 16 = .ok (.getfield 97, 3) := by decide +kernel
theorem dX10_named_19 : decode cX10_named 19 = .ok (.if_icmp .ge 24, 3) := by decide +kernel
theorem dX10_named_22 : decode cX10_named 22 = .ok (.aload_n 0, 1) := by decide +kernel
theorem dX10_named_23 : decode cX10_named 23 = .ok (.getfield 12, 3) := by decide +kernel
theorem dX10_named_26 : decode cX10_named 26 = .ok (.getfield 126, 3) := by decide +kernel
theorem dX10_named_29 : decode cX10_named 29 = .ok (.iload_n 2, 1) := by decide +kernel
theorem dX10_named_30 : decode cX10_named 30 = .ok (.iaload, 1) := by decide +kernel
theorem dX10_named_31 : decode cX10_named 31 = .ok (.iload_n 1, 1) := by decide +kernel
theorem dX10_named_32 : decode cX10_named 32 = .ok (.if_icmp .ne 5, 3) := by decide +kernel
theorem dX10_named_35 : decode cX10_named 35 = .ok (.iload_n 2, 1) := by decide +kernel
theorem dX10_named_36 : decode cX10_named 36 = .ok (.ireturn, 1) := by decide +kernel
theorem dX10_named_37 : decode cX10_named 37 = .ok (.iinc 2 1, 3) := by decide +kernel
theorem dX10_named_40 : decode cX10_named 40 = .ok (.goto (-29), 3) := by decide +kernel
theorem dX10_named_43 : decode cX10_named 43 = .ok (.iconst (-1), 1) := by decide +kernel
theorem dX10_named_44 : decode cX10_named 44 = .ok (.ireturn, 1) := by decide +kernel
theorem dX10_letter_0 : decode cX10_letter 0 = .ok (.iload_n 1, 1) := by decide +kernel
theorem dX10_letter_1 : decode cX10_letter 1 = .ok (.invokestatic 129, 3) := by decide +kernel
theorem dX10_letter_4 : decode cX10_letter 4 = .ok (.ifCond .eq 16, 3) := by decide +kernel
theorem dX10_letter_7 : decode cX10_letter 7 = .ok (.iload_n 2, 1) := by decide +kernel
theorem dX10_letter_8 : decode cX10_letter 8 = .ok (.invokestatic 294, 3) := by decide +kernel
theorem dX10_letter_11 : decode cX10_letter 11 = .ok (.ifCond .eq 9, 3) := by decide +kernel
theorem dX10_letter_14 : decode cX10_letter 14 = .ok (.iload_n 3, 1) := by decide +kernel
theorem dX10_letter_15 : decode cX10_letter 15 = .ok (.bipush (-2), 2) := by decide +kernel
theorem dX10_letter_17 : decode cX10_letter 17 = .ok (.if_icmp .ge 5, 3) := by decide +kernel
theorem dX10_letter_20 : decode cX10_letter 20 = .ok (.iconst (-1), 1) := by decide +kernel
theorem dX10_letter_21 : decode cX10_letter 21 = .ok (.ireturn, 1) := by decide +kernel
theorem dX10_letter_22 : decode cX10_letter 22 = .ok (.aload_n 0, 1) := by decide +kernel
theorem dX10_letter_23 : decode cX10_letter 23 = .ok (.getfield 63, 3) := by decide +kernel
theorem dX10_letter_26 : decode cX10_letter 26 = .ok (.aload_n 0, 1) := by decide +kernel
theorem dX10_letter_27 : decode cX10_letter 27 = .ok (.getfield 12, 3) := by decide +kernel
theorem dX10_letter_30 : decode cX10_letter 30 = .ok (.invokevirtual 255, 3) := by decide +kernel
theorem dX10_letter_33 : decode cX10_letter 33 = .ok (.aload_n 0, 1) := by decide +kernel
theorem dX10_letter_34 : decode cX10_letter 34 = .ok (.getfield 63, 3) := by decide +kernel
theorem dX10_letter_37 : decode cX10_letter 37 = .ok (.aload_n 0, 1) := by decide +kernel
theorem dX10_letter_38 : decode cX10_letter 38 = .ok (.getfield 12, 3) := by decide +kernel
theorem dX10_letter_41 : decode cX10_letter 41 = .ok (.iload_n 1, 1) := by decide +kernel
theorem dX10_letter_42 : decode cX10_letter 42 = .ok (.iload_n 2, 1) := by decide +kernel
theorem dX10_letter_43 : decode cX10_letter 43 = .ok (.invokevirtual 315, 3) := by decide +kernel
theorem dX10_letter_46 : decode cX10_letter 46 = .ok (.istore 4, 2) := by decide +kernel
theorem dX10_letter_48 : decode cX10_letter 48 = .ok (.iload 4, 2) := by decide +kernel
theorem dX10_letter_50 : decode cX10_letter 50 = .ok (.iconst (-1), 1) := by decide +kernel
theorem dX10_letter_51 : decode cX10_letter 51 = .ok (.if_icmp .eq 9, 3) := by decide +kernel
theorem dX10_letter_54 : decode cX10_letter 54 = .ok (.iload_n 3, 1) := by decide +kernel
theorem dX10_letter_55 : decode cX10_letter 55 = .ok (.bipush (-2), 2) := by decide +kernel
theorem dX10_letter_57 : decode cX10_letter 57 = .ok (.if_icmp .ne 6, 3) := by decide +kernel
theorem dX10_letter_60 : decode cX10_letter 60 = .ok (.iload 4, 2) := by decide +kernel
theorem dX10_letter_62 : decode cX10_letter 62 = .ok (.ireturn, 1) := by decide +kernel
theorem dX10_letter_63 : decode cX10_letter 63 = .ok (.aload_n 0, 1) := by decide +kernel
theorem dX10_letter_64 : decode cX10_letter 64 = .ok (.getfield 63, 3) := by decide +kernel
theorem dX10_letter_67 : decode cX10_letter 67 = .ok (.aload_n 0, 1) := by decide +kernel
theorem dX10_letter_68 : decode cX10_letter 68 = .ok (.getfield 12, 3) := by decide +kernel
theorem dX10_letter_71 : decode cX10_letter 71 = .ok (.iload_n 1, 1) := by decide +kernel
theorem dX10_letter_72 : decode cX10_letter 72 = .ok (.iload 4, 2) := by decide +kernel
theorem dX10_letter_74 : decode cX10_letter 74 = .ok (.invokevirtual 318, 3) := by decide +kernel
theorem dX10_letter_77 : decode cX10_letter 77 = .ok (.istore 5, 2) := by decide +kernel
theorem dX10_letter_79 : decode cX10_letter 79 = .ok (.iload_n 3, 1) := by decide +kernel
theorem dX10_letter_80 : decode cX10_letter 80 = .ok (.iconst (-1), 1) := by decide +kernel
theorem dX10_letter_81 : decode cX10_letter 81 = .ok (.if_icmp .ne 16, 3) := by decide +kernel
theorem dX10_letter_84 : decode cX10_letter 84 = .ok (.aload_n 0, 1) := by decide +kernel
theorem dX10_letter_85 : decode cX10_letter 85 = .ok (.getfield 63, 3) := by decide +kernel
theorem dX10_letter_88 : decode cX10_letter 88 = .ok (.iload_n 1, 1) := by decide +kernel
theorem dX10_letter_89 : decode cX10_letter 89 = .ok (.iload 5, 2) := by decide +kernel
theorem dX10_letter_91 : decode cX10_letter 91 = .ok (.invokevirtual 258, 3) := by decide +kernel
theorem dX10_letter_94 : decode cX10_letter 94 = .ok (.goto 14, 3) := by decide +kernel
theorem dX10_letter_97 : decode cX10_letter 97 = .ok (.aload_n 0, 1) := by decide +kernel
theorem dX10_letter_98 : decode cX10_letter 98 = .ok (.getfield 63, 3) := by decide +kernel
theorem dX10_letter_101 : decode cX10_letter 101 = .ok (.iload_n 1, 1) := by decide +kernel
theorem dX10_letter_102 : decode cX10_letter 102 = .ok (.iload 5, 2) := by decide +kernel
theorem dX10_letter_104 : decode cX10_letter 104 = .ok (.iload_n 3, 1) := by decide +kernel
theorem dX10_letter_105 : decode cX10_letter 105 = .ok (.invokevirtual 321, 3) := by decide +kernel
theorem dX10_letter_108 : decode cX10_letter 108 = .ok (.ireturn, 1) := by decide +kernel
theorem dX10_apart_0 : decode cX10_apart 0 = .ok (.iload_n 1, 1) := by decide +kernel
theorem dX10_apart_1 : decode cX10_apart 1 = .ok (.ifCond .eq 18, 3) := by decide +kernel
theorem dX10_apart_4 : decode cX10_apart 4 = .ok (.aload_n 0, 1) := by decide +kernel
theorem dX10_apart_5 : decode cX10_apart 5 = .ok (.getfield 12, 3) := by decide +kernel
theorem dX10_apart_8 : decode cX10_apart 8 = .ok (.iload_n 1, 1) := by decide +kernel
theorem dX10_apart_9 : decode cX10_apart 9 = .ok (.iconst 1, 1) := by decide +kernel
theorem dX10_apart_10 : decode cX10_apart 10 = .ok (.isub, 1) := by decide +kernel
theorem dX10_apart_11 : decode cX10_apart 11 = .ok (.invokevirtual 110, 3) := by decide +kernel
theorem dX10_apart_14 : decode cX10_apart 14 = .ok (.ifCond .ne 5, 3) := by decide +kernel
theorem dX10_apart_17 : decode cX10_apart 17 = .ok (.iconst (-1), 1) := by decide +kernel
theorem dX10_apart_18 : decode cX10_apart 18 = .ok (.ireturn, 1) := by decide +kernel
theorem dX10_apart_19 : decode cX10_apart 19 = .ok (.aload_n 0, 1) := by decide +kernel
theorem dX10_apart_20 : decode cX10_apart 20 = .ok (.getfield 70, 3) := by decide +kernel
theorem dX10_apart_23 : decode cX10_apart 23 = .ok (.aload_n 0, 1) := by decide +kernel
theorem dX10_apart_24 : decode cX10_apart 24 = .ok (.getfield 12, 3) := by decide +kernel
theorem dX10_apart_27 : decode cX10_apart 27 = .ok (.invokevirtual 324, 3) := by decide +kernel
theorem dX10_apart_30 : decode cX10_apart 30 = .ok (.istore_n 2, 1) := by decide +kernel
theorem dX10_apart_31 : decode cX10_apart 31 = .ok (.iload_n 1, 1) := by decide +kernel
theorem dX10_apart_32 : decode cX10_apart 32 = .ok (.ifCond .ne 7, 3) := by decide +kernel
theorem dX10_apart_35 : decode cX10_apart 35 = .ok (.iload_n 2, 1) := by decide +kernel
theorem dX10_apart_36 : decode cX10_apart 36 = .ok (.goto 14, 3) := by decide +kernel
theorem dX10_apart_39 : decode cX10_apart 39 = .ok (.aload_n 0, 1) := by decide +kernel
theorem dX10_apart_40 : decode cX10_apart 40 = .ok (.getfield 70, 3) := by decide +kernel
theorem dX10_apart_43 : decode cX10_apart 43 = .ok (.getfield 327, 3) := by decide +kernel
theorem dX10_apart_46 : decode cX10_apart 46 = .ok (.iload_n 1, 1) := by decide +kernel
theorem dX10_apart_47 : decode cX10_apart 47 = .ok (.iconst 1, 1) := by decide +kernel
theorem dX10_apart_48 : decode cX10_apart 48 = .ok (.isub, 1) := by decide +kernel
theorem dX10_apart_49 : decode cX10_apart 49 = .ok (.iaload, 1) := by decide +kernel
theorem dX10_apart_50 : decode cX10_apart 50 = .ok (.ireturn, 1) := by decide +kernel
theorem dX10_alike_0 : decode cX10_alike 0 = .ok (.iconst 0, 1) := by decide +kernel
theorem dX10_alike_1 : decode cX10_alike 1 = .ok (.istore_n 1, 1) := by decide +kernel
theorem dX10_alike_2 : decode cX10_alike 2 = .ok (.iconst 0, 1) := by decide +kernel
theorem dX10_alike_3 : decode cX10_alike 3 = .ok (.istore_n 2, 1) := by decide +kernel
theorem dX10_alike_4 : decode cX10_alike 4 = .ok (.iload_n 2, 1) := by decide +kernel
theorem dX10_alike_5 : decode cX10_alike 5 = .ok (.aload_n 0, 1) := by decide +kernel
theorem dX10_alike_6 : decode cX10_alike 6 = .ok (.getfield 12, 3) := by decide +kernel
theorem dX10_alike_9 : decode cX10_alike 9 = .ok (.getfield 97, 3) := by decide +kernel
theorem dX10_alike_12 : decode cX10_alike 12 = .ok (.if_icmp .ge 79, 3) := by decide +kernel
theorem dX10_alike_15 : decode cX10_alike 15 = .ok (.iload_n 2, 1) := by decide +kernel
theorem dX10_alike_16 : decode cX10_alike 16 = .ok (.iconst 1, 1) := by decide +kernel
theorem dX10_alike_17 : decode cX10_alike 17 = .ok (.iadd, 1) := by decide +kernel
theorem dX10_alike_18 : decode cX10_alike 18 = .ok (.istore_n 3, 1) := by decide +kernel
theorem dX10_alike_19 : decode cX10_alike 19 = .ok (.iload_n 3, 1) := by decide +kernel
theorem dX10_alike_20 : decode cX10_alike 20 = .ok (.aload_n 0, 1) := by decide +kernel
theorem dX10_alike_21 : decode cX10_alike 21 = .ok (.getfield 12, 3) := by decide +kernel
theorem dX10_alike_24 : decode cX10_alike 24 = .ok (.getfield 97, 3) := by decide +kernel
theorem dX10_alike_27 : decode cX10_alike 27 = .ok (.if_icmp .ge 58, 3) := by decide +kernel
theorem dX10_alike_30 : decode cX10_alike 30 = .ok (.aload_n 0, 1) := by decide +kernel
theorem dX10_alike_31 : decode cX10_alike 31 = .ok (.getfield 12, 3) := by decide +kernel
theorem dX10_alike_34 : decode cX10_alike 34 = .ok (.getfield 126, 3) := by decide +kernel
theorem dX10_alike_37 : decode cX10_alike 37 = .ok (.iload_n 2, 1) := by decide +kernel
theorem dX10_alike_38 : decode cX10_alike 38 = .ok (.iaload, 1) := by decide +kernel
theorem dX10_alike_39 : decode cX10_alike 39 = .ok (.iconst (-1), 1) := by decide +kernel
theorem dX10_alike_40 : decode cX10_alike 40 = .ok (.if_icmp .eq 39, 3) := by decide +kernel
theorem dX10_alike_43 : decode cX10_alike 43 = .ok (.aload_n 0, 1) := by decide +kernel
theorem dX10_alike_44 : decode cX10_alike 44 = .ok (.getfield 12, 3) := by decide +kernel
theorem dX10_alike_47 : decode cX10_alike 47 = .ok (.getfield 126, 3) := by decide +kernel
theorem dX10_alike_50 : decode cX10_alike 50 = .ok (.iload_n 2, 1) := by decide +kernel
theorem dX10_alike_51 : decode cX10_alike 51 = .ok (.iaload, 1) := by decide +kernel
theorem dX10_alike_52 : decode cX10_alike 52 = .ok (.aload_n 0, 1) := by decide +kernel
theorem dX10_alike_53 : decode cX10_alike 53 = .ok (.getfield 12, 3) := by decide +kernel
theorem dX10_alike_56 : decode cX10_alike 56 = .ok (.getfield 126, 3) := by decide +kernel
theorem dX10_alike_59 : decode cX10_alike 59 = .ok (.iload_n 3, 1) := by decide +kernel
theorem dX10_alike_60 : decode cX10_alike 60 = .ok (.iaload, 1) := by decide +kernel
theorem dX10_alike_61 : decode cX10_alike 61 = .ok (.if_icmp .ne 18, 3) := by decide +kernel
theorem dX10_alike_64 : decode cX10_alike 64 = .ok (.aload_n 0, 1) := by decide +kernel
theorem dX10_alike_65 : decode cX10_alike 65 = .ok (.getfield 12, 3) := by decide +kernel
theorem dX10_alike_68 : decode cX10_alike 68 = .ok (.iload_n 2, 1) := by decide +kernel
theorem dX10_alike_69 : decode cX10_alike 69 = .ok (.iload_n 3, 1) := by decide +kernel
theorem dX10_alike_70 : decode cX10_alike 70 = .ok (.invokevirtual 330, 3) := by decide +kernel
theorem dX10_alike_73 : decode cX10_alike 73 = .ok (.ifCond .eq 6, 3) := by decide +kernel
theorem dX10_alike_76 : decode cX10_alike 76 = .ok (.iinc 1 1, 3) := by decide +kernel
theorem dX10_alike_79 : decode cX10_alike 79 = .ok (.iinc 3 1, 3) := by decide +kernel
theorem dX10_alike_82 : decode cX10_alike 82 = .ok (.goto (-63), 3) := by decide +kernel
theorem dX10_alike_85 : decode cX10_alike 85 = .ok (.iinc 2 1, 3) := by decide +kernel
theorem dX10_alike_88 : decode cX10_alike 88 = .ok (.goto (-84), 3) := by decide +kernel
theorem dX10_alike_91 : decode cX10_alike 91 = .ok (.iload_n 1, 1) := by decide +kernel
theorem dX10_alike_92 : decode cX10_alike 92 = .ok (.ireturn, 1) := by decide +kernel
theorem dX10_round_0 : decode cX10_round 0 = .ok (.aload_n 0, 1) := by decide +kernel
theorem dX10_round_1 : decode cX10_round 1 = .ok (.getfield 63, 3) := by decide +kernel
theorem dX10_round_4 : decode cX10_round 4 = .ok (.aload_n 0, 1) := by decide +kernel
theorem dX10_round_5 : decode cX10_round 5 = .ok (.getfield 12, 3) := by decide +kernel
theorem dX10_round_8 : decode cX10_round 8 = .ok (.invokevirtual 255, 3) := by decide +kernel
theorem dX10_round_11 : decode cX10_round 11 = .ok (.aload_n 0, 1) := by decide +kernel
theorem dX10_round_12 : decode cX10_round 12 = .ok (.getfield 63, 3) := by decide +kernel
theorem dX10_round_15 : decode cX10_round 15 = .ok (.aload_n 0, 1) := by decide +kernel
theorem dX10_round_16 : decode cX10_round 16 = .ok (.getfield 63, 3) := by decide +kernel
theorem dX10_round_19 : decode cX10_round 19 = .ok (.aload_n 0, 1) := by decide +kernel
theorem dX10_round_20 : decode cX10_round 20 = .ok (.getfield 12, 3) := by decide +kernel
theorem dX10_round_23 : decode cX10_round 23 = .ok (.invokevirtual 283, 3) := by decide +kernel
theorem dX10_round_26 : decode cX10_round 26 = .ok (.invokevirtual 334, 3) := by decide +kernel
theorem dX10_round_29 : decode cX10_round 29 = .ok (.ifCond .ne 5, 3) := by decide +kernel
theorem dX10_round_32 : decode cX10_round 32 = .ok (.iconst (-1), 1) := by decide +kernel
theorem dX10_round_33 : decode cX10_round 33 = .ok (.ireturn, 1) := by decide +kernel
theorem dX10_round_34 : decode cX10_round 34 = .ok (.iconst 0, 1) := by decide +kernel
theorem dX10_round_35 : decode cX10_round 35 = .ok (.istore_n 1, 1) := by decide +kernel
theorem dX10_round_36 : decode cX10_round 36 = .ok (.iconst 0, 1) := by decide +kernel
theorem dX10_round_37 : decode cX10_round 37 = .ok (.istore_n 2, 1) := by decide +kernel
theorem dX10_round_38 : decode cX10_round 38 = .ok (.iconst 0, 1) := by decide +kernel
theorem dX10_round_39 : decode cX10_round 39 = .ok (.istore_n 3, 1) := by decide +kernel
theorem dX10_round_40 : decode cX10_round 40 = .ok (.iload_n 3, 1) := by decide +kernel
theorem dX10_round_41 : decode cX10_round 41 = .ok (.aload_n 0, 1) := by decide +kernel
theorem dX10_round_42 : decode cX10_round 42 = .ok (.getfield 12, 3) := by decide +kernel
theorem dX10_round_45 : decode cX10_round 45 = .ok (.getfield 97, 3) := by decide +kernel
theorem dX10_round_48 : decode cX10_round 48 = .ok (.if_icmp .ge 47, 3) := by decide +kernel
theorem dX10_round_51 : decode cX10_round 51 = .ok (.iload_n 1, 1) := by decide +kernel
theorem dX10_round_52 : decode cX10_round 52 = .ok (.aload_n 0, 1) := by decide +kernel
theorem dX10_round_53 : decode cX10_round 53 = .ok (.getfield 12, 3) := by decide +kernel
theorem dX10_round_56 : decode cX10_round 56 = .ok (.getfield 120, 3) := by decide +kernel
theorem dX10_round_59 : decode cX10_round 59 = .ok (.iload_n 3, 1) := by decide +kernel
theorem dX10_round_60 : decode cX10_round 60 = .ok (.iaload, 1) := by decide +kernel
theorem dX10_round_61 : decode cX10_round 61 = .ok (.iadd, 1) := by decide +kernel
theorem dX10_round_62 : decode cX10_round 62 = .ok (.istore_n 1, 1) := by decide +kernel
theorem dX10_round_63 : decode cX10_round 63 = .ok (.iload_n 2, 1) := by decide +kernel
theorem dX10_round_64 : decode cX10_round 64 = .ok (.iconst 1, 1) := by decide +kernel
theorem dX10_round_65 : decode cX10_round 65 = .ok (.aload_n 0, 1) := by decide +kernel
theorem dX10_round_66 : decode cX10_round 66 = .ok (.getfield 12, 3) := by decide +kernel
theorem dX10_round_69 : decode cX10_round 69 = .ok (.getfield 114, 3) := by decide +kernel
theorem dX10_round_72 : decode cX10_round 72 = .ok (.iload_n 3, 1) := by decide +kernel
theorem dX10_round_73 : decode cX10_round 73 = .ok (.iaload, 1) := by decide +kernel
theorem dX10_round_74 : decode cX10_round 74 = .ok (.ishl, 1) := by decide +kernel
theorem dX10_round_75 : decode cX10_round 75 = .ok (.iconst 1, 1) := by decide +kernel
theorem dX10_round_76 : decode cX10_round 76 = .ok (.aload_n 0, 1) := by decide +kernel
theorem dX10_round_77 : decode cX10_round 77 = .ok (.getfield 12, 3) := by decide +kernel
theorem dX10_round_80 : decode cX10_round 80 = .ok (.getfield 117, 3) := by decide +kernel
theorem dX10_round_83 : decode cX10_round 83 = .ok (.iload_n 3, 1) := by decide +kernel
theorem dX10_round_84 : decode cX10_round 84 = .ok (.iaload, 1) := by decide +kernel
theorem dX10_round_85 : decode cX10_round 85 = .ok (.ishl, 1) := by decide +kernel
theorem dX10_round_86 : decode cX10_round 86 = .ok (.ixor, 1) := by decide +kernel
theorem dX10_round_87 : decode cX10_round 87 = .ok (.ixor, 1) := by decide +kernel
theorem dX10_round_88 : decode cX10_round 88 = .ok (.istore_n 2, 1) := by decide +kernel
theorem dX10_round_89 : decode cX10_round 89 = .ok (.iinc 3 1, 3) := by decide +kernel
theorem dX10_round_92 : decode cX10_round 92 = .ok (.goto (-52), 3) := by decide +kernel
theorem dX10_round_95 : decode cX10_round 95 = .ok (.iload_n 1, 1) := by decide +kernel
theorem dX10_round_96 : decode cX10_round 96 = .ok (.aload_n 0, 1) := by decide +kernel
theorem dX10_round_97 : decode cX10_round 97 = .ok (.getfield 63, 3) := by decide +kernel
theorem dX10_round_100 : decode cX10_round 100 = .ok (.iload_n 2, 1) := by decide +kernel
theorem dX10_round_101 : decode cX10_round 101 = .ok (.invokevirtual 337, 3) := by decide +kernel
theorem dX10_round_104 : decode cX10_round 104 = .ok (.iadd, 1) := by decide +kernel
theorem dX10_round_105 : decode cX10_round 105 = .ok (.ireturn, 1) := by decide +kernel
theorem dX10_dead_0 : decode cX10_dead 0 = .ok (.iconst 0, 1) := by decide +kernel
theorem dX10_dead_1 : decode cX10_dead 1 = .ok (.istore_n 1, 1) := by decide +kernel
theorem dX10_dead_2 : decode cX10_dead 2 = .ok (.iconst 0, 1) := by decide +kernel
theorem dX10_dead_3 : decode cX10_dead 3 = .ok (.istore_n 2, 1) := by decide +kernel
theorem dX10_dead_4 : decode cX10_dead 4 = .ok (.iconst 0, 1) := by decide +kernel
theorem dX10_dead_5 : decode cX10_dead 5 = .ok (.istore_n 3, 1) := by decide +kernel
theorem dX10_dead_6 : decode cX10_dead 6 = .ok (.iload_n 3, 1) := by decide +kernel
theorem dX10_dead_7 : decode cX10_dead 7 = .ok (.aload_n 0, 1) := by decide +kernel
theorem dX10_dead_8 : decode cX10_dead 8 = .ok (.getfield 12, 3) := by decide +kernel
theorem dX10_dead_11 : decode cX10_dead 11 = .ok (.getfield 97, 3) := by decide +kernel
theorem dX10_dead_14 : decode cX10_dead 14 = .ok (.if_icmp .ge 46, 3) := by decide +kernel
theorem dX10_dead_17 : decode cX10_dead 17 = .ok (.iconst 1, 1) := by decide +kernel
theorem dX10_dead_18 : decode cX10_dead 18 = .ok (.aload_n 0, 1) := by decide +kernel
theorem dX10_dead_19 : decode cX10_dead 19 = .ok (.getfield 12, 3) := by decide +kernel
theorem dX10_dead_22 : decode cX10_dead 22 = .ok (.getfield 114, 3) := by decide +kernel
theorem dX10_dead_25 : decode cX10_dead 25 = .ok (.iload_n 3, 1) := by decide +kernel
theorem dX10_dead_26 : decode cX10_dead 26 = .ok (.iaload, 1) := by decide +kernel
theorem dX10_dead_27 : decode cX10_dead 27 = .ok (.ishl, 1) := by decide +kernel
theorem dX10_dead_28 : decode cX10_dead 28 = .ok (.iconst 1, 1) := by decide +kernel
theorem dX10_dead_29 : decode cX10_dead 29 = .ok (.aload_n 0, 1) := by decide +kernel
theorem dX10_dead_30 : decode cX10_dead 30 = .ok (.getfield 12, 3) := by decide +kernel
theorem dX10_dead_33 : decode cX10_dead 33 = .ok (.getfield 117, 3) := by decide +kernel
theorem dX10_dead_36 : decode cX10_dead 36 = .ok (.iload_n 3, 1) := by decide +kernel
theorem dX10_dead_37 : decode cX10_dead 37 = .ok (.iaload, 1) := by decide +kernel
theorem dX10_dead_38 : decode cX10_dead 38 = .ok (.ishl, 1) := by decide +kernel
theorem dX10_dead_39 : decode cX10_dead 39 = .ok (.ior, 1) := by decide +kernel
theorem dX10_dead_40 : decode cX10_dead 40 = .ok (.istore 4, 2) := by decide +kernel
theorem dX10_dead_42 : decode cX10_dead 42 = .ok (.iload_n 2, 1) := by decide +kernel
theorem dX10_dead_43 : decode cX10_dead 43 = .ok (.iload_n 1, 1) := by decide +kernel
theorem dX10_dead_44 : decode cX10_dead 44 = .ok (.iload 4, 2) := by decide +kernel
theorem dX10_dead_46 : decode cX10_dead 46 = .ok (.iand, 1) := by decide +kernel
theorem dX10_dead_47 : decode cX10_dead 47 = .ok (.ior, 1) := by decide +kernel
theorem dX10_dead_48 : decode cX10_dead 48 = .ok (.istore_n 2, 1) := by decide +kernel
theorem dX10_dead_49 : decode cX10_dead 49 = .ok (.iload_n 1, 1) := by decide +kernel
theorem dX10_dead_50 : decode cX10_dead 50 = .ok (.iload 4, 2) := by decide +kernel
theorem dX10_dead_52 : decode cX10_dead 52 = .ok (.ior, 1) := by decide +kernel
theorem dX10_dead_53 : decode cX10_dead 53 = .ok (.istore_n 1, 1) := by decide +kernel
theorem dX10_dead_54 : decode cX10_dead 54 = .ok (.iinc 3 1, 3) := by decide +kernel
theorem dX10_dead_57 : decode cX10_dead 57 = .ok (.goto (-51), 3) := by decide +kernel
theorem dX10_dead_60 : decode cX10_dead 60 = .ok (.iload_n 1, 1) := by decide +kernel
theorem dX10_dead_61 : decode cX10_dead 61 = .ok (.iload_n 2, 1) := by decide +kernel
theorem dX10_dead_62 : decode cX10_dead 62 = .ok (.iconst (-1), 1) := by decide +kernel
theorem dX10_dead_63 : decode cX10_dead 63 = .ok (.ixor, 1) := by decide +kernel
theorem dX10_dead_64 : decode cX10_dead 64 = .ok (.iand, 1) := by decide +kernel
theorem dX10_dead_65 : decode cX10_dead 65 = .ok (.ireturn, 1) := by decide +kernel
theorem dJ7_fill_d0a16_0 : decode cJ7_fill_d0a16 0 = .ok (.iconst 0, 1) := by decide +kernel
theorem dJ7_fill_d0a16_1 : decode cJ7_fill_d0a16 1 = .ok (.istore_n 3, 1) := by decide +kernel
theorem dJ7_fill_d0a16_2 : decode cJ7_fill_d0a16 2 = .ok (.aload_n 0, 1) := by decide +kernel
theorem dJ7_fill_d0a16_3 : decode cJ7_fill_d0a16 3 = .ok (.arraylength, 1) := by decide +kernel
theorem dJ7_fill_d0a16_4 : decode cJ7_fill_d0a16 4 = .ok (.istore 4, 2) := by decide +kernel
theorem dJ7_fill_d0a16_6 : decode cJ7_fill_d0a16 6 = .ok (.iload_n 3, 1) := by decide +kernel
theorem dJ7_fill_d0a16_7 : decode cJ7_fill_d0a16 7 = .ok (.iload 4, 2) := by decide +kernel
theorem dJ7_fill_d0a16_9 : decode cJ7_fill_d0a16 9 = .ok (.if_icmp .ge 13, 3) := by decide +kernel
theorem dJ7_fill_d0a16_12 : decode cJ7_fill_d0a16 12 = .ok (.aload_n 0, 1) := by decide +kernel
theorem dJ7_fill_d0a16_13 : decode cJ7_fill_d0a16 13 = .ok (.iload_n 3, 1) := by decide +kernel
theorem dJ7_fill_d0a16_14 : decode cJ7_fill_d0a16 14 = .ok (.lload_n 1, 1) := by decide +kernel
theorem dJ7_fill_d0a16_15 : decode cJ7_fill_d0a16 15 = .ok (.lastore, 1) := by decide +kernel
theorem dJ7_fill_d0a16_16 : decode cJ7_fill_d0a16 16 = .ok (.iinc 3 1, 3) := by decide +kernel
theorem dJ7_fill_d0a16_19 : decode cJ7_fill_d0a16 19 = .ok (.goto (-13), 3) := by decide +kernel
theorem dJ7_fill_d0a16_22 : decode cJ7_fill_d0a16 22 = .ok (.return_, 1) := by decide +kernel
theorem dX10_few_0 : decode cX10_few 0 = .ok (.iload_n 1, 1) := by decide +kernel
theorem dX10_few_1 : decode cX10_few 1 = .ok (.iconst 1, 1) := by decide +kernel
theorem dX10_few_2 : decode cX10_few 2 = .ok (.if_icmp .lt 19, 3) := by decide +kernel
theorem dX10_few_5 : decode cX10_few 5 = .ok (.iload_n 1, 1) := by decide +kernel
theorem dX10_few_6 : decode cX10_few 6 = .ok (.bipush 20, 2) := by decide +kernel
theorem dX10_few_8 : decode cX10_few 8 = .ok (.if_icmp .gt 13, 3) := by decide +kernel
theorem dX10_few_11 : decode cX10_few 11 = .ok (.iload_n 2, 1) := by decide +kernel
theorem dX10_few_12 : decode cX10_few 12 = .ok (.ifCond .lt 9, 3) := by decide +kernel
theorem dX10_few_15 : decode cX10_few 15 = .ok (.iload_n 2, 1) := by decide +kernel
theorem dX10_few_16 : decode cX10_few 16 = .ok (.bipush 99, 2) := by decide +kernel
theorem dX10_few_18 : decode cX10_few 18 = .ok (.if_icmp .le 7, 3) := by decide +kernel
theorem dX10_few_21 : decode cX10_few 21 = .ok (.ldc2_w 340, 3) := by decide +kernel
theorem dX10_few_24 : decode cX10_few 24 = .ok (.lreturn, 1) := by decide +kernel
theorem dX10_few_25 : decode cX10_few 25 = .ok (.aload_n 0, 1) := by decide +kernel
theorem dX10_few_26 : decode cX10_few 26 = .ok (.getfield 81, 3) := by decide +kernel
theorem dX10_few_29 : decode cX10_few 29 = .ok (.lconst 0, 1) := by decide +kernel
theorem dX10_few_30 : decode cX10_few 30 = .ok (.invokestatic 342, 3) := by decide +kernel
theorem dX10_few_33 : decode cX10_few 33 = .ok (.aload_n 0, 1) := by decide +kernel
theorem dX10_few_34 : decode cX10_few 34 = .ok (.getfield 81, 3) := by decide +kernel
theorem dX10_few_37 : decode cX10_few 37 = .ok (.iconst 0, 1) := by decide +kernel
theorem dX10_few_38 : decode cX10_few 38 = .ok (.ldc2_w 345, 3) := by decide +kernel
theorem dX10_few_41 : decode cX10_few 41 = .ok (.lastore, 1) := by decide +kernel
theorem dX10_few_42 : decode cX10_few 42 = .ok (.aload_n 0, 1) := by decide +kernel
theorem dX10_few_43 : decode cX10_few 43 = .ok (.getfield 12, 3) := by decide +kernel
theorem dX10_few_46 : decode cX10_few 46 = .ok (.getfield 173, 3) := by decide +kernel
theorem dX10_few_49 : decode cX10_few 49 = .ok (.iconst 1, 1) := by decide +kernel
theorem dX10_few_50 : decode cX10_few 50 = .ok (.iaload, 1) := by decide +kernel
theorem dX10_few_51 : decode cX10_few 51 = .ok (.i2l, 1) := by decide +kernel
theorem dX10_few_52 : decode cX10_few 52 = .ok (.lstore_n 3, 1) := by decide +kernel
theorem dX10_few_53 : decode cX10_few 53 = .ok (.iconst 0, 1) := by decide +kernel
theorem dX10_few_54 : decode cX10_few 54 = .ok (.istore 5, 2) := by decide +kernel
theorem dX10_few_56 : decode cX10_few 56 = .ok (.iload 5, 2) := by decide +kernel
theorem dX10_few_58 : decode cX10_few 58 = .ok (.iload_n 2, 1) := by decide +kernel
theorem dX10_few_59 : decode cX10_few 59 = .ok (.if_icmp .ge 87, 3) := by decide +kernel
theorem dX10_few_62 : decode cX10_few 62 = .ok (.iload_n 1, 1) := by decide +kernel
theorem dX10_few_63 : decode cX10_few 63 = .ok (.iconst 1, 1) := by decide +kernel
theorem dX10_few_64 : decode cX10_few 64 = .ok (.isub, 1) := by decide +kernel
theorem dX10_few_65 : decode cX10_few 65 = .ok (.istore 6, 2) := by decide +kernel
theorem dX10_few_67 : decode cX10_few 67 = .ok (.iload 6, 2) := by decide +kernel
theorem dX10_few_69 : decode cX10_few 69 = .ok (.ifCond .le 49, 3) := by decide +kernel
theorem dX10_few_72 : decode cX10_few 72 = .ok (.aload_n 0, 1) := by decide +kernel
theorem dX10_few_73 : decode cX10_few 73 = .ok (.getfield 81, 3) := by decide +kernel
theorem dX10_few_76 : decode cX10_few 76 = .ok (.iload 6, 2) := by decide +kernel
theorem dX10_few_78 : decode cX10_few 78 = .ok (.aload_n 0, 1) := by decide +kernel
theorem dX10_few_79 : decode cX10_few 79 = .ok (.getfield 81, 3) := by decide +kernel
theorem dX10_few_82 : decode cX10_few 82 = .ok (.iload 6, 2) := by decide +kernel
theorem dX10_few_84 : decode cX10_few 84 = .ok (.laload, 1) := by decide +kernel
theorem dX10_few_85 : decode cX10_few 85 = .ok (.ldc2_w 347, 3) := by decide +kernel
theorem dX10_few_88 : decode cX10_few 88 = .ok (.lload_n 3, 1) := by decide +kernel
theorem dX10_few_89 : decode cX10_few 89 = .ok (.lsub, 1) := by decide +kernel
theorem dX10_few_90 : decode cX10_few 90 = .ok (.lmul, 1) := by decide +kernel
theorem dX10_few_91 : decode cX10_few 91 = .ok (.ldc2_w 347, 3) := by decide +kernel
theorem dX10_few_94 : decode cX10_few 94 = .ok (.ldiv, 1) := by decide +kernel
theorem dX10_few_95 : decode cX10_few 95 = .ok (.aload_n 0, 1) := by decide +kernel
theorem dX10_few_96 : decode cX10_few 96 = .ok (.getfield 81, 3) := by decide +kernel
theorem dX10_few_99 : decode cX10_few 99 = .ok (.iload 6, 2) := by decide +kernel
theorem dX10_few_101 : decode cX10_few 101 = .ok (.iconst 1, 1) := by decide +kernel
theorem dX10_few_102 : decode cX10_few 102 = .ok (.isub, 1) := by decide +kernel
theorem dX10_few_103 : decode cX10_few 103 = .ok (.laload, 1) := by decide +kernel
theorem dX10_few_104 : decode cX10_few 104 = .ok (.lload_n 3, 1) := by decide +kernel
theorem dX10_few_105 : decode cX10_few 105 = .ok (.lmul, 1) := by decide +kernel
theorem dX10_few_106 : decode cX10_few 106 = .ok (.ldc2_w 347, 3) := by decide +kernel
theorem dX10_few_109 : decode cX10_few 109 = .ok (.ldiv, 1) := by decide +kernel
theorem dX10_few_110 : decode cX10_few 110 = .ok (.ladd, 1) := by decide +kernel
theorem dX10_few_111 : decode cX10_few 111 = .ok (.lastore, 1) := by decide +kernel
theorem dX10_few_112 : decode cX10_few 112 = .ok (.iinc 6 (-1), 3) := by decide +kernel
theorem dX10_few_115 : decode cX10_few 115 = .ok (.goto (-48), 3) := by decide +kernel
theorem dX10_few_118 : decode cX10_few 118 = .ok (.aload_n 0, 1) := by decide +kernel
theorem dX10_few_119 : decode cX10_few 119 = .ok (.getfield 81, 3) := by decide +kernel
theorem dX10_few_122 : decode cX10_few 122 = .ok (.iconst 0, 1) := by decide +kernel
theorem dX10_few_123 : decode cX10_few 123 = .ok (.aload_n 0, 1) := by decide +kernel
theorem dX10_few_124 : decode cX10_few 124 = .ok (.getfield 81, 3) := by decide +kernel
theorem dX10_few_127 : decode cX10_few 127 = .ok (.iconst 0, 1) := by decide +kernel
theorem dX10_few_128 : decode cX10_few 128 = .ok (.laload, 1) := by decide +kernel
theorem dX10_few_129 : decode cX10_few 129 = .ok (.ldc2_w 347, 3) := by decide +kernel
theorem dX10_few_132 : decode cX10_few 132 = .ok (.lload_n 3, 1) := by decide +kernel
theorem dX10_few_133 : decode cX10_few 133 = .ok (.lsub, 1) := by decide +kernel
theorem dX10_few_134 : decode cX10_few 134 = .ok (.lmul, 1) := by decide +kernel
theorem dX10_few_135 : decode cX10_few 135 = .ok (.ldc2_w 347, 3) := by decide +kernel
theorem dX10_few_138 : decode cX10_few 138 = .ok (.ldiv, 1) := by decide +kernel
theorem dX10_few_139 : decode cX10_few 139 = .ok (.lastore, 1) := by decide +kernel
theorem dX10_few_140 : decode cX10_few 140 = .ok (.iinc 5 1, 3) := by decide +kernel
theorem dX10_few_143 : decode cX10_few 143 = .ok (.goto (-87), 3) := by decide +kernel
theorem dX10_few_146 : decode cX10_few 146 = .ok (.lconst 0, 1) := by decide +kernel
theorem dX10_few_147 : decode cX10_few 147 = .ok (.lstore 5, 2) := by decide +kernel
theorem dX10_few_149 : decode cX10_few 149 = .ok (.iconst 0, 1) := by decide +kernel
theorem dX10_few_150 : decode cX10_few 150 = .ok (.istore 7, 2) := by decide +kernel
theorem dX10_few_152 : decode cX10_few 152 = .ok (.iload 7, 2) := by decide +kernel
theorem dX10_few_154 : decode cX10_few 154 = .ok (.iload_n 1, 1) := by decide +kernel
theorem dX10_few_155 : decode cX10_few 155 = .ok (.if_icmp .ge 21, 3) := by decide +kernel
theorem dX10_few_158 : decode cX10_few 158 = .ok (.lload 5, 2) := by decide +kernel
theorem dX10_few_160 : decode cX10_few 160 = .ok (.aload_n 0, 1) := by decide +kernel
theorem dX10_few_161 : decode cX10_few 161 = .ok (.getfield 81, 3) := by decide +kernel
theorem dX10_few_164 : decode cX10_few 164 = .ok (.iload 7, 2) := by decide +kernel
theorem dX10_few_166 : decode cX10_few 166 = .ok (.laload, 1) := by decide +kernel
theorem dX10_few_167 : decode cX10_few 167 = .ok (.ladd, 1) := by decide +kernel
theorem dX10_few_168 : decode cX10_few 168 = .ok (.lstore 5, 2) := by decide +kernel
theorem dX10_few_170 : decode cX10_few 170 = .ok (.iinc 7 1, 3) := by decide +kernel
theorem dX10_few_173 : decode cX10_few 173 = .ok (.goto (-21), 3) := by decide +kernel
theorem dX10_few_176 : decode cX10_few 176 = .ok (.lload 5, 2) := by decide +kernel
theorem dX10_few_178 : decode cX10_few 178 = .ok (.lreturn, 1) := by decide +kernel
theorem dX10_compare_0 : decode cX10_compare 0 = .ok (.iload_n 1, 1) := by decide +kernel
theorem dX10_compare_1 : decode cX10_compare 1 = .ok (.iconst (-1), 1) := by decide +kernel
theorem dX10_compare_2 : decode cX10_compare 2 = .ok (.if_icmp .eq 14, 3) := by decide +kernel
theorem dX10_compare_5 : decode cX10_compare 5 = .ok (.aload_n 0, 1) := by decide +kernel
theorem dX10_compare_6 : decode cX10_compare 6 = .ok (.getfield 12, 3) := by decide +kernel
theorem dX10_compare_9 : decode cX10_compare 9 = .ok (.iload_n 1, 1) := by decide +kernel
theorem dX10_compare_10 : decode cX10_compare 10 = .ok (.invokevirtual 231, 3) := by decide +kernel
theorem dX10_compare_13 : decode cX10_compare 13 = .ok (.ifCond .eq 14, 3) := by decide +kernel
theorem dX10_compare_16 : decode cX10_compare 16 = .ok (.aload_n 0, 1) := by decide +kernel
theorem dX10_compare_17 : decode cX10_compare 17 = .ok (.getfield 12, 3) := by decide +kernel
theorem dX10_compare_20 : decode cX10_compare 20 = .ok (.iload_n 2, 1) := by decide +kernel
theorem dX10_compare_21 : decode cX10_compare 21 = .ok (.invokevirtual 139, 3) := by decide +kernel
theorem dX10_compare_24 : decode cX10_compare 24 = .ok (.ifCond .ne 5, 3) := by decide +kernel
theorem dX10_compare_27 : decode cX10_compare 27 = .ok (.iconst (-1), 1) := by decide +kernel
theorem dX10_compare_28 : decode cX10_compare 28 = .ok (.ireturn, 1) := by decide +kernel
theorem dX10_compare_29 : decode cX10_compare 29 = .ok (.aload_n 0, 1) := by decide +kernel
theorem dX10_compare_30 : decode cX10_compare 30 = .ok (.getfield 51, 3) := by decide +kernel
theorem dX10_compare_33 : decode cX10_compare 33 = .ok (.aload_n 0, 1) := by decide +kernel
theorem dX10_compare_34 : decode cX10_compare 34 = .ok (.getfield 12, 3) := by decide +kernel
theorem dX10_compare_37 : decode cX10_compare 37 = .ok (.aload_n 0, 1) := by decide +kernel
theorem dX10_compare_38 : decode cX10_compare 38 = .ok (.getfield 12, 3) := by decide +kernel
theorem dX10_compare_41 : decode cX10_compare 41 = .ok (.iload_n 1, 1) := by decide +kernel
theorem dX10_compare_42 : decode cX10_compare 42 = .ok (.invokevirtual 349, 3) := by decide +kernel
theorem dX10_compare_45 : decode cX10_compare 45 = .ok (.iload_n 2, 1) := by decide +kernel
theorem dX10_compare_46 : decode cX10_compare 46 = .ok (.invokevirtual 159, 3) := by decide +kernel
theorem dX10_compare_49 : decode cX10_compare 49 = .ok (.istore_n 3, 1) := by decide +kernel
theorem dX10_compare_50 : decode cX10_compare 50 = .ok (.aload_n 0, 1) := by decide +kernel
theorem dX10_compare_51 : decode cX10_compare 51 = .ok (.getfield 12, 3) := by decide +kernel
theorem dX10_compare_54 : decode cX10_compare 54 = .ok (.getfield 145, 3) := by decide +kernel
theorem dX10_compare_57 : decode cX10_compare 57 = .ok (.iload_n 2, 1) := by decide +kernel
theorem dX10_compare_58 : decode cX10_compare 58 = .ok (.iaload, 1) := by decide +kernel
theorem dX10_compare_59 : decode cX10_compare 59 = .ok (.istore 4, 2) := by decide +kernel
theorem dX10_compare_61 : decode cX10_compare 61 = .ok (.iload_n 3, 1) := by decide +kernel
theorem dX10_compare_62 : decode cX10_compare 62 = .ok (.iconst (-1), 1) := by decide +kernel
theorem dX10_compare_63 : decode cX10_compare 63 = .ok (.if_icmp .ne 8, 3) := by decide +kernel
theorem dX10_compare_66 : decode cX10_compare 66 = .ok (.iload 4, 2) := by decide +kernel
theorem dX10_compare_68 : decode cX10_compare 68 = .ok (.goto 13, 3) := by decide +kernel
theorem dX10_compare_71 : decode cX10_compare 71 = .ok (.aload_n 0, 1) := by decide +kernel
theorem dX10_compare_72 : decode cX10_compare 72 = .ok (.getfield 12, 3) := by decide +kernel
theorem dX10_compare_75 : decode cX10_compare 75 = .ok (.iload_n 3, 1) := by decide +kernel
theorem dX10_compare_76 : decode cX10_compare 76 = .ok (.iload 4, 2) := by decide +kernel
theorem dX10_compare_78 : decode cX10_compare 78 = .ok (.invokevirtual 353, 3) := by decide +kernel
theorem dX10_compare_81 : decode cX10_compare 81 = .ok (.ireturn, 1) := by decide +kernel
theorem dX10_nextDraw_0 : decode cX10_nextDraw 0 = .ok (.iload_n 0, 1) := by decide +kernel
theorem dX10_nextDraw_1 : decode cX10_nextDraw 1 = .ok (.i2l, 1) := by decide +kernel
theorem dX10_nextDraw_2 : decode cX10_nextDraw 2 = .ok (.ldc2_w 428, 3) := by decide +kernel
theorem dX10_nextDraw_5 : decode cX10_nextDraw 5 = .ok (.lmul, 1) := by decide +kernel
theorem dX10_nextDraw_6 : decode cX10_nextDraw 6 = .ok (.ldc2_w 430, 3) := by decide +kernel
theorem dX10_nextDraw_9 : decode cX10_nextDraw 9 = .ok (.ladd, 1) := by decide +kernel
theorem dX10_nextDraw_10 : decode cX10_nextDraw 10 = .ok (.ldc2_w 432, 3) := by decide +kernel
theorem dX10_nextDraw_13 : decode cX10_nextDraw 13 = .ok (.lrem, 1) := by decide +kernel
theorem dX10_nextDraw_14 : decode cX10_nextDraw 14 = .ok (.l2i, 1) := by decide +kernel
theorem dX10_nextDraw_15 : decode cX10_nextDraw 15 = .ok (.ireturn, 1) := by decide +kernel
theorem dX10_decades_0 : decode cX10_decades 0 = .ok (.iload_n 1, 1) := by decide +kernel
theorem dX10_decades_1 : decode cX10_decades 1 = .ok (.ifCond .lt 21, 3) := by decide +kernel
theorem dX10_decades_4 : decode cX10_decades 4 = .ok (.iload_n 1, 1) := by decide +kernel
theorem dX10_decades_5 : decode cX10_decades 5 = .ok (.ldc_w 261, 3) := by decide +kernel
theorem dX10_decades_8 : decode cX10_decades 8 = .ok (.if_icmp .gt 14, 3) := by decide +kernel
theorem dX10_decades_11 : decode cX10_decades 11 = .ok (.iload_n 2, 1) := by decide +kernel
theorem dX10_decades_12 : decode cX10_decades 12 = .ok (.iconst 1, 1) := by decide +kernel
theorem dX10_decades_13 : decode cX10_decades 13 = .ok (.if_icmp .lt 9, 3) := by decide +kernel
theorem dX10_decades_16 : decode cX10_decades 16 = .ok (.iload_n 2, 1) := by decide +kernel
theorem dX10_decades_17 : decode cX10_decades 17 = .ok (.bipush 60, 2) := by decide +kernel
theorem dX10_decades_19 : decode cX10_decades 19 = .ok (.if_icmp .le 9, 3) := by decide +kernel
theorem dX10_decades_22 : decode cX10_decades 22 = .ok (.aload_n 0, 1) := by decide +kernel
theorem dX10_decades_23 : decode cX10_decades 23 = .ok (.iconst (-1), 1) := by decide +kernel
theorem dX10_decades_24 : decode cX10_decades 24 = .ok (.invokevirtual 93, 3) := by decide +kernel
theorem dX10_decades_27 : decode cX10_decades 27 = .ok (.ireturn, 1) := by decide +kernel
theorem dX10_decades_28 : decode cX10_decades 28 = .ok (.aload_n 0, 1) := by decide +kernel
theorem dX10_decades_29 : decode cX10_decades 29 = .ok (.getfield 12, 3) := by decide +kernel
theorem dX10_decades_32 : decode cX10_decades 32 = .ok (.getfield 132, 3) := by decide +kernel
theorem dX10_decades_35 : decode cX10_decades 35 = .ok (.ifCond .ne 10, 3) := by decide +kernel
theorem dX10_decades_38 : decode cX10_decades 38 = .ok (.aload_n 0, 1) := by decide +kernel
theorem dX10_decades_39 : decode cX10_decades 39 = .ok (.bipush (-3), 2) := by decide +kernel
theorem dX10_decades_41 : decode cX10_decades 41 = .ok (.invokevirtual 93, 3) := by decide +kernel
theorem dX10_decades_44 : decode cX10_decades 44 = .ok (.ireturn, 1) := by decide +kernel
theorem dX10_decades_45 : decode cX10_decades 45 = .ok (.aload_n 0, 1) := by decide +kernel
theorem dX10_decades_46 : decode cX10_decades 46 = .ok (.getfield 19, 3) := by decide +kernel
theorem dX10_decades_49 : decode cX10_decades 49 = .ok (.aload_n 0, 1) := by decide +kernel
theorem dX10_decades_50 : decode cX10_decades 50 = .ok (.getfield 12, 3) := by decide +kernel
theorem dX10_decades_53 : decode cX10_decades 53 = .ok (.invokevirtual 202, 3) := by decide +kernel
theorem dX10_decades_56 : decode cX10_decades 56 = .ok (.iload_n 1, 1) := by decide +kernel
theorem dX10_decades_57 : decode cX10_decades 57 = .ok (.istore_n 3, 1) := by decide +kernel
theorem dX10_decades_58 : decode cX10_decades 58 = .ok (.iconst 0, 1) := by decide +kernel
theorem dX10_decades_59 : decode cX10_decades 59 = .ok (.istore 4, 2) := by decide +kernel
theorem dX10_decades_61 : decode cX10_decades 61 = .ok (.iload 4, 2) := by decide +kernel
theorem dX10_decades_63 : decode cX10_decades 63 = .ok (.iload_n 2, 1) := by decide +kernel
theorem dX10_decades_64 : decode cX10_decades 64 = .ok (.if_icmp .ge 118, 3) := by decide +kernel
theorem dX10_decades_67 : decode cX10_decades 67 = .ok (.aload_n 0, 1) := by decide +kernel
theorem dX10_decades_68 : decode cX10_decades 68 = .ok (.getfield 19, 3) := by decide +kernel
theorem dX10_decades_71 : decode cX10_decades 71 = .ok (.getfield 173, 3) := by decide +kernel
theorem dX10_decades_74 : decode cX10_decades 74 = .ok (.iconst 0, 1) := by decide +kernel
theorem dX10_decades_75 : decode cX10_decades 75 = .ok (.iaload, 1) := by decide +kernel
theorem dX10_decades_76 : decode cX10_decades 76 = .ok (.sipush 999, 3) := by decide +kernel
theorem dX10_decades_79 : decode cX10_decades 79 = .ok (.if_icmp .ge 103, 3) := by decide +kernel
theorem dX10_decades_82 : decode cX10_decades 82 = .ok (.iload_n 3, 1) := by decide +kernel
theorem dX10_decades_83 : decode cX10_decades 83 = .ok (.invokestatic 356, 3) := by decide +kernel
theorem dX10_decades_86 : decode cX10_decades 86 = .ok (.istore_n 3, 1) := by decide +kernel
theorem dX10_decades_87 : decode cX10_decades 87 = .ok (.iload_n 3, 1) := by decide +kernel
theorem dX10_decades_88 : decode cX10_decades 88 = .ok (.iconst 1, 1) := by decide +kernel
theorem dX10_decades_89 : decode cX10_decades 89 = .ok (.aload_n 0, 1) := by decide +kernel
theorem dX10_decades_90 : decode cX10_decades 90 = .ok (.getfield 19, 3) := by decide +kernel
theorem dX10_decades_93 : decode cX10_decades 93 = .ok (.getfield 132, 3) := by decide +kernel
theorem dX10_decades_96 : decode cX10_decades 96 = .ok (.invokestatic 359, 3) := by decide +kernel
theorem dX10_decades_99 : decode cX10_decades 99 = .ok (.irem, 1) := by decide +kernel
theorem dX10_decades_100 : decode cX10_decades 100 = .ok (.istore 5, 2) := by decide +kernel
theorem dX10_decades_102 : decode cX10_decades 102 = .ok (.iload_n 3, 1) := by decide +kernel
theorem dX10_decades_103 : decode cX10_decades 103 = .ok (.invokestatic 356, 3) := by decide +kernel
theorem dX10_decades_106 : decode cX10_decades 106 = .ok (.istore_n 3, 1) := by decide +kernel
theorem dX10_decades_107 : decode cX10_decades 107 = .ok (.iload_n 3, 1) := by decide +kernel
theorem dX10_decades_108 : decode cX10_decades 108 = .ok (.bipush 8, 2) := by decide +kernel
theorem dX10_decades_110 : decode cX10_decades 110 = .ok (.irem, 1) := by decide +kernel
theorem dX10_decades_111 : decode cX10_decades 111 = .ok (.istore 6, 2) := by decide +kernel
theorem dX10_decades_113 : decode cX10_decades 113 = .ok (.iload_n 3, 1) := by decide +kernel
theorem dX10_decades_114 : decode cX10_decades 114 = .ok (.invokestatic 356, 3) := by decide +kernel
theorem dX10_decades_117 : decode cX10_decades 117 = .ok (.istore_n 3, 1) := by decide +kernel
theorem dX10_decades_118 : decode cX10_decades 118 = .ok (.iload_n 3, 1) := by decide +kernel
theorem dX10_decades_119 : decode cX10_decades 119 = .ok (.iconst 4, 1) := by decide +kernel
theorem dX10_decades_120 : decode cX10_decades 120 = .ok (.irem, 1) := by decide +kernel
theorem dX10_decades_121 : decode cX10_decades 121 = .ok (.istore 7, 2) := by decide +kernel
theorem dX10_decades_123 : decode cX10_decades 123 = .ok (.iload 7, 2) := by decide +kernel
theorem dX10_decades_125 : decode cX10_decades 125 = .ok (.ifCond .eq 9, 3) := by decide +kernel
theorem dX10_decades_128 : decode cX10_decades 128 = .ok (.iload 7, 2) := by decide +kernel
theorem dX10_decades_130 : decode cX10_decades 130 = .ok (.iconst 1, 1) := by decide +kernel
theorem dX10_decades_131 : decode cX10_decades 131 = .ok (.if_icmp .ne 17, 3) := by decide +kernel
theorem dX10_decades_134 : decode cX10_decades 134 = .ok (.aload_n 0, 1) := by decide +kernel
theorem dX10_decades_135 : decode cX10_decades 135 = .ok (.aload_n 0, 1) := by decide +kernel
theorem dX10_decades_136 : decode cX10_decades 136 = .ok (.getfield 19, 3) := by decide +kernel
theorem dX10_decades_139 : decode cX10_decades 139 = .ok (.iload 5, 2) := by decide +kernel
theorem dX10_decades_141 : decode cX10_decades 141 = .ok (.invokevirtual 364, 3) := by decide +kernel
theorem dX10_decades_144 : decode cX10_decades 144 = .ok (.pop, 1) := by decide +kernel
theorem dX10_decades_145 : decode cX10_decades 145 = .ok (.goto 22, 3) := by decide +kernel
theorem dX10_decades_148 : decode cX10_decades 148 = .ok (.iload 7, 2) := by decide +kernel
theorem dX10_decades_150 : decode cX10_decades 150 = .ok (.iconst 2, 1) := by decide +kernel
theorem dX10_decades_151 : decode cX10_decades 151 = .ok (.if_icmp .ne 16, 3) := by decide +kernel
theorem dX10_decades_154 : decode cX10_decades 154 = .ok (.aload_n 0, 1) := by decide +kernel
theorem dX10_decades_155 : decode cX10_decades 155 = .ok (.aload_n 0, 1) := by decide +kernel
theorem dX10_decades_156 : decode cX10_decades 156 = .ok (.getfield 19, 3) := by decide +kernel
theorem dX10_decades_159 : decode cX10_decades 159 = .ok (.iload 5, 2) := by decide +kernel
theorem dX10_decades_161 : decode cX10_decades 161 = .ok (.iload 6, 2) := by decide +kernel
theorem dX10_decades_163 : decode cX10_decades 163 = .ok (.invokevirtual 368, 3) := by decide +kernel
theorem dX10_decades_166 : decode cX10_decades 166 = .ok (.pop, 1) := by decide +kernel
theorem dX10_decades_167 : decode cX10_decades 167 = .ok (.aload_n 0, 1) := by decide +kernel
theorem dX10_decades_168 : decode cX10_decades 168 = .ok (.aload_n 0, 1) := by decide +kernel
theorem dX10_decades_169 : decode cX10_decades 169 = .ok (.getfield 19, 3) := by decide +kernel
theorem dX10_decades_172 : decode cX10_decades 172 = .ok (.invokevirtual 371, 3) := by decide +kernel
theorem dX10_decades_175 : decode cX10_decades 175 = .ok (.pop, 1) := by decide +kernel
theorem dX10_decades_176 : decode cX10_decades 176 = .ok (.iinc 4 1, 3) := by decide +kernel
theorem dX10_decades_179 : decode cX10_decades 179 = .ok (.goto (-118), 3) := by decide +kernel
theorem dX10_decades_182 : decode cX10_decades 182 = .ok (.aload_n 0, 1) := by decide +kernel
theorem dX10_decades_183 : decode cX10_decades 183 = .ok (.aload_n 0, 1) := by decide +kernel
theorem dX10_decades_184 : decode cX10_decades 184 = .ok (.getfield 19, 3) := by decide +kernel
theorem dX10_decades_187 : decode cX10_decades 187 = .ok (.invokevirtual 374, 3) := by decide +kernel
theorem dX10_decades_190 : decode cX10_decades 190 = .ok (.invokevirtual 107, 3) := by decide +kernel
theorem dX10_decades_193 : decode cX10_decades 193 = .ok (.ireturn, 1) := by decide +kernel
theorem dX10_drawn_0 : decode cX10_drawn 0 = .ok (.iload_n 2, 1) := by decide +kernel
theorem dX10_drawn_1 : decode cX10_drawn 1 = .ok (.ifCond .ne 24, 3) := by decide +kernel
theorem dX10_drawn_4 : decode cX10_drawn 4 = .ok (.aload_n 0, 1) := by decide +kernel
theorem dX10_drawn_5 : decode cX10_drawn 5 = .ok (.getfield 19, 3) := by decide +kernel
theorem dX10_drawn_8 : decode cX10_drawn 8 = .ok (.iload_n 1, 1) := by decide +kernel
theorem dX10_drawn_9 : decode cX10_drawn 9 = .ok (.invokevirtual 139, 3) := by decide +kernel
theorem dX10_drawn_12 : decode cX10_drawn 12 = .ok (.ifCond .eq 13, 3) := by decide +kernel
theorem dX10_drawn_15 : decode cX10_drawn 15 = .ok (.aload_n 0, 1) := by decide +kernel
theorem dX10_drawn_16 : decode cX10_drawn 16 = .ok (.getfield 19, 3) := by decide +kernel
theorem dX10_drawn_19 : decode cX10_drawn 19 = .ok (.getfield 145, 3) := by decide +kernel
theorem dX10_drawn_22 : decode cX10_drawn 22 = .ok (.iload_n 1, 1) := by decide +kernel
theorem dX10_drawn_23 : decode cX10_drawn 23 = .ok (.iaload, 1) := by decide +kernel
theorem dX10_drawn_24 : decode cX10_drawn 24 = .ok (.ireturn, 1) := by decide +kernel
theorem dX10_drawn_25 : decode cX10_drawn 25 = .ok (.iload_n 2, 1) := by decide +kernel
theorem dX10_drawn_26 : decode cX10_drawn 26 = .ok (.iconst 1, 1) := by decide +kernel
theorem dX10_drawn_27 : decode cX10_drawn 27 = .ok (.if_icmp .ne 24, 3) := by decide +kernel
theorem dX10_drawn_30 : decode cX10_drawn 30 = .ok (.aload_n 0, 1) := by decide +kernel
theorem dX10_drawn_31 : decode cX10_drawn 31 = .ok (.getfield 19, 3) := by decide +kernel
theorem dX10_drawn_34 : decode cX10_drawn 34 = .ok (.iload_n 1, 1) := by decide +kernel
theorem dX10_drawn_35 : decode cX10_drawn 35 = .ok (.invokevirtual 110, 3) := by decide +kernel
theorem dX10_drawn_38 : decode cX10_drawn 38 = .ok (.ifCond .eq 13, 3) := by decide +kernel
theorem dX10_drawn_41 : decode cX10_drawn 41 = .ok (.aload_n 0, 1) := by decide +kernel
theorem dX10_drawn_42 : decode cX10_drawn 42 = .ok (.getfield 19, 3) := by decide +kernel
theorem dX10_drawn_45 : decode cX10_drawn 45 = .ok (.getfield 126, 3) := by decide +kernel
theorem dX10_drawn_48 : decode cX10_drawn 48 = .ok (.iload_n 1, 1) := by decide +kernel
theorem dX10_drawn_49 : decode cX10_drawn 49 = .ok (.iaload, 1) := by decide +kernel
theorem dX10_drawn_50 : decode cX10_drawn 50 = .ok (.ireturn, 1) := by decide +kernel
theorem dX10_drawn_51 : decode cX10_drawn 51 = .ok (.iconst (-1), 1) := by decide +kernel
theorem dX10_drawn_52 : decode cX10_drawn 52 = .ok (.ireturn, 1) := by decide +kernel
theorem dX10_back_0 : decode cX10_back 0 = .ok (.iload_n 1, 1) := by decide +kernel
theorem dX10_back_1 : decode cX10_back 1 = .ok (.ifCond .lt 12, 3) := by decide +kernel
theorem dX10_back_4 : decode cX10_back 4 = .ok (.iload_n 1, 1) := by decide +kernel
theorem dX10_back_5 : decode cX10_back 5 = .ok (.aload_n 0, 1) := by decide +kernel
theorem dX10_back_6 : decode cX10_back 6 = .ok (.getfield 22, 3) := by decide +kernel
theorem dX10_back_9 : decode cX10_back 9 = .ok (.arraylength, 1) := by decide +kernel
theorem dX10_back_10 : decode cX10_back 10 = .ok (.if_icmp .lt 9, 3) := by decide +kernel
theorem dX10_back_13 : decode cX10_back 13 = .ok (.aload_n 0, 1) := by decide +kernel
theorem dX10_back_14 : decode cX10_back 14 = .ok (.iconst (-1), 1) := by decide +kernel
theorem dX10_back_15 : decode cX10_back 15 = .ok (.invokevirtual 93, 3) := by decide +kernel
theorem dX10_back_18 : decode cX10_back 18 = .ok (.ireturn, 1) := by decide +kernel
theorem dX10_back_19 : decode cX10_back 19 = .ok (.aload_n 0, 1) := by decide +kernel
theorem dX10_back_20 : decode cX10_back 20 = .ok (.getfield 22, 3) := by decide +kernel
theorem dX10_back_23 : decode cX10_back 23 = .ok (.iload_n 1, 1) := by decide +kernel
theorem dX10_back_24 : decode cX10_back 24 = .ok (.aaload, 1) := by decide +kernel
theorem dX10_back_25 : decode cX10_back 25 = .ok (.astore_n 2, 1) := by decide +kernel
theorem dX10_back_26 : decode cX10_back 26 = .ok (.aload_n 2, 1) := by decide +kernel
theorem dX10_back_27 : decode cX10_back 27 = .ok (.ifnonnull 10, 3) := by decide +kernel
theorem dX10_back_30 : decode cX10_back 30 = .ok (.aload_n 0, 1) := by decide +kernel
theorem dX10_back_31 : decode cX10_back 31 = .ok (.bipush (-2), 2) := by decide +kernel
theorem dX10_back_33 : decode cX10_back 33 = .ok (.invokevirtual 93, 3) := by decide +kernel
theorem dX10_back_36 : decode cX10_back 36 = .ok (.ireturn, 1) := by decide +kernel
theorem dX10_back_37 : decode cX10_back 37 = .ok (.aload_n 0, 1) := by decide +kernel
theorem dX10_back_38 : decode cX10_back 38 = .ok (.getfield 12, 3) := by decide +kernel
theorem dX10_back_41 : decode cX10_back 41 = .ok (.aload_n 2, 1) := by decide +kernel
theorem dX10_back_42 : decode cX10_back 42 = .ok (.invokevirtual 202, 3) := by decide +kernel
theorem dX10_back_45 : decode cX10_back 45 = .ok (.aload_n 0, 1) := by decide +kernel
theorem dX10_back_46 : decode cX10_back 46 = .ok (.getfield 29, 3) := by decide +kernel
theorem dX10_back_49 : decode cX10_back 49 = .ok (.iconst 0, 1) := by decide +kernel
theorem dX10_back_50 : decode cX10_back 50 = .ok (.putfield 100, 3) := by decide +kernel
theorem dX10_back_53 : decode cX10_back 53 = .ok (.aload_n 0, 1) := by decide +kernel
theorem dX10_back_54 : decode cX10_back 54 = .ok (.iconst 0, 1) := by decide +kernel
theorem dX10_back_55 : decode cX10_back 55 = .ok (.invokevirtual 107, 3) := by decide +kernel
theorem dX10_back_58 : decode cX10_back 58 = .ok (.ireturn, 1) := by decide +kernel
theorem dX10_count_0 : decode cX10_count 0 = .ok (.iload_n 1, 1) := by decide +kernel
theorem dX10_count_1 : decode cX10_count 1 = .ok (.tableswitch 209 0 15 #[79, 87, 95, 103, 111, 119, 127, 135, 142, 149, 156, 163, 171, 179, 189, 199], 79) := by decide +kernel
theorem dX10_count_80 : decode cX10_count 80 = .ok (.aload_n 0, 1) := by decide +kernel
theorem dX10_count_81 : decode cX10_count 81 = .ok (.getfield 12, 3) := by decide +kernel
theorem dX10_count_84 : decode cX10_count 84 = .ok (.getfield 97, 3) := by decide +kernel
theorem dX10_count_87 : decode cX10_count 87 = .ok (.ireturn, 1) := by decide +kernel
theorem dX10_count_88 : decode cX10_count 88 = .ok (.aload_n 0, 1) := by decide +kernel
theorem dX10_count_89 : decode cX10_count 89 = .ok (.getfield 12, 3) := by decide +kernel
theorem dX10_count_92 : decode cX10_count 92 = .ok (.getfield 132, 3) := by decide +kernel
theorem dX10_count_95 : decode cX10_count 95 = .ok (.ireturn, 1) := by decide +kernel
theorem dX10_count_96 : decode cX10_count 96 = .ok (.aload_n 0, 1) := by decide +kernel
theorem dX10_count_97 : decode cX10_count 97 = .ok (.getfield 12, 3) := by decide +kernel
theorem dX10_count_100 : decode cX10_count 100 = .ok (.invokevirtual 374, 3) := by decide +kernel
theorem dX10_count_103 : decode cX10_count 103 = .ok (.ireturn, 1) := by decide +kernel
theorem dX10_count_104 : decode cX10_count 104 = .ok (.aload_n 0, 1) := by decide +kernel
theorem dX10_count_105 : decode cX10_count 105 = .ok (.getfield 12, 3) := by decide +kernel
theorem dX10_count_108 : decode cX10_count 108 = .ok (.getfield 297, 3) := by decide +kernel
theorem dX10_count_111 : decode cX10_count 111 = .ok (.ireturn, 1) := by decide +kernel
theorem dX10_count_112 : decode cX10_count 112 = .ok (.aload_n 0, 1) := by decide +kernel
theorem dX10_count_113 : decode cX10_count 113 = .ok (.getfield 12, 3) := by decide +kernel
theorem dX10_count_116 : decode cX10_count 116 = .ok (.getfield 191, 3) := by decide +kernel
theorem dX10_count_119 : decode cX10_count 119 = .ok (.ireturn, 1) := by decide +kernel
theorem dX10_count_120 : decode cX10_count 120 = .ok (.aload_n 0, 1) := by decide +kernel
theorem dX10_count_121 : decode cX10_count 121 = .ok (.getfield 29, 3) := by decide +kernel
theorem dX10_count_124 : decode cX10_count 124 = .ok (.getfield 100, 3) := by decide +kernel
theorem dX10_count_127 : decode cX10_count 127 = .ok (.ireturn, 1) := by decide +kernel
theorem dX10_count_128 : decode cX10_count 128 = .ok (.aload_n 0, 1) := by decide +kernel
theorem dX10_count_129 : decode cX10_count 129 = .ok (.getfield 47, 3) := by decide +kernel
theorem dX10_count_132 : decode cX10_count 132 = .ok (.getfield 176, 3) := by decide +kernel
theorem dX10_count_135 : decode cX10_count 135 = .ok (.ireturn, 1) := by decide +kernel
theorem dX10_count_136 : decode cX10_count 136 = .ok (.aload_n 0, 1) := by decide +kernel
theorem dX10_count_137 : decode cX10_count 137 = .ok (.getfield 78, 3) := by decide +kernel
theorem dX10_count_140 : decode cX10_count 140 = .ok (.iconst 1, 1) := by decide +kernel
theorem dX10_count_141 : decode cX10_count 141 = .ok (.iaload, 1) := by decide +kernel
theorem dX10_count_142 : decode cX10_count 142 = .ok (.ireturn, 1) := by decide +kernel
theorem dX10_count_143 : decode cX10_count 143 = .ok (.aload_n 0, 1) := by decide +kernel
theorem dX10_count_144 : decode cX10_count 144 = .ok (.getfield 78, 3) := by decide +kernel
theorem dX10_count_147 : decode cX10_count 147 = .ok (.iconst 2, 1) := by decide +kernel
theorem dX10_count_148 : decode cX10_count 148 = .ok (.iaload, 1) := by decide +kernel
theorem dX10_count_149 : decode cX10_count 149 = .ok (.ireturn, 1) := by decide +kernel
theorem dX10_count_150 : decode cX10_count 150 = .ok (.aload_n 0, 1) := by decide +kernel
theorem dX10_count_151 : decode cX10_count 151 = .ok (.getfield 78, 3) := by decide +kernel
theorem dX10_count_154 : decode cX10_count 154 = .ok (.iconst 3, 1) := by decide +kernel
theorem dX10_count_155 : decode cX10_count 155 = .ok (.iaload, 1) := by decide +kernel
theorem dX10_count_156 : decode cX10_count 156 = .ok (.ireturn, 1) := by decide +kernel
theorem dX10_count_157 : decode cX10_count 157 = .ok (.aload_n 0, 1) := by decide +kernel
theorem dX10_count_158 : decode cX10_count 158 = .ok (.getfield 78, 3) := by decide +kernel
theorem dX10_count_161 : decode cX10_count 161 = .ok (.iconst 5, 1) := by decide +kernel
theorem dX10_count_162 : decode cX10_count 162 = .ok (.iaload, 1) := by decide +kernel
theorem dX10_count_163 : decode cX10_count 163 = .ok (.ireturn, 1) := by decide +kernel
theorem dX10_count_164 : decode cX10_count 164 = .ok (.aload_n 0, 1) := by decide +kernel
theorem dX10_count_165 : decode cX10_count 165 = .ok (.getfield 78, 3) := by decide +kernel
theorem dX10_count_168 : decode cX10_count 168 = .ok (.bipush 6, 2) := by decide +kernel
theorem dX10_count_170 : decode cX10_count 170 = .ok (.iaload, 1) := by decide +kernel
theorem dX10_count_171 : decode cX10_count 171 = .ok (.ireturn, 1) := by decide +kernel
theorem dX10_count_172 : decode cX10_count 172 = .ok (.aload_n 0, 1) := by decide +kernel
theorem dX10_count_173 : decode cX10_count 173 = .ok (.getfield 12, 3) := by decide +kernel
theorem dX10_count_176 : decode cX10_count 176 = .ok (.getfield 234, 3) := by decide +kernel
theorem dX10_count_179 : decode cX10_count 179 = .ok (.ireturn, 1) := by decide +kernel
theorem dX10_count_180 : decode cX10_count 180 = .ok (.aload_n 0, 1) := by decide +kernel
theorem dX10_count_181 : decode cX10_count 181 = .ok (.getfield 12, 3) := by decide +kernel
theorem dX10_count_184 : decode cX10_count 184 = .ok (.getfield 173, 3) := by decide +kernel
theorem dX10_count_187 : decode cX10_count 187 = .ok (.iconst 0, 1) := by decide +kernel
theorem dX10_count_188 : decode cX10_count 188 = .ok (.iaload, 1) := by decide +kernel
theorem dX10_count_189 : decode cX10_count 189 = .ok (.ireturn, 1) := by decide +kernel
theorem dX10_count_190 : decode cX10_count 190 = .ok (.aload_n 0, 1) := by decide +kernel
theorem dX10_count_191 : decode cX10_count 191 = .ok (.getfield 12, 3) := by decide +kernel
theorem dX10_count_194 : decode cX10_count 194 = .ok (.getfield 173, 3) := by decide +kernel
theorem dX10_count_197 : decode cX10_count 197 = .ok (.iconst 1, 1) := by decide +kernel
theorem dX10_count_198 : decode cX10_count 198 = .ok (.iaload, 1) := by decide +kernel
theorem dX10_count_199 : decode cX10_count 199 = .ok (.ireturn, 1) := by decide +kernel
theorem dX10_count_200 : decode cX10_count 200 = .ok (.aload_n 0, 1) := by decide +kernel
theorem dX10_count_201 : decode cX10_count 201 = .ok (.getfield 12, 3) := by decide +kernel
theorem dX10_count_204 : decode cX10_count 204 = .ok (.getfield 173, 3) := by decide +kernel
theorem dX10_count_207 : decode cX10_count 207 = .ok (.iconst 2, 1) := by decide +kernel
theorem dX10_count_208 : decode cX10_count 208 = .ok (.iaload, 1) := by decide +kernel
theorem dX10_count_209 : decode cX10_count 209 = .ok (.ireturn, 1) := by decide +kernel
theorem dX10_count_210 : decode cX10_count 210 = .ok (.iconst (-1), 1) := by decide +kernel
theorem dX10_count_211 : decode cX10_count 211 = .ok (.ireturn, 1) := by decide +kernel
theorem dX10_status_0 : decode cX10_status 0 = .ok (.aload_n 0, 1) := by decide +kernel
theorem dX10_status_1 : decode cX10_status 1 = .ok (.getfield 377, 3) := by decide +kernel
theorem dX10_status_4 : decode cX10_status 4 = .ok (.ireturn, 1) := by decide +kernel
theorem dX10_noteOrderWords_0 : decode cX10_noteOrderWords 0 = .ok (.aload_n 0, 1) := by decide +kernel
theorem dX10_noteOrderWords_1 : decode cX10_noteOrderWords 1 = .ok (.getfield 74, 3) := by decide +kernel
theorem dX10_noteOrderWords_4 : decode cX10_noteOrderWords 4 = .ok (.iconst 0, 1) := by decide +kernel
theorem dX10_noteOrderWords_5 : decode cX10_noteOrderWords 5 = .ok (.aload_n 0, 1) := by decide +kernel
theorem dX10_noteOrderWords_6 : decode cX10_noteOrderWords 6 = .ok (.getfield 12, 3) := by decide +kernel
theorem dX10_noteOrderWords_9 : decode cX10_noteOrderWords 9 = .ok (.getfield 173, 3) := by decide +kernel
theorem dX10_noteOrderWords_12 : decode cX10_noteOrderWords 12 = .ok (.iconst 0, 1) := by decide +kernel
theorem dX10_noteOrderWords_13 : decode cX10_noteOrderWords 13 = .ok (.iaload, 1) := by decide +kernel
theorem dX10_noteOrderWords_14 : decode cX10_noteOrderWords 14 = .ok (.iastore, 1) := by decide +kernel
theorem dX10_noteOrderWords_15 : decode cX10_noteOrderWords 15 = .ok (.aload_n 0, 1) := by decide +kernel
theorem dX10_noteOrderWords_16 : decode cX10_noteOrderWords 16 = .ok (.getfield 74, 3) := by decide +kernel
theorem dX10_noteOrderWords_19 : decode cX10_noteOrderWords 19 = .ok (.iconst 3, 1) := by decide +kernel
theorem dX10_noteOrderWords_20 : decode cX10_noteOrderWords 20 = .ok (.aload_n 0, 1) := by decide +kernel
theorem dX10_noteOrderWords_21 : decode cX10_noteOrderWords 21 = .ok (.getfield 12, 3) := by decide +kernel
theorem dX10_noteOrderWords_24 : decode cX10_noteOrderWords 24 = .ok (.invokevirtual 374, 3) := by decide +kernel
theorem dX10_noteOrderWords_27 : decode cX10_noteOrderWords 27 = .ok (.iastore, 1) := by decide +kernel
theorem dX10_noteOrderWords_28 : decode cX10_noteOrderWords 28 = .ok (.aload_n 0, 1) := by decide +kernel
theorem dX10_noteOrderWords_29 : decode cX10_noteOrderWords 29 = .ok (.getfield 74, 3) := by decide +kernel
theorem dX10_noteOrderWords_32 : decode cX10_noteOrderWords 32 = .ok (.iconst 4, 1) := by decide +kernel
theorem dX10_noteOrderWords_33 : decode cX10_noteOrderWords 33 = .ok (.aload_n 0, 1) := by decide +kernel
theorem dX10_noteOrderWords_34 : decode cX10_noteOrderWords 34 = .ok (.getfield 12, 3) := by decide +kernel
theorem dX10_noteOrderWords_37 : decode cX10_noteOrderWords 37 = .ok (.getfield 132, 3) := by decide +kernel
theorem dX10_noteOrderWords_40 : decode cX10_noteOrderWords 40 = .ok (.iastore, 1) := by decide +kernel
theorem dX10_noteOrderWords_41 : decode cX10_noteOrderWords 41 = .ok (.iconst 0, 1) := by decide +kernel
theorem dX10_noteOrderWords_42 : decode cX10_noteOrderWords 42 = .ok (.istore_n 1, 1) := by decide +kernel
theorem dX10_noteOrderWords_43 : decode cX10_noteOrderWords 43 = .ok (.iload_n 1, 1) := by decide +kernel
theorem dX10_noteOrderWords_44 : decode cX10_noteOrderWords 44 = .ok (.iconst 4, 1) := by decide +kernel
theorem dX10_noteOrderWords_45 : decode cX10_noteOrderWords 45 = .ok (.if_icmp .ge 41, 3) := by decide +kernel
theorem dX10_noteOrderWords_48 : decode cX10_noteOrderWords 48 = .ok (.aload_n 0, 1) := by decide +kernel
theorem dX10_noteOrderWords_49 : decode cX10_noteOrderWords 49 = .ok (.getfield 74, 3) := by decide +kernel
theorem dX10_noteOrderWords_52 : decode cX10_noteOrderWords 52 = .ok (.iconst 5, 1) := by decide +kernel
theorem dX10_noteOrderWords_53 : decode cX10_noteOrderWords 53 = .ok (.iload_n 1, 1) := by decide +kernel
theorem dX10_noteOrderWords_54 : decode cX10_noteOrderWords 54 = .ok (.iadd, 1) := by decide +kernel
theorem dX10_noteOrderWords_55 : decode cX10_noteOrderWords 55 = .ok (.aload_n 0, 1) := by decide +kernel
theorem dX10_noteOrderWords_56 : decode cX10_noteOrderWords 56 = .ok (.getfield 12, 3) := by decide +kernel
theorem dX10_noteOrderWords_59 : decode cX10_noteOrderWords 59 = .ok (.iload_n 1, 1) := by decide +kernel
theorem dX10_noteOrderWords_60 : decode cX10_noteOrderWords 60 = .ok (.invokevirtual 139, 3) := by decide +kernel
theorem dX10_noteOrderWords_63 : decode cX10_noteOrderWords 63 = .ok (.ifCond .eq 15, 3) := by decide +kernel
theorem dX10_noteOrderWords_66 : decode cX10_noteOrderWords 66 = .ok (.aload_n 0, 1) := by decide +kernel
theorem dX10_noteOrderWords_67 : decode cX10_noteOrderWords 67 = .ok (.getfield 12, 3) := by decide +kernel
theorem dX10_noteOrderWords_70 : decode cX10_noteOrderWords 70 = .ok (.getfield 145, 3) := by decide +kernel
theorem dX10_noteOrderWords_73 : decode cX10_noteOrderWords 73 = .ok (.iload_n 1, 1) := by decide +kernel
theorem dX10_noteOrderWords_74 : decode cX10_noteOrderWords 74 = .ok (.iaload, 1) := by decide +kernel
theorem dX10_noteOrderWords_75 : decode cX10_noteOrderWords 75 = .ok (.goto 4, 3) := by decide +kernel
theorem dX10_noteOrderWords_78 : decode cX10_noteOrderWords 78 = .ok (.iconst (-1), 1) := by decide +kernel
theorem dX10_noteOrderWords_79 : decode cX10_noteOrderWords 79 = .ok (.iastore, 1) := by decide +kernel
theorem dX10_noteOrderWords_80 : decode cX10_noteOrderWords 80 = .ok (.iinc 1 1, 3) := by decide +kernel
theorem dX10_noteOrderWords_83 : decode cX10_noteOrderWords 83 = .ok (.goto (-40), 3) := by decide +kernel
theorem dX10_noteOrderWords_86 : decode cX10_noteOrderWords 86 = .ok (.iconst 0, 1) := by decide +kernel
theorem dX10_noteOrderWords_87 : decode cX10_noteOrderWords 87 = .ok (.istore_n 1, 1) := by decide +kernel
theorem dX10_noteOrderWords_88 : decode cX10_noteOrderWords 88 = .ok (.iload_n 1, 1) := by decide +kernel
theorem dX10_noteOrderWords_89 : decode cX10_noteOrderWords 89 = .ok (.bipush 10, 2) := by decide +kernel
theorem dX10_noteOrderWords_91 : decode cX10_noteOrderWords 91 = .ok (.if_icmp .ge 42, 3) := by decide +kernel
theorem dX10_noteOrderWords_94 : decode cX10_noteOrderWords 94 = .ok (.aload_n 0, 1) := by decide +kernel
theorem dX10_noteOrderWords_95 : decode cX10_noteOrderWords 95 = .ok (.getfield 74, 3) := by decide +kernel
theorem dX10_noteOrderWords_98 : decode cX10_noteOrderWords 98 = .ok (.bipush 9, 2) := by decide +kernel
theorem dX10_noteOrderWords_100 : decode cX10_noteOrderWords 100 = .ok (.iload_n 1, 1) := by decide +kernel
theorem dX10_noteOrderWords_101 : decode cX10_noteOrderWords 101 = .ok (.iadd, 1) := by decide +kernel
theorem dX10_noteOrderWords_102 : decode cX10_noteOrderWords 102 = .ok (.aload_n 0, 1) := by decide +kernel
theorem dX10_noteOrderWords_103 : decode cX10_noteOrderWords 103 = .ok (.getfield 12, 3) := by decide +kernel
theorem dX10_noteOrderWords_106 : decode cX10_noteOrderWords 106 = .ok (.iload_n 1, 1) := by decide +kernel
theorem dX10_noteOrderWords_107 : decode cX10_noteOrderWords 107 = .ok (.invokevirtual 110, 3) := by decide +kernel
theorem dX10_noteOrderWords_110 : decode cX10_noteOrderWords 110 = .ok (.ifCond .eq 15, 3) := by decide +kernel
theorem dX10_noteOrderWords_113 : decode cX10_noteOrderWords 113 = .ok (.aload_n 0, 1) := by decide +kernel
theorem dX10_noteOrderWords_114 : decode cX10_noteOrderWords 114 = .ok (.getfield 12, 3) := by decide +kernel
theorem dX10_noteOrderWords_117 : decode cX10_noteOrderWords 117 = .ok (.getfield 126, 3) := by decide +kernel
theorem dX10_noteOrderWords_120 : decode cX10_noteOrderWords 120 = .ok (.iload_n 1, 1) := by decide +kernel
theorem dX10_noteOrderWords_121 : decode cX10_noteOrderWords 121 = .ok (.iaload, 1) := by decide +kernel
theorem dX10_noteOrderWords_122 : decode cX10_noteOrderWords 122 = .ok (.goto 4, 3) := by decide +kernel
theorem dX10_noteOrderWords_125 : decode cX10_noteOrderWords 125 = .ok (.iconst (-1), 1) := by decide +kernel
theorem dX10_noteOrderWords_126 : decode cX10_noteOrderWords 126 = .ok (.iastore, 1) := by decide +kernel
theorem dX10_noteOrderWords_127 : decode cX10_noteOrderWords 127 = .ok (.iinc 1 1, 3) := by decide +kernel
theorem dX10_noteOrderWords_130 : decode cX10_noteOrderWords 130 = .ok (.goto (-42), 3) := by decide +kernel
theorem dX10_noteOrderWords_133 : decode cX10_noteOrderWords 133 = .ok (.return_, 1) := by decide +kernel
theorem dX10_obey_0 : decode cX10_obey 0 = .ok (.aload_n 0, 1) := by decide +kernel
theorem dX10_obey_1 : decode cX10_obey 1 = .ok (.invokevirtual 383, 3) := by decide +kernel
theorem dX10_obey_4 : decode cX10_obey 4 = .ok (.aload_n 2, 1) := by decide +kernel
theorem dX10_obey_5 : decode cX10_obey 5 = .ok (.invokevirtual 386, 3) := by decide +kernel
theorem dX10_obey_8 : decode cX10_obey 8 = .ok (.ifCond .eq 32, 3) := by decide +kernel
theorem dX10_obey_11 : decode cX10_obey 11 = .ok (.aload_n 0, 1) := by decide +kernel
theorem dX10_obey_12 : decode cX10_obey 12 = .ok (.getfield 59, 3) := by decide +kernel
theorem dX10_obey_15 : decode cX10_obey 15 = .ok (.aload_n 1, 1) := by decide +kernel
theorem dX10_obey_16 : decode cX10_obey 16 = .ok (.getfield 390, 3) := by decide +kernel
theorem dX10_obey_19 : decode cX10_obey 19 = .ok (.aload_n 2, 1) := by decide +kernel
theorem dX10_obey_20 : decode cX10_obey 20 = .ok (.getfield 393, 3) := by decide +kernel
theorem dX10_obey_23 : decode cX10_obey 23 = .ok (.aload_n 2, 1) := by decide +kernel
theorem dX10_obey_24 : decode cX10_obey 24 = .ok (.getfield 396, 3) := by decide +kernel
theorem dX10_obey_27 : decode cX10_obey 27 = .ok (.aload_n 0, 1) := by decide +kernel
theorem dX10_obey_28 : decode cX10_obey 28 = .ok (.getfield 74, 3) := by decide +kernel
theorem dX10_obey_31 : decode cX10_obey 31 = .ok (.invokevirtual 399, 3) := by decide +kernel
theorem dX10_obey_34 : decode cX10_obey 34 = .ok (.iconst 1, 1) := by decide +kernel
theorem dX10_obey_35 : decode cX10_obey 35 = .ok (.if_icmp .eq 5, 3) := by decide +kernel
theorem dX10_obey_38 : decode cX10_obey 38 = .ok (.iconst 1, 1) := by decide +kernel
theorem dX10_obey_39 : decode cX10_obey 39 = .ok (.ireturn, 1) := by decide +kernel
theorem dX10_obey_40 : decode cX10_obey 40 = .ok (.aload_n 0, 1) := by decide +kernel
theorem dX10_obey_41 : decode cX10_obey 41 = .ok (.getfield 59, 3) := by decide +kernel
theorem dX10_obey_44 : decode cX10_obey 44 = .ok (.aload_n 1, 1) := by decide +kernel
theorem dX10_obey_45 : decode cX10_obey 45 = .ok (.getfield 390, 3) := by decide +kernel
theorem dX10_obey_48 : decode cX10_obey 48 = .ok (.aload_n 2, 1) := by decide +kernel
theorem dX10_obey_49 : decode cX10_obey 49 = .ok (.getfield 405, 3) := by decide +kernel
theorem dX10_obey_52 : decode cX10_obey 52 = .ok (.aload_n 2, 1) := by decide +kernel
theorem dX10_obey_53 : decode cX10_obey 53 = .ok (.getfield 408, 3) := by decide +kernel
theorem dX10_obey_56 : decode cX10_obey 56 = .ok (.aload_n 0, 1) := by decide +kernel
theorem dX10_obey_57 : decode cX10_obey 57 = .ok (.getfield 74, 3) := by decide +kernel
theorem dX10_obey_60 : decode cX10_obey 60 = .ok (.invokevirtual 399, 3) := by decide +kernel
theorem dX10_obey_63 : decode cX10_obey 63 = .ok (.istore_n 3, 1) := by decide +kernel
theorem dX10_obey_64 : decode cX10_obey 64 = .ok (.aload_n 0, 1) := by decide +kernel
theorem dX10_obey_65 : decode cX10_obey 65 = .ok (.getfield 59, 3) := by decide +kernel
theorem dX10_obey_68 : decode cX10_obey 68 = .ok (.aload_n 1, 1) := by decide +kernel
theorem dX10_obey_69 : decode cX10_obey 69 = .ok (.getfield 390, 3) := by decide +kernel
theorem dX10_obey_72 : decode cX10_obey 72 = .ok (.aload_n 2, 1) := by decide +kernel
theorem dX10_obey_73 : decode cX10_obey 73 = .ok (.getfield 408, 3) := by decide +kernel
theorem dX10_obey_76 : decode cX10_obey 76 = .ok (.aload_n 2, 1) := by decide +kernel
theorem dX10_obey_77 : decode cX10_obey 77 = .ok (.getfield 393, 3) := by decide +kernel
theorem dX10_obey_80 : decode cX10_obey 80 = .ok (.aload_n 0, 1) := by decide +kernel
theorem dX10_obey_81 : decode cX10_obey 81 = .ok (.getfield 74, 3) := by decide +kernel
theorem dX10_obey_84 : decode cX10_obey 84 = .ok (.invokevirtual 399, 3) := by decide +kernel
theorem dX10_obey_87 : decode cX10_obey 87 = .ok (.istore 4, 2) := by decide +kernel
theorem dX10_obey_89 : decode cX10_obey 89 = .ok (.iload_n 3, 1) := by decide +kernel
theorem dX10_obey_90 : decode cX10_obey 90 = .ok (.ldc_w 411, 3) := by decide +kernel
theorem dX10_obey_93 : decode cX10_obey 93 = .ok (.if_icmp .eq 11, 3) := by decide +kernel
theorem dX10_obey_96 : decode cX10_obey 96 = .ok (.iload 4, 2) := by decide +kernel
theorem dX10_obey_98 : decode cX10_obey 98 = .ok (.ldc_w 411, 3) := by decide +kernel
theorem dX10_obey_101 : decode cX10_obey 101 = .ok (.if_icmp .ne 5, 3) := by decide +kernel
theorem dX10_obey_104 : decode cX10_obey 104 = .ok (.iconst 0, 1) := by decide +kernel
theorem dX10_obey_105 : decode cX10_obey 105 = .ok (.ireturn, 1) := by decide +kernel
theorem dX10_obey_106 : decode cX10_obey 106 = .ok (.aload_n 0, 1) := by decide +kernel
theorem dX10_obey_107 : decode cX10_obey 107 = .ok (.aload_n 2, 1) := by decide +kernel
theorem dX10_obey_108 : decode cX10_obey 108 = .ok (.getfield 412, 3) := by decide +kernel
theorem dX10_obey_111 : decode cX10_obey 111 = .ok (.iload_n 3, 1) := by decide +kernel
theorem dX10_obey_112 : decode cX10_obey 112 = .ok (.iload 4, 2) := by decide +kernel
theorem dX10_obey_114 : decode cX10_obey 114 = .ok (.invokevirtual 237, 3) := by decide +kernel
theorem dX10_obey_117 : decode cX10_obey 117 = .ok (.istore 5, 2) := by decide +kernel
theorem dX10_obey_119 : decode cX10_obey 119 = .ok (.iload 5, 2) := by decide +kernel
theorem dX10_obey_121 : decode cX10_obey 121 = .ok (.ifCond .ge 5, 3) := by decide +kernel
theorem dX10_obey_124 : decode cX10_obey 124 = .ok (.iconst 0, 1) := by decide +kernel
theorem dX10_obey_125 : decode cX10_obey 125 = .ok (.ireturn, 1) := by decide +kernel
theorem dX10_obey_126 : decode cX10_obey 126 = .ok (.aload_n 0, 1) := by decide +kernel
theorem dX10_obey_127 : decode cX10_obey 127 = .ok (.getfield 74, 3) := by decide +kernel
theorem dX10_obey_130 : decode cX10_obey 130 = .ok (.iconst 1, 1) := by decide +kernel
theorem dX10_obey_131 : decode cX10_obey 131 = .ok (.dup2, 1) := by decide +kernel
theorem dX10_obey_132 : decode cX10_obey 132 = .ok (.iaload, 1) := by decide +kernel
theorem dX10_obey_133 : decode cX10_obey 133 = .ok (.iconst 1, 1) := by decide +kernel
theorem dX10_obey_134 : decode cX10_obey 134 = .ok (.iadd, 1) := by decide +kernel
theorem dX10_obey_135 : decode cX10_obey 135 = .ok (.iastore, 1) := by decide +kernel
theorem dX10_obey_136 : decode cX10_obey 136 = .ok (.aload_n 2, 1) := by decide +kernel
theorem dX10_obey_137 : decode cX10_obey 137 = .ok (.getfield 412, 3) := by decide +kernel
theorem dX10_obey_140 : decode cX10_obey 140 = .ok (.iconst 1, 1) := by decide +kernel
theorem dX10_obey_141 : decode cX10_obey 141 = .ok (.if_icmp .ne 11, 3) := by decide +kernel
theorem dX10_obey_144 : decode cX10_obey 144 = .ok (.aload_n 0, 1) := by decide +kernel
theorem dX10_obey_145 : decode cX10_obey 145 = .ok (.getfield 74, 3) := by decide +kernel
theorem dX10_obey_148 : decode cX10_obey 148 = .ok (.iconst 2, 1) := by decide +kernel
theorem dX10_obey_149 : decode cX10_obey 149 = .ok (.iload 5, 2) := by decide +kernel
theorem dX10_obey_151 : decode cX10_obey 151 = .ok (.iastore, 1) := by decide +kernel
theorem dX10_obey_152 : decode cX10_obey 152 = .ok (.iconst 1, 1) := by decide +kernel
theorem dX10_obey_153 : decode cX10_obey 153 = .ok (.ireturn, 1) := by decide +kernel
theorem dX10_giveUp_0 : decode cX10_giveUp 0 = .ok (.aload_n 0, 1) := by decide +kernel
theorem dX10_giveUp_1 : decode cX10_giveUp 1 = .ok (.getfield 12, 3) := by decide +kernel
theorem dX10_giveUp_4 : decode cX10_giveUp 4 = .ok (.aload_n 0, 1) := by decide +kernel
theorem dX10_giveUp_5 : decode cX10_giveUp 5 = .ok (.getfield 16, 3) := by decide +kernel
theorem dX10_giveUp_8 : decode cX10_giveUp 8 = .ok (.invokevirtual 202, 3) := by decide +kernel
theorem dX10_giveUp_11 : decode cX10_giveUp 11 = .ok (.aload_n 0, 1) := by decide +kernel
theorem dX10_giveUp_12 : decode cX10_giveUp 12 = .ok (.getfield 29, 3) := by decide +kernel
theorem dX10_giveUp_15 : decode cX10_giveUp 15 = .ok (.aload_n 0, 1) := by decide +kernel
theorem dX10_giveUp_16 : decode cX10_giveUp 16 = .ok (.getfield 33, 3) := by decide +kernel
theorem dX10_giveUp_19 : decode cX10_giveUp 19 = .ok (.invokevirtual 206, 3) := by decide +kernel
theorem dX10_giveUp_22 : decode cX10_giveUp 22 = .ok (.aload_n 0, 1) := by decide +kernel
theorem dX10_giveUp_23 : decode cX10_giveUp 23 = .ok (.iload_n 1, 1) := by decide +kernel
theorem dX10_giveUp_24 : decode cX10_giveUp 24 = .ok (.putfield 85, 3) := by decide +kernel
theorem dX10_giveUp_27 : decode cX10_giveUp 27 = .ok (.aload_n 0, 1) := by decide +kernel
theorem dX10_giveUp_28 : decode cX10_giveUp 28 = .ok (.bipush (-3), 2) := by decide +kernel
theorem dX10_giveUp_30 : decode cX10_giveUp 30 = .ok (.invokevirtual 93, 3) := by decide +kernel
theorem dX10_giveUp_33 : decode cX10_giveUp 33 = .ok (.ireturn, 1) := by decide +kernel
