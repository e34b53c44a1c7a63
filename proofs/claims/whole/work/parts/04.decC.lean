theorem dX6_init_0 : decode cX6_init 0 = .ok (.aload_n 0, 1) := by decide +kernel
theorem dX6_init_1 : decode cX6_init 1 = .ok (.invokespecial 1, 3) := by decide +kernel
theorem dX6_init_4 : decode cX6_init 4 = .ok (.aload_n 0, 1) := by decide +kernel
theorem dX6_init_5 : decode cX6_init 5 = .ok (.iconst 4, 1) := by decide +kernel
theorem dX6_init_6 : decode cX6_init 6 = .ok (.newarray .int, 2) := by decide +kernel
theorem dX6_init_8 : decode cX6_init 8 = .ok (.putfield 7, 3) := by decide +kernel
theorem dX6_init_11 : decode cX6_init 11 = .ok (.aload_n 0, 1) := by decide +kernel
theorem dX6_init_12 : decode cX6_init 12 = .ok (.bipush 20, 2) := by decide +kernel
theorem dX6_init_14 : decode cX6_init 14 = .ok (.newarray .int, 2) := by decide +kernel
theorem dX6_init_16 : decode cX6_init 16 = .ok (.putfield 13, 3) := by decide +kernel
theorem dX6_init_19 : decode cX6_init 19 = .ok (.aload_n 0, 1) := by decide +kernel
theorem dX6_init_20 : decode cX6_init 20 = .ok (.bipush 20, 2) := by decide +kernel
theorem dX6_init_22 : decode cX6_init 22 = .ok (.newarray .boolean, 2) := by decide +kernel
theorem dX6_init_24 : decode cX6_init 24 = .ok (.putfield 16, 3) := by decide +kernel
theorem dX6_init_27 : decode cX6_init 27 = .ok (.aload_n 0, 1) := by decide +kernel
theorem dX6_init_28 : decode cX6_init 28 = .ok (.bipush 20, 2) := by decide +kernel
theorem dX6_init_30 : decode cX6_init 30 = .ok (.newarray .char, 2) := by decide +kernel
theorem dX6_init_32 : decode cX6_init 32 = .ok (.putfield 20, 3) := by decide +kernel
theorem dX6_init_35 : decode cX6_init 35 = .ok (.aload_n 0, 1) := by decide +kernel
theorem dX6_init_36 : decode cX6_init 36 = .ok (.bipush 20, 2) := by decide +kernel
theorem dX6_init_38 : decode cX6_init 38 = .ok (.newarray .int, 2) := by decide +kernel
theorem dX6_init_40 : decode cX6_init 40 = .ok (.putfield 24, 3) := by decide +kernel
theorem dX6_init_43 : decode cX6_init 43 = .ok (.aload_n 0, 1) := by decide +kernel
theorem dX6_init_44 : decode cX6_init 44 = .ok (.bipush 24, 2) := by decide +kernel
theorem dX6_init_46 : decode cX6_init 46 = .ok (.newarray .int, 2) := by decide +kernel
theorem dX6_init_48 : decode cX6_init 48 = .ok (.putfield 27, 3) := by decide +kernel
theorem dX6_init_51 : decode cX6_init 51 = .ok (.aload_n 0, 1) := by decide +kernel
theorem dX6_init_52 : decode cX6_init 52 = .ok (.bipush 96, 2) := by decide +kernel
theorem dX6_init_54 : decode cX6_init 54 = .ok (.newarray .int, 2) := by decide +kernel
theorem dX6_init_56 : decode cX6_init 56 = .ok (.putfield 30, 3) := by decide +kernel
theorem dX6_init_59 : decode cX6_init 59 = .ok (.aload_n 0, 1) := by decide +kernel
theorem dX6_init_60 : decode cX6_init 60 = .ok (.bipush 6, 2) := by decide +kernel
theorem dX6_init_62 : decode cX6_init 62 = .ok (.newarray .int, 2) := by decide +kernel
theorem dX6_init_64 : decode cX6_init 64 = .ok (.putfield 33, 3) := by decide +kernel
theorem dX6_init_67 : decode cX6_init 67 = .ok (.aload_n 0, 1) := by decide +kernel
theorem dX6_init_68 : decode cX6_init 68 = .ok (.bipush 30, 2) := by decide +kernel
theorem dX6_init_70 : decode cX6_init 70 = .ok (.newarray .int, 2) := by decide +kernel
theorem dX6_init_72 : decode cX6_init 72 = .ok (.putfield 36, 3) := by decide +kernel
theorem dX6_init_75 : decode cX6_init 75 = .ok (.aload_n 0, 1) := by decide +kernel
theorem dX6_init_76 : decode cX6_init 76 = .ok (.bipush 30, 2) := by decide +kernel
theorem dX6_init_78 : decode cX6_init 78 = .ok (.newarray .int, 2) := by decide +kernel
theorem dX6_init_80 : decode cX6_init 80 = .ok (.putfield 39, 3) := by decide +kernel
theorem dX6_init_83 : decode cX6_init 83 = .ok (.aload_n 0, 1) := by decide +kernel
theorem dX6_init_84 : decode cX6_init 84 = .ok (.bipush 30, 2) := by decide +kernel
theorem dX6_init_86 : decode cX6_init 86 = .ok (.newarray .int, 2) := by decide +kernel
theorem dX6_init_88 : decode cX6_init 88 = .ok (.putfield 42, 3) := by decide +kernel
theorem dX6_init_91 : decode cX6_init 91 = .ok (.aload_n 0, 1) := by decide +kernel
theorem dX6_init_92 : decode cX6_init 92 = .ok (.bipush 30, 2) := by decide +kernel
theorem dX6_init_94 : decode cX6_init 94 = .ok (.newarray .char, 2) := by decide +kernel
theorem dX6_init_96 : decode cX6_init 96 = .ok (.putfield 45, 3) := by decide +kernel
theorem dX6_init_99 : decode cX6_init 99 = .ok (.return_, 1) := by decide +kernel
theorem dX6_thrown_0 : decode cX6_thrown 0 = .ok (.aload_n 0, 1) := by decide +kernel
theorem dX6_thrown_1 : decode cX6_thrown 1 = .ok (.getfield 48, 3) := by decide +kernel
theorem dX6_thrown_4 : decode cX6_thrown 4 = .ok (.ireturn, 1) := by decide +kernel
theorem dX6_in_0 : decode cX6_in 0 = .ok (.iload_n 0, 1) := by decide +kernel
theorem dX6_in_1 : decode cX6_in 1 = .ok (.iload_n 1, 1) := by decide +kernel
theorem dX6_in_2 : decode cX6_in 2 = .ok (.if_icmp .lt 12, 3) := by decide +kernel
theorem dX6_in_5 : decode cX6_in 5 = .ok (.iload_n 0, 1) := by decide +kernel
theorem dX6_in_6 : decode cX6_in 6 = .ok (.iload_n 2, 1) := by decide +kernel
theorem dX6_in_7 : decode cX6_in 7 = .ok (.if_icmp .gt 7, 3) := by decide +kernel
theorem dX6_in_10 : decode cX6_in 10 = .ok (.iconst 1, 1) := by decide +kernel
theorem dX6_in_11 : decode cX6_in 11 = .ok (.goto 4, 3) := by decide +kernel
theorem dX6_in_14 : decode cX6_in 14 = .ok (.iconst 0, 1) := by decide +kernel
theorem dX6_in_15 : decode cX6_in 15 = .ok (.ireturn, 1) := by decide +kernel
theorem dX6_fails_0 : decode cX6_fails 0 = .ok (.aload_n 0, 1) := by decide +kernel
theorem dX6_fails_1 : decode cX6_fails 1 = .ok (.iload_n 1, 1) := by decide +kernel
theorem dX6_fails_2 : decode cX6_fails 2 = .ok (.putfield 48, 3) := by decide +kernel
theorem dX6_fails_5 : decode cX6_fails 5 = .ok (.iconst 0, 1) := by decide +kernel
theorem dX6_fails_6 : decode cX6_fails 6 = .ok (.ireturn, 1) := by decide +kernel
theorem dX6_isBox_0 : decode cX6_isBox 0 = .ok (.iload_n 1, 1) := by decide +kernel
theorem dX6_isBox_1 : decode cX6_isBox 1 = .ok (.iconst 0, 1) := by decide +kernel
theorem dX6_isBox_2 : decode cX6_isBox 2 = .ok (.aload_n 0, 1) := by decide +kernel
theorem dX6_isBox_3 : decode cX6_isBox 3 = .ok (.getfield 52, 3) := by decide +kernel
theorem dX6_isBox_6 : decode cX6_isBox 6 = .ok (.iconst 1, 1) := by decide +kernel
theorem dX6_isBox_7 : decode cX6_isBox 7 = .ok (.isub, 1) := by decide +kernel
theorem dX6_isBox_8 : decode cX6_isBox 8 = .ok (.invokestatic 55, 3) := by decide +kernel
theorem dX6_isBox_11 : decode cX6_isBox 11 = .ok (.ifCond .eq 16, 3) := by decide +kernel
theorem dX6_isBox_14 : decode cX6_isBox 14 = .ok (.aload_n 0, 1) := by decide +kernel
theorem dX6_isBox_15 : decode cX6_isBox 15 = .ok (.getfield 16, 3) := by decide +kernel
theorem dX6_isBox_18 : decode cX6_isBox 18 = .ok (.iload_n 1, 1) := by decide +kernel
theorem dX6_isBox_19 : decode cX6_isBox 19 = .ok (.baload, 1) := by decide +kernel
theorem dX6_isBox_20 : decode cX6_isBox 20 = .ok (.ifCond .eq 7, 3) := by decide +kernel
theorem dX6_isBox_23 : decode cX6_isBox 23 = .ok (.iconst 1, 1) := by decide +kernel
theorem dX6_isBox_24 : decode cX6_isBox 24 = .ok (.goto 4, 3) := by decide +kernel
theorem dX6_isBox_27 : decode cX6_isBox 27 = .ok (.iconst 0, 1) := by decide +kernel
theorem dX6_isBox_28 : decode cX6_isBox 28 = .ok (.ireturn, 1) := by decide +kernel
theorem dX6_isStack_0 : decode cX6_isStack 0 = .ok (.iload_n 1, 1) := by decide +kernel
theorem dX6_isStack_1 : decode cX6_isStack 1 = .ok (.iconst 0, 1) := by decide +kernel
theorem dX6_isStack_2 : decode cX6_isStack 2 = .ok (.aload_n 0, 1) := by decide +kernel
theorem dX6_isStack_3 : decode cX6_isStack 3 = .ok (.getfield 59, 3) := by decide +kernel
theorem dX6_isStack_6 : decode cX6_isStack 6 = .ok (.iconst 1, 1) := by decide +kernel
theorem dX6_isStack_7 : decode cX6_isStack 7 = .ok (.isub, 1) := by decide +kernel
theorem dX6_isStack_8 : decode cX6_isStack 8 = .ok (.invokestatic 55, 3) := by decide +kernel
theorem dX6_isStack_11 : decode cX6_isStack 11 = .ok (.ireturn, 1) := by decide +kernel
theorem dX6_isPinned_0 : decode cX6_isPinned 0 = .ok (.aload_n 0, 1) := by decide +kernel
theorem dX6_isPinned_1 : decode cX6_isPinned 1 = .ok (.getfield 20, 3) := by decide +kernel
theorem dX6_isPinned_4 : decode cX6_isPinned 4 = .ok (.iload_n 1, 1) := by decide +kernel
theorem dX6_isPinned_5 : decode cX6_isPinned 5 = .ok (.caload, 1) := by decide +kernel
theorem dX6_isPinned_6 : decode cX6_isPinned 6 = .ok (.bipush 112, 2) := by decide +kernel
theorem dX6_isPinned_8 : decode cX6_isPinned 8 = .ok (.if_icmp .ne 7, 3) := by decide +kernel
theorem dX6_isPinned_11 : decode cX6_isPinned 11 = .ok (.iconst 1, 1) := by decide +kernel
theorem dX6_isPinned_12 : decode cX6_isPinned 12 = .ok (.goto 4, 3) := by decide +kernel
theorem dX6_isPinned_15 : decode cX6_isPinned 15 = .ok (.iconst 0, 1) := by decide +kernel
theorem dX6_isPinned_16 : decode cX6_isPinned 16 = .ok (.ireturn, 1) := by decide +kernel
theorem dX6_placeOf_0 : decode cX6_placeOf 0 = .ok (.iconst 0, 1) := by decide +kernel
theorem dX6_placeOf_1 : decode cX6_placeOf 1 = .ok (.istore_n 3, 1) := by decide +kernel
theorem dX6_placeOf_2 : decode cX6_placeOf 2 = .ok (.iload_n 3, 1) := by decide +kernel
theorem dX6_placeOf_3 : decode cX6_placeOf 3 = .ok (.aload_n 0, 1) := by decide +kernel
theorem dX6_placeOf_4 : decode cX6_placeOf 4 = .ok (.getfield 59, 3) := by decide +kernel
theorem dX6_placeOf_7 : decode cX6_placeOf 7 = .ok (.if_icmp .ge 55, 3) := by decide +kernel
theorem dX6_placeOf_10 : decode cX6_placeOf 10 = .ok (.iconst 0, 1) := by decide +kernel
theorem dX6_placeOf_11 : decode cX6_placeOf 11 = .ok (.istore 4, 2) := by decide +kernel
theorem dX6_placeOf_13 : decode cX6_placeOf 13 = .ok (.iload 4, 2) := by decide +kernel
theorem dX6_placeOf_15 : decode cX6_placeOf 15 = .ok (.aload_n 0, 1) := by decide +kernel
theorem dX6_placeOf_16 : decode cX6_placeOf 16 = .ok (.getfield 27, 3) := by decide +kernel
theorem dX6_placeOf_19 : decode cX6_placeOf 19 = .ok (.iconst 4, 1) := by decide +kernel
theorem dX6_placeOf_20 : decode cX6_placeOf 20 = .ok (.iload_n 1, 1) := by decide +kernel
theorem dX6_placeOf_21 : decode cX6_placeOf 21 = .ok (.imul, 1) := by decide +kernel
theorem dX6_placeOf_22 : decode cX6_placeOf 22 = .ok (.iload_n 3, 1) := by decide +kernel
theorem dX6_placeOf_23 : decode cX6_placeOf 23 = .ok (.iadd, 1) := by decide +kernel
theorem dX6_placeOf_24 : decode cX6_placeOf 24 = .ok (.iaload, 1) := by decide +kernel
theorem dX6_placeOf_25 : decode cX6_placeOf 25 = .ok (.if_icmp .ge 31, 3) := by decide +kernel
theorem dX6_placeOf_28 : decode cX6_placeOf 28 = .ok (.aload_n 0, 1) := by decide +kernel
theorem dX6_placeOf_29 : decode cX6_placeOf 29 = .ok (.getfield 30, 3) := by decide +kernel
theorem dX6_placeOf_32 : decode cX6_placeOf 32 = .ok (.bipush 16, 2) := by decide +kernel
theorem dX6_placeOf_34 : decode cX6_placeOf 34 = .ok (.iload_n 1, 1) := by decide +kernel
theorem dX6_placeOf_35 : decode cX6_placeOf 35 = .ok (.imul, 1) := by decide +kernel
theorem dX6_placeOf_36 : decode cX6_placeOf 36 = .ok (.iconst 4, 1) := by decide +kernel
theorem dX6_placeOf_37 : decode cX6_placeOf 37 = .ok (.iload_n 3, 1) := by decide +kernel
theorem dX6_placeOf_38 : decode cX6_placeOf 38 = .ok (.imul, 1) := by decide +kernel
theorem dX6_placeOf_39 : decode cX6_placeOf 39 = .ok (.iadd, 1) := by decide +kernel
theorem dX6_placeOf_40 : decode cX6_placeOf 40 = .ok (.iload 4, 2) := by decide +kernel
theorem dX6_placeOf_42 : decode cX6_placeOf 42 = .ok (.iadd, 1) := by decide +kernel
theorem dX6_placeOf_43 : decode cX6_placeOf 43 = .ok (.iaload, 1) := by decide +kernel
theorem dX6_placeOf_44 : decode cX6_placeOf 44 = .ok (.iload_n 2, 1) := by decide +kernel
theorem dX6_placeOf_45 : decode cX6_placeOf 45 = .ok (.if_icmp .ne 5, 3) := by decide +kernel
theorem dX6_placeOf_48 : decode cX6_placeOf 48 = .ok (.iload_n 3, 1) := by decide +kernel
theorem dX6_placeOf_49 : decode cX6_placeOf 49 = .ok (.ireturn, 1) := by decide +kernel
theorem dX6_placeOf_50 : decode cX6_placeOf 50 = .ok (.iinc 4 1, 3) := by decide +kernel
theorem dX6_placeOf_53 : decode cX6_placeOf 53 = .ok (.goto (-40), 3) := by decide +kernel
theorem dX6_placeOf_56 : decode cX6_placeOf 56 = .ok (.iinc 3 1, 3) := by decide +kernel
theorem dX6_placeOf_59 : decode cX6_placeOf 59 = .ok (.goto (-57), 3) := by decide +kernel
theorem dX6_placeOf_62 : decode cX6_placeOf 62 = .ok (.iconst (-1), 1) := by decide +kernel
theorem dX6_placeOf_63 : decode cX6_placeOf 63 = .ok (.ireturn, 1) := by decide +kernel
theorem dX6_levelOf_0 : decode cX6_levelOf 0 = .ok (.aload_n 0, 1) := by decide +kernel
theorem dX6_levelOf_1 : decode cX6_levelOf 1 = .ok (.iload_n 1, 1) := by decide +kernel
theorem dX6_levelOf_2 : decode cX6_levelOf 2 = .ok (.iload_n 2, 1) := by decide +kernel
theorem dX6_levelOf_3 : decode cX6_levelOf 3 = .ok (.invokevirtual 62, 3) := by decide +kernel
theorem dX6_levelOf_6 : decode cX6_levelOf 6 = .ok (.istore_n 3, 1) := by decide +kernel
theorem dX6_levelOf_7 : decode cX6_levelOf 7 = .ok (.iconst 0, 1) := by decide +kernel
theorem dX6_levelOf_8 : decode cX6_levelOf 8 = .ok (.istore 4, 2) := by decide +kernel
theorem dX6_levelOf_10 : decode cX6_levelOf 10 = .ok (.aload_n 0, 1) := by decide +kernel
theorem dX6_levelOf_11 : decode cX6_levelOf 11 = .ok (.getfield 30, 3) := by decide +kernel
theorem dX6_levelOf_14 : decode cX6_levelOf 14 = .ok (.bipush 16, 2) := by decide +kernel
theorem dX6_levelOf_16 : decode cX6_levelOf 16 = .ok (.iload_n 1, 1) := by decide +kernel
theorem dX6_levelOf_17 : decode cX6_levelOf 17 = .ok (.imul, 1) := by decide +kernel
theorem dX6_levelOf_18 : decode cX6_levelOf 18 = .ok (.iconst 4, 1) := by decide +kernel
theorem dX6_levelOf_19 : decode cX6_levelOf 19 = .ok (.iload_n 3, 1) := by decide +kernel
theorem dX6_levelOf_20 : decode cX6_levelOf 20 = .ok (.imul, 1) := by decide +kernel
theorem dX6_levelOf_21 : decode cX6_levelOf 21 = .ok (.iadd, 1) := by decide +kernel
theorem dX6_levelOf_22 : decode cX6_levelOf 22 = .ok (.iload 4, 2) := by decide +kernel
theorem dX6_levelOf_24 : decode cX6_levelOf 24 = .ok (.iadd, 1) := by decide +kernel
theorem dX6_levelOf_25 : decode cX6_levelOf 25 = .ok (.iaload, 1) := by decide +kernel
theorem dX6_levelOf_26 : decode cX6_levelOf 26 = .ok (.iload_n 2, 1) := by decide +kernel
theorem dX6_levelOf_27 : decode cX6_levelOf 27 = .ok (.if_icmp .eq 9, 3) := by decide +kernel
theorem dX6_levelOf_30 : decode cX6_levelOf 30 = .ok (.iinc 4 1, 3) := by decide +kernel
theorem dX6_levelOf_33 : decode cX6_levelOf 33 = .ok (.goto (-23), 3) := by decide +kernel
theorem dX6_levelOf_36 : decode cX6_levelOf 36 = .ok (.iload 4, 2) := by decide +kernel
theorem dX6_levelOf_38 : decode cX6_levelOf 38 = .ok (.ireturn, 1) := by decide +kernel
theorem dX6_topOf_0 : decode cX6_topOf 0 = .ok (.aload_n 0, 1) := by decide +kernel
theorem dX6_topOf_1 : decode cX6_topOf 1 = .ok (.getfield 27, 3) := by decide +kernel
theorem dX6_topOf_4 : decode cX6_topOf 4 = .ok (.iconst 4, 1) := by decide +kernel
theorem dX6_topOf_5 : decode cX6_topOf 5 = .ok (.iload_n 1, 1) := by decide +kernel
theorem dX6_topOf_6 : decode cX6_topOf 6 = .ok (.imul, 1) := by decide +kernel
theorem dX6_topOf_7 : decode cX6_topOf 7 = .ok (.iload_n 2, 1) := by decide +kernel
theorem dX6_topOf_8 : decode cX6_topOf 8 = .ok (.iadd, 1) := by decide +kernel
theorem dX6_topOf_9 : decode cX6_topOf 9 = .ok (.iaload, 1) := by decide +kernel
theorem dX6_topOf_10 : decode cX6_topOf 10 = .ok (.istore_n 3, 1) := by decide +kernel
theorem dX6_topOf_11 : decode cX6_topOf 11 = .ok (.iload_n 3, 1) := by decide +kernel
theorem dX6_topOf_12 : decode cX6_topOf 12 = .ok (.ifCond .ne 7, 3) := by decide +kernel
theorem dX6_topOf_15 : decode cX6_topOf 15 = .ok (.iconst (-1), 1) := by decide +kernel
theorem dX6_topOf_16 : decode cX6_topOf 16 = .ok (.goto 20, 3) := by decide +kernel
theorem dX6_topOf_19 : decode cX6_topOf 19 = .ok (.aload_n 0, 1) := by decide +kernel
theorem dX6_topOf_20 : decode cX6_topOf 20 = .ok (.getfield 30, 3) := by decide +kernel
theorem dX6_topOf_23 : decode cX6_topOf 23 = .ok (.bipush 16, 2) := by decide +kernel
theorem dX6_topOf_25 : decode cX6_topOf 25 = .ok (.iload_n 1, 1) := by decide +kernel
theorem dX6_topOf_26 : decode cX6_topOf 26 = .ok (.imul, 1) := by decide +kernel
theorem dX6_topOf_27 : decode cX6_topOf 27 = .ok (.iconst 4, 1) := by decide +kernel
theorem dX6_topOf_28 : decode cX6_topOf 28 = .ok (.iload_n 2, 1) := by decide +kernel
theorem dX6_topOf_29 : decode cX6_topOf 29 = .ok (.imul, 1) := by decide +kernel
theorem dX6_topOf_30 : decode cX6_topOf 30 = .ok (.iadd, 1) := by decide +kernel
theorem dX6_topOf_31 : decode cX6_topOf 31 = .ok (.iload_n 3, 1) := by decide +kernel
theorem dX6_topOf_32 : decode cX6_topOf 32 = .ok (.iadd, 1) := by decide +kernel
theorem dX6_topOf_33 : decode cX6_topOf 33 = .ok (.iconst 1, 1) := by decide +kernel
theorem dX6_topOf_34 : decode cX6_topOf 34 = .ok (.isub, 1) := by decide +kernel
theorem dX6_topOf_35 : decode cX6_topOf 35 = .ok (.iaload, 1) := by decide +kernel
theorem dX6_topOf_36 : decode cX6_topOf 36 = .ok (.ireturn, 1) := by decide +kernel
theorem dX6_isTop_0 : decode cX6_isTop 0 = .ok (.aload_n 0, 1) := by decide +kernel
theorem dX6_isTop_1 : decode cX6_isTop 1 = .ok (.iload_n 1, 1) := by decide +kernel
theorem dX6_isTop_2 : decode cX6_isTop 2 = .ok (.aload_n 0, 1) := by decide +kernel
theorem dX6_isTop_3 : decode cX6_isTop 3 = .ok (.iload_n 1, 1) := by decide +kernel
theorem dX6_isTop_4 : decode cX6_isTop 4 = .ok (.iload_n 2, 1) := by decide +kernel
theorem dX6_isTop_5 : decode cX6_isTop 5 = .ok (.invokevirtual 62, 3) := by decide +kernel
theorem dX6_isTop_8 : decode cX6_isTop 8 = .ok (.invokevirtual 66, 3) := by decide +kernel
theorem dX6_isTop_11 : decode cX6_isTop 11 = .ok (.iload_n 2, 1) := by decide +kernel
theorem dX6_isTop_12 : decode cX6_isTop 12 = .ok (.if_icmp .ne 7, 3) := by decide +kernel
theorem dX6_isTop_15 : decode cX6_isTop 15 = .ok (.iconst 1, 1) := by decide +kernel
theorem dX6_isTop_16 : decode cX6_isTop 16 = .ok (.goto 4, 3) := by decide +kernel
theorem dX6_isTop_19 : decode cX6_isTop 19 = .ok (.iconst 0, 1) := by decide +kernel
theorem dX6_isTop_20 : decode cX6_isTop 20 = .ok (.ireturn, 1) := by decide +kernel
theorem dX6_takes_0 : decode cX6_takes 0 = .ok (.aload_n 0, 1) := by decide +kernel
theorem dX6_takes_1 : decode cX6_takes 1 = .ok (.getfield 27, 3) := by decide +kernel
theorem dX6_takes_4 : decode cX6_takes 4 = .ok (.iconst 4, 1) := by decide +kernel
theorem dX6_takes_5 : decode cX6_takes 5 = .ok (.iload_n 1, 1) := by decide +kernel
theorem dX6_takes_6 : decode cX6_takes 6 = .ok (.imul, 1) := by decide +kernel
theorem dX6_takes_7 : decode cX6_takes 7 = .ok (.iload_n 2, 1) := by decide +kernel
theorem dX6_takes_8 : decode cX6_takes 8 = .ok (.iadd, 1) := by decide +kernel
theorem dX6_takes_9 : decode cX6_takes 9 = .ok (.iaload, 1) := by decide +kernel
theorem dX6_takes_10 : decode cX6_takes 10 = .ok (.aload_n 0, 1) := by decide +kernel
theorem dX6_takes_11 : decode cX6_takes 11 = .ok (.getfield 7, 3) := by decide +kernel
theorem dX6_takes_14 : decode cX6_takes 14 = .ok (.iload_n 2, 1) := by decide +kernel
theorem dX6_takes_15 : decode cX6_takes 15 = .ok (.iaload, 1) := by decide +kernel
theorem dX6_takes_16 : decode cX6_takes 16 = .ok (.if_icmp .ge 35, 3) := by decide +kernel
theorem dX6_takes_19 : decode cX6_takes 19 = .ok (.aload_n 0, 1) := by decide +kernel
theorem dX6_takes_20 : decode cX6_takes 20 = .ok (.getfield 27, 3) := by decide +kernel
theorem dX6_takes_23 : decode cX6_takes 23 = .ok (.iconst 4, 1) := by decide +kernel
theorem dX6_takes_24 : decode cX6_takes 24 = .ok (.iload_n 1, 1) := by decide +kernel
theorem dX6_takes_25 : decode cX6_takes 25 = .ok (.imul, 1) := by decide +kernel
theorem dX6_takes_26 : decode cX6_takes 26 = .ok (.iload_n 2, 1) := by decide +kernel
theorem dX6_takes_27 : decode cX6_takes 27 = .ok (.iadd, 1) := by decide +kernel
theorem dX6_takes_28 : decode cX6_takes 28 = .ok (.iaload, 1) := by decide +kernel
theorem dX6_takes_29 : decode cX6_takes 29 = .ok (.ifCond .eq 18, 3) := by decide +kernel
theorem dX6_takes_32 : decode cX6_takes 32 = .ok (.aload_n 0, 1) := by decide +kernel
theorem dX6_takes_33 : decode cX6_takes 33 = .ok (.getfield 13, 3) := by decide +kernel
theorem dX6_takes_36 : decode cX6_takes 36 = .ok (.aload_n 0, 1) := by decide +kernel
theorem dX6_takes_37 : decode cX6_takes 37 = .ok (.iload_n 1, 1) := by decide +kernel
theorem dX6_takes_38 : decode cX6_takes 38 = .ok (.iload_n 2, 1) := by decide +kernel
theorem dX6_takes_39 : decode cX6_takes 39 = .ok (.invokevirtual 66, 3) := by decide +kernel
theorem dX6_takes_42 : decode cX6_takes 42 = .ok (.iaload, 1) := by decide +kernel
theorem dX6_takes_43 : decode cX6_takes 43 = .ok (.iload_n 3, 1) := by decide +kernel
theorem dX6_takes_44 : decode cX6_takes 44 = .ok (.if_icmp .lt 7, 3) := by decide +kernel
theorem dX6_takes_47 : decode cX6_takes 47 = .ok (.iconst 1, 1) := by decide +kernel
theorem dX6_takes_48 : decode cX6_takes 48 = .ok (.goto 4, 3) := by decide +kernel
theorem dX6_takes_51 : decode cX6_takes 51 = .ok (.iconst 0, 1) := by decide +kernel
theorem dX6_takes_52 : decode cX6_takes 52 = .ok (.ireturn, 1) := by decide +kernel
theorem dX6_lays_0 : decode cX6_lays 0 = .ok (.aload_n 0, 1) := by decide +kernel
theorem dX6_lays_1 : decode cX6_lays 1 = .ok (.getfield 30, 3) := by decide +kernel
theorem dX6_lays_4 : decode cX6_lays 4 = .ok (.bipush 16, 2) := by decide +kernel
theorem dX6_lays_6 : decode cX6_lays 6 = .ok (.iload_n 1, 1) := by decide +kernel
theorem dX6_lays_7 : decode cX6_lays 7 = .ok (.imul, 1) := by decide +kernel
theorem dX6_lays_8 : decode cX6_lays 8 = .ok (.iconst 4, 1) := by decide +kernel
theorem dX6_lays_9 : decode cX6_lays 9 = .ok (.iload_n 2, 1) := by decide +kernel
theorem dX6_lays_10 : decode cX6_lays 10 = .ok (.imul, 1) := by decide +kernel
theorem dX6_lays_11 : decode cX6_lays 11 = .ok (.iadd, 1) := by decide +kernel
theorem dX6_lays_12 : decode cX6_lays 12 = .ok (.aload_n 0, 1) := by decide +kernel
theorem dX6_lays_13 : decode cX6_lays 13 = .ok (.getfield 27, 3) := by decide +kernel
theorem dX6_lays_16 : decode cX6_lays 16 = .ok (.iconst 4, 1) := by decide +kernel
theorem dX6_lays_17 : decode cX6_lays 17 = .ok (.iload_n 1, 1) := by decide +kernel
theorem dX6_lays_18 : decode cX6_lays 18 = .ok (.imul, 1) := by decide +kernel
theorem dX6_lays_19 : decode cX6_lays 19 = .ok (.iload_n 2, 1) := by decide +kernel
theorem dX6_lays_20 : decode cX6_lays 20 = .ok (.iadd, 1) := by decide +kernel
theorem dX6_lays_21 : decode cX6_lays 21 = .ok (.iaload, 1) := by decide +kernel
theorem dX6_lays_22 : decode cX6_lays 22 = .ok (.iadd, 1) := by decide +kernel
theorem dX6_lays_23 : decode cX6_lays 23 = .ok (.iload_n 3, 1) := by decide +kernel
theorem dX6_lays_24 : decode cX6_lays 24 = .ok (.iastore, 1) := by decide +kernel
theorem dX6_lays_25 : decode cX6_lays 25 = .ok (.aload_n 0, 1) := by decide +kernel
theorem dX6_lays_26 : decode cX6_lays 26 = .ok (.getfield 27, 3) := by decide +kernel
theorem dX6_lays_29 : decode cX6_lays 29 = .ok (.iconst 4, 1) := by decide +kernel
theorem dX6_lays_30 : decode cX6_lays 30 = .ok (.iload_n 1, 1) := by decide +kernel
theorem dX6_lays_31 : decode cX6_lays 31 = .ok (.imul, 1) := by decide +kernel
theorem dX6_lays_32 : decode cX6_lays 32 = .ok (.iload_n 2, 1) := by decide +kernel
theorem dX6_lays_33 : decode cX6_lays 33 = .ok (.iadd, 1) := by decide +kernel
theorem dX6_lays_34 : decode cX6_lays 34 = .ok (.dup2, 1) := by decide +kernel
theorem dX6_lays_35 : decode cX6_lays 35 = .ok (.iaload, 1) := by decide +kernel
theorem dX6_lays_36 : decode cX6_lays 36 = .ok (.iconst 1, 1) := by decide +kernel
theorem dX6_lays_37 : decode cX6_lays 37 = .ok (.iadd, 1) := by decide +kernel
theorem dX6_lays_38 : decode cX6_lays 38 = .ok (.iastore, 1) := by decide +kernel
theorem dX6_lays_39 : decode cX6_lays 39 = .ok (.return_, 1) := by decide +kernel
theorem dX6_canMove_0 : decode cX6_canMove 0 = .ok (.aload_n 0, 1) := by decide +kernel
theorem dX6_canMove_1 : decode cX6_canMove 1 = .ok (.iload_n 1, 1) := by decide +kernel
theorem dX6_canMove_2 : decode cX6_canMove 2 = .ok (.iload_n 2, 1) := by decide +kernel
theorem dX6_canMove_3 : decode cX6_canMove 3 = .ok (.invokevirtual 69, 3) := by decide +kernel
theorem dX6_canMove_6 : decode cX6_canMove 6 = .ok (.ifCond .eq 40, 3) := by decide +kernel
theorem dX6_canMove_9 : decode cX6_canMove 9 = .ok (.aload_n 0, 1) := by decide +kernel
theorem dX6_canMove_10 : decode cX6_canMove 10 = .ok (.iload_n 2, 1) := by decide +kernel
theorem dX6_canMove_11 : decode cX6_canMove 11 = .ok (.invokevirtual 73, 3) := by decide +kernel
theorem dX6_canMove_14 : decode cX6_canMove 14 = .ok (.ifCond .ne 32, 3) := by decide +kernel
theorem dX6_canMove_17 : decode cX6_canMove 17 = .ok (.aload_n 0, 1) := by decide +kernel
theorem dX6_canMove_18 : decode cX6_canMove 18 = .ok (.iload_n 1, 1) := by decide +kernel
theorem dX6_canMove_19 : decode cX6_canMove 19 = .ok (.iload_n 2, 1) := by decide +kernel
theorem dX6_canMove_20 : decode cX6_canMove 20 = .ok (.invokevirtual 62, 3) := by decide +kernel
theorem dX6_canMove_23 : decode cX6_canMove 23 = .ok (.iload_n 3, 1) := by decide +kernel
theorem dX6_canMove_24 : decode cX6_canMove 24 = .ok (.if_icmp .eq 22, 3) := by decide +kernel
theorem dX6_canMove_27 : decode cX6_canMove 27 = .ok (.aload_n 0, 1) := by decide +kernel
theorem dX6_canMove_28 : decode cX6_canMove 28 = .ok (.iload_n 1, 1) := by decide +kernel
theorem dX6_canMove_29 : decode cX6_canMove 29 = .ok (.iload_n 3, 1) := by decide +kernel
theorem dX6_canMove_30 : decode cX6_canMove 30 = .ok (.aload_n 0, 1) := by decide +kernel
theorem dX6_canMove_31 : decode cX6_canMove 31 = .ok (.getfield 13, 3) := by decide +kernel
theorem dX6_canMove_34 : decode cX6_canMove 34 = .ok (.iload_n 2, 1) := by decide +kernel
theorem dX6_canMove_35 : decode cX6_canMove 35 = .ok (.iaload, 1) := by decide +kernel
theorem dX6_canMove_36 : decode cX6_canMove 36 = .ok (.invokevirtual 77, 3) := by decide +kernel
theorem dX6_canMove_39 : decode cX6_canMove 39 = .ok (.ifCond .eq 7, 3) := by decide +kernel
theorem dX6_canMove_42 : decode cX6_canMove 42 = .ok (.iconst 1, 1) := by decide +kernel
theorem dX6_canMove_43 : decode cX6_canMove 43 = .ok (.goto 4, 3) := by decide +kernel
theorem dX6_canMove_46 : decode cX6_canMove 46 = .ok (.iconst 0, 1) := by decide +kernel
theorem dX6_canMove_47 : decode cX6_canMove 47 = .ok (.ireturn, 1) := by decide +kernel
theorem dX6_moves_0 : decode cX6_moves 0 = .ok (.aload_n 0, 1) := by decide +kernel
theorem dX6_moves_1 : decode cX6_moves 1 = .ok (.getfield 27, 3) := by decide +kernel
theorem dX6_moves_4 : decode cX6_moves 4 = .ok (.iconst 4, 1) := by decide +kernel
theorem dX6_moves_5 : decode cX6_moves 5 = .ok (.iload_n 1, 1) := by decide +kernel
theorem dX6_moves_6 : decode cX6_moves 6 = .ok (.imul, 1) := by decide +kernel
theorem dX6_moves_7 : decode cX6_moves 7 = .ok (.aload_n 0, 1) := by decide +kernel
theorem dX6_moves_8 : decode cX6_moves 8 = .ok (.iload_n 1, 1) := by decide +kernel
theorem dX6_moves_9 : decode cX6_moves 9 = .ok (.iload_n 2, 1) := by decide +kernel
theorem dX6_moves_10 : decode cX6_moves 10 = .ok (.invokevirtual 62, 3) := by decide +kernel
theorem dX6_moves_13 : decode cX6_moves 13 = .ok (.iadd, 1) := by decide +kernel
theorem dX6_moves_14 : decode cX6_moves 14 = .ok (.dup2, 1) := by decide +kernel
theorem dX6_moves_15 : decode cX6_moves 15 = .ok (.iaload, 1) := by decide +kernel
theorem dX6_moves_16 : decode cX6_moves 16 = .ok (.iconst 1, 1) := by decide +kernel
theorem dX6_moves_17 : decode cX6_moves 17 = .ok (.isub, 1) := by decide +kernel
theorem dX6_moves_18 : decode cX6_moves 18 = .ok (.iastore, 1) := by decide +kernel
theorem dX6_moves_19 : decode cX6_moves 19 = .ok (.aload_n 0, 1) := by decide +kernel
theorem dX6_moves_20 : decode cX6_moves 20 = .ok (.iload_n 1, 1) := by decide +kernel
theorem dX6_moves_21 : decode cX6_moves 21 = .ok (.iload_n 3, 1) := by decide +kernel
theorem dX6_moves_22 : decode cX6_moves 22 = .ok (.iload_n 2, 1) := by decide +kernel
theorem dX6_moves_23 : decode cX6_moves 23 = .ok (.invokevirtual 80, 3) := by decide +kernel
theorem dX6_moves_26 : decode cX6_moves 26 = .ok (.return_, 1) := by decide +kernel
theorem dX6_copies_0 : decode cX6_copies 0 = .ok (.iconst 0, 1) := by decide +kernel
theorem dX6_copies_1 : decode cX6_copies 1 = .ok (.istore_n 3, 1) := by decide +kernel
theorem dX6_copies_2 : decode cX6_copies 2 = .ok (.iload_n 3, 1) := by decide +kernel
theorem dX6_copies_3 : decode cX6_copies 3 = .ok (.iconst 4, 1) := by decide +kernel
theorem dX6_copies_4 : decode cX6_copies 4 = .ok (.if_icmp .ge 29, 3) := by decide +kernel
theorem dX6_copies_7 : decode cX6_copies 7 = .ok (.aload_n 0, 1) := by decide +kernel
theorem dX6_copies_8 : decode cX6_copies 8 = .ok (.getfield 27, 3) := by decide +kernel
theorem dX6_copies_11 : decode cX6_copies 11 = .ok (.iconst 4, 1) := by decide +kernel
theorem dX6_copies_12 : decode cX6_copies 12 = .ok (.iload_n 2, 1) := by decide +kernel
theorem dX6_copies_13 : decode cX6_copies 13 = .ok (.imul, 1) := by decide +kernel
theorem dX6_copies_14 : decode cX6_copies 14 = .ok (.iload_n 3, 1) := by decide +kernel
theorem dX6_copies_15 : decode cX6_copies 15 = .ok (.iadd, 1) := by decide +kernel
theorem dX6_copies_16 : decode cX6_copies 16 = .ok (.aload_n 0, 1) := by decide +kernel
theorem dX6_copies_17 : decode cX6_copies 17 = .ok (.getfield 27, 3) := by decide +kernel
theorem dX6_copies_20 : decode cX6_copies 20 = .ok (.iconst 4, 1) := by decide +kernel
theorem dX6_copies_21 : decode cX6_copies 21 = .ok (.iload_n 1, 1) := by decide +kernel
theorem dX6_copies_22 : decode cX6_copies 22 = .ok (.imul, 1) := by decide +kernel
theorem dX6_copies_23 : decode cX6_copies 23 = .ok (.iload_n 3, 1) := by decide +kernel
theorem dX6_copies_24 : decode cX6_copies 24 = .ok (.iadd, 1) := by decide +kernel
theorem dX6_copies_25 : decode cX6_copies 25 = .ok (.iaload, 1) := by decide +kernel
theorem dX6_copies_26 : decode cX6_copies 26 = .ok (.iastore, 1) := by decide +kernel
theorem dX6_copies_27 : decode cX6_copies 27 = .ok (.iinc 3 1, 3) := by decide +kernel
theorem dX6_copies_30 : decode cX6_copies 30 = .ok (.goto (-28), 3) := by decide +kernel
theorem dX6_copies_33 : decode cX6_copies 33 = .ok (.iconst 0, 1) := by decide +kernel
theorem dX6_copies_34 : decode cX6_copies 34 = .ok (.istore_n 3, 1) := by decide +kernel
theorem dX6_copies_35 : decode cX6_copies 35 = .ok (.iload_n 3, 1) := by decide +kernel
theorem dX6_copies_36 : decode cX6_copies 36 = .ok (.bipush 16, 2) := by decide +kernel
theorem dX6_copies_38 : decode cX6_copies 38 = .ok (.if_icmp .ge 31, 3) := by decide +kernel
theorem dX6_copies_41 : decode cX6_copies 41 = .ok (.aload_n 0, 1) := by decide +kernel
theorem dX6_copies_42 : decode cX6_copies 42 = .ok (.getfield 30, 3) := by decide +kernel
theorem dX6_copies_45 : decode cX6_copies 45 = .ok (.bipush 16, 2) := by decide +kernel
theorem dX6_copies_47 : decode cX6_copies 47 = .ok (.iload_n 2, 1) := by decide +kernel
theorem dX6_copies_48 : decode cX6_copies 48 = .ok (.imul, 1) := by decide +kernel
theorem dX6_copies_49 : decode cX6_copies 49 = .ok (.iload_n 3, 1) := by decide +kernel
theorem dX6_copies_50 : decode cX6_copies 50 = .ok (.iadd, 1) := by decide +kernel
theorem dX6_copies_51 : decode cX6_copies 51 = .ok (.aload_n 0, 1) := by decide +kernel
theorem dX6_copies_52 : decode cX6_copies 52 = .ok (.getfield 30, 3) := by decide +kernel
theorem dX6_copies_55 : decode cX6_copies 55 = .ok (.bipush 16, 2) := by decide +kernel
theorem dX6_copies_57 : decode cX6_copies 57 = .ok (.iload_n 1, 1) := by decide +kernel
theorem dX6_copies_58 : decode cX6_copies 58 = .ok (.imul, 1) := by decide +kernel
theorem dX6_copies_59 : decode cX6_copies 59 = .ok (.iload_n 3, 1) := by decide +kernel
theorem dX6_copies_60 : decode cX6_copies 60 = .ok (.iadd, 1) := by decide +kernel
theorem dX6_copies_61 : decode cX6_copies 61 = .ok (.iaload, 1) := by decide +kernel
theorem dX6_copies_62 : decode cX6_copies 62 = .ok (.iastore, 1) := by decide +kernel
theorem dX6_copies_63 : decode cX6_copies 63 = .ok (.iinc 3 1, 3) := by decide +kernel
theorem dX6_copies_66 : decode cX6_copies 66 = .ok (.goto (-31), 3) := by decide +kernel
theorem dX6_copies_69 : decode cX6_copies 69 = .ok (.return_, 1) := by decide +kernel
theorem dX6_nextMove_0 : decode cX6_nextMove 0 = .ok (.iload_n 2, 1) := by decide +kernel
theorem dX6_nextMove_1 : decode cX6_nextMove 1 = .ok (.istore 4, 2) := by decide +kernel
theorem dX6_nextMove_3 : decode cX6_nextMove 3 = .ok (.iload 4, 2) := by decide +kernel
theorem dX6_nextMove_5 : decode cX6_nextMove 5 = .ok (.iconst 4, 1) := by decide +kernel
theorem dX6_nextMove_6 : decode cX6_nextMove 6 = .ok (.aload_n 0, 1) := by decide +kernel
theorem dX6_nextMove_7 : decode cX6_nextMove 7 = .ok (.getfield 52, 3) := by decide +kernel
theorem dX6_nextMove_10 : decode cX6_nextMove 10 = .ok (.imul, 1) := by decide +kernel
theorem dX6_nextMove_11 : decode cX6_nextMove 11 = .ok (.if_icmp .ge 59, 3) := by decide +kernel
theorem dX6_nextMove_14 : decode cX6_nextMove 14 = .ok (.iload 4, 2) := by decide +kernel
theorem dX6_nextMove_16 : decode cX6_nextMove 16 = .ok (.iconst 4, 1) := by decide +kernel
theorem dX6_nextMove_17 : decode cX6_nextMove 17 = .ok (.idiv, 1) := by decide +kernel
theorem dX6_nextMove_18 : decode cX6_nextMove 18 = .ok (.iload_n 3, 1) := by decide +kernel
theorem dX6_nextMove_19 : decode cX6_nextMove 19 = .ok (.if_icmp .eq 45, 3) := by decide +kernel
theorem dX6_nextMove_22 : decode cX6_nextMove 22 = .ok (.iload 4, 2) := by decide +kernel
theorem dX6_nextMove_24 : decode cX6_nextMove 24 = .ok (.iconst 4, 1) := by decide +kernel
theorem dX6_nextMove_25 : decode cX6_nextMove 25 = .ok (.irem, 1) := by decide +kernel
theorem dX6_nextMove_26 : decode cX6_nextMove 26 = .ok (.aload_n 0, 1) := by decide +kernel
theorem dX6_nextMove_27 : decode cX6_nextMove 27 = .ok (.getfield 59, 3) := by decide +kernel
theorem dX6_nextMove_30 : decode cX6_nextMove 30 = .ok (.if_icmp .ge 34, 3) := by decide +kernel
theorem dX6_nextMove_33 : decode cX6_nextMove 33 = .ok (.aload_n 0, 1) := by decide +kernel
theorem dX6_nextMove_34 : decode cX6_nextMove 34 = .ok (.getfield 16, 3) := by decide +kernel
theorem dX6_nextMove_37 : decode cX6_nextMove 37 = .ok (.iload 4, 2) := by decide +kernel
theorem dX6_nextMove_39 : decode cX6_nextMove 39 = .ok (.iconst 4, 1) := by decide +kernel
theorem dX6_nextMove_40 : decode cX6_nextMove 40 = .ok (.idiv, 1) := by decide +kernel
theorem dX6_nextMove_41 : decode cX6_nextMove 41 = .ok (.baload, 1) := by decide +kernel
theorem dX6_nextMove_42 : decode cX6_nextMove 42 = .ok (.ifCond .eq 22, 3) := by decide +kernel
theorem dX6_nextMove_45 : decode cX6_nextMove 45 = .ok (.aload_n 0, 1) := by decide +kernel
theorem dX6_nextMove_46 : decode cX6_nextMove 46 = .ok (.iload_n 1, 1) := by decide +kernel
theorem dX6_nextMove_47 : decode cX6_nextMove 47 = .ok (.iload 4, 2) := by decide +kernel
theorem dX6_nextMove_49 : decode cX6_nextMove 49 = .ok (.iconst 4, 1) := by decide +kernel
theorem dX6_nextMove_50 : decode cX6_nextMove 50 = .ok (.idiv, 1) := by decide +kernel
theorem dX6_nextMove_51 : decode cX6_nextMove 51 = .ok (.iload 4, 2) := by decide +kernel
theorem dX6_nextMove_53 : decode cX6_nextMove 53 = .ok (.iconst 4, 1) := by decide +kernel
theorem dX6_nextMove_54 : decode cX6_nextMove 54 = .ok (.irem, 1) := by decide +kernel
theorem dX6_nextMove_55 : decode cX6_nextMove 55 = .ok (.invokevirtual 84, 3) := by decide +kernel
theorem dX6_nextMove_58 : decode cX6_nextMove 58 = .ok (.ifCond .eq 6, 3) := by decide +kernel
theorem dX6_nextMove_61 : decode cX6_nextMove 61 = .ok (.iload 4, 2) := by decide +kernel
theorem dX6_nextMove_63 : decode cX6_nextMove 63 = .ok (.ireturn, 1) := by decide +kernel
theorem dX6_nextMove_64 : decode cX6_nextMove 64 = .ok (.iinc 4 1, 3) := by decide +kernel
theorem dX6_nextMove_67 : decode cX6_nextMove 67 = .ok (.goto (-64), 3) := by decide +kernel
theorem dX6_nextMove_70 : decode cX6_nextMove 70 = .ok (.bipush 80, 2) := by decide +kernel
theorem dX6_nextMove_72 : decode cX6_nextMove 72 = .ok (.ireturn, 1) := by decide +kernel
theorem dX6_finds_0 : decode cX6_finds 0 = .ok (.iconst 0, 1) := by decide +kernel
theorem dX6_finds_1 : decode cX6_finds 1 = .ok (.istore_n 3, 1) := by decide +kernel
theorem dX6_finds_2 : decode cX6_finds 2 = .ok (.iconst 0, 1) := by decide +kernel
theorem dX6_finds_3 : decode cX6_finds 3 = .ok (.istore 4, 2) := by decide +kernel
theorem dX6_finds_5 : decode cX6_finds 5 = .ok (.iload_n 3, 1) := by decide +kernel
theorem dX6_finds_6 : decode cX6_finds 6 = .ok (.ifCond .lt 110, 3) := by decide +kernel
theorem dX6_finds_9 : decode cX6_finds 9 = .ok (.iload_n 3, 1) := by decide +kernel
theorem dX6_finds_10 : decode cX6_finds 10 = .ok (.iload_n 2, 1) := by decide +kernel
theorem dX6_finds_11 : decode cX6_finds 11 = .ok (.if_icmp .ge 14, 3) := by decide +kernel
theorem dX6_finds_14 : decode cX6_finds 14 = .ok (.aload_n 0, 1) := by decide +kernel
theorem dX6_finds_15 : decode cX6_finds 15 = .ok (.iload_n 3, 1) := by decide +kernel
theorem dX6_finds_16 : decode cX6_finds 16 = .ok (.iload 4, 2) := by decide +kernel
theorem dX6_finds_18 : decode cX6_finds 18 = .ok (.iload_n 1, 1) := by decide +kernel
theorem dX6_finds_19 : decode cX6_finds 19 = .ok (.invokevirtual 87, 3) := by decide +kernel
theorem dX6_finds_22 : decode cX6_finds 22 = .ok (.goto 5, 3) := by decide +kernel
theorem dX6_finds_25 : decode cX6_finds 25 = .ok (.bipush 80, 2) := by decide +kernel
theorem dX6_finds_27 : decode cX6_finds 27 = .ok (.istore 5, 2) := by decide +kernel
theorem dX6_finds_29 : decode cX6_finds 29 = .ok (.iload_n 3, 1) := by decide +kernel
theorem dX6_finds_30 : decode cX6_finds 30 = .ok (.iload_n 2, 1) := by decide +kernel
theorem dX6_finds_31 : decode cX6_finds 31 = .ok (.if_icmp .ne 14, 3) := by decide +kernel
theorem dX6_finds_34 : decode cX6_finds 34 = .ok (.aload_n 0, 1) := by decide +kernel
theorem dX6_finds_35 : decode cX6_finds 35 = .ok (.iload_n 3, 1) := by decide +kernel
theorem dX6_finds_36 : decode cX6_finds 36 = .ok (.iload_n 1, 1) := by decide +kernel
theorem dX6_finds_37 : decode cX6_finds 37 = .ok (.invokevirtual 69, 3) := by decide +kernel
theorem dX6_finds_40 : decode cX6_finds 40 = .ok (.ifCond .eq 5, 3) := by decide +kernel
theorem dX6_finds_43 : decode cX6_finds 43 = .ok (.iconst 1, 1) := by decide +kernel
theorem dX6_finds_44 : decode cX6_finds 44 = .ok (.ireturn, 1) := by decide +kernel
theorem dX6_finds_45 : decode cX6_finds 45 = .ok (.iload 5, 2) := by decide +kernel
theorem dX6_finds_47 : decode cX6_finds 47 = .ok (.bipush 80, 2) := by decide +kernel
theorem dX6_finds_49 : decode cX6_finds 49 = .ok (.if_icmp .ge 43, 3) := by decide +kernel
theorem dX6_finds_52 : decode cX6_finds 52 = .ok (.aload_n 0, 1) := by decide +kernel
theorem dX6_finds_53 : decode cX6_finds 53 = .ok (.getfield 33, 3) := by decide +kernel
theorem dX6_finds_56 : decode cX6_finds 56 = .ok (.iload_n 3, 1) := by decide +kernel
theorem dX6_finds_57 : decode cX6_finds 57 = .ok (.iload 5, 2) := by decide +kernel
theorem dX6_finds_59 : decode cX6_finds 59 = .ok (.iastore, 1) := by decide +kernel
theorem dX6_finds_60 : decode cX6_finds 60 = .ok (.aload_n 0, 1) := by decide +kernel
theorem dX6_finds_61 : decode cX6_finds 61 = .ok (.iload_n 3, 1) := by decide +kernel
theorem dX6_finds_62 : decode cX6_finds 62 = .ok (.iload_n 3, 1) := by decide +kernel
theorem dX6_finds_63 : decode cX6_finds 63 = .ok (.iconst 1, 1) := by decide +kernel
theorem dX6_finds_64 : decode cX6_finds 64 = .ok (.iadd, 1) := by decide +kernel
theorem dX6_finds_65 : decode cX6_finds 65 = .ok (.invokevirtual 91, 3) := by decide +kernel
theorem dX6_finds_68 : decode cX6_finds 68 = .ok (.aload_n 0, 1) := by decide +kernel
theorem dX6_finds_69 : decode cX6_finds 69 = .ok (.iload_n 3, 1) := by decide +kernel
theorem dX6_finds_70 : decode cX6_finds 70 = .ok (.iconst 1, 1) := by decide +kernel
theorem dX6_finds_71 : decode cX6_finds 71 = .ok (.iadd, 1) := by decide +kernel
theorem dX6_finds_72 : decode cX6_finds 72 = .ok (.iload 5, 2) := by decide +kernel
theorem dX6_finds_74 : decode cX6_finds 74 = .ok (.iconst 4, 1) := by decide +kernel
theorem dX6_finds_75 : decode cX6_finds 75 = .ok (.idiv, 1) := by decide +kernel
theorem dX6_finds_76 : decode cX6_finds 76 = .ok (.iload 5, 2) := by decide +kernel
theorem dX6_finds_78 : decode cX6_finds 78 = .ok (.iconst 4, 1) := by decide +kernel
theorem dX6_finds_79 : decode cX6_finds 79 = .ok (.irem, 1) := by decide +kernel
theorem dX6_finds_80 : decode cX6_finds 80 = .ok (.invokevirtual 95, 3) := by decide +kernel
theorem dX6_finds_83 : decode cX6_finds 83 = .ok (.iinc 3 1, 3) := by decide +kernel
theorem dX6_finds_86 : decode cX6_finds 86 = .ok (.iconst 0, 1) := by decide +kernel
theorem dX6_finds_87 : decode cX6_finds 87 = .ok (.istore 4, 2) := by decide +kernel
theorem dX6_finds_89 : decode cX6_finds 89 = .ok (.goto 24, 3) := by decide +kernel
theorem dX6_finds_92 : decode cX6_finds 92 = .ok (.iinc 3 (-1), 3) := by decide +kernel
theorem dX6_finds_95 : decode cX6_finds 95 = .ok (.iload_n 3, 1) := by decide +kernel
theorem dX6_finds_96 : decode cX6_finds 96 = .ok (.ifCond .ge 7, 3) := by decide +kernel
theorem dX6_finds_99 : decode cX6_finds 99 = .ok (.iconst 0, 1) := by decide +kernel
theorem dX6_finds_100 : decode cX6_finds 100 = .ok (.goto 11, 3) := by decide +kernel
theorem dX6_finds_103 : decode cX6_finds 103 = .ok (.aload_n 0, 1) := by decide +kernel
theorem dX6_finds_104 : decode cX6_finds 104 = .ok (.getfield 33, 3) := by decide +kernel
theorem dX6_finds_107 : decode cX6_finds 107 = .ok (.iload_n 3, 1) := by decide +kernel
theorem dX6_finds_108 : decode cX6_finds 108 = .ok (.iaload, 1) := by decide +kernel
theorem dX6_finds_109 : decode cX6_finds 109 = .ok (.iconst 1, 1) := by decide +kernel
theorem dX6_finds_110 : decode cX6_finds 110 = .ok (.iadd, 1) := by decide +kernel
theorem dX6_finds_111 : decode cX6_finds 111 = .ok (.istore 4, 2) := by decide +kernel
theorem dX6_finds_113 : decode cX6_finds 113 = .ok (.goto (-108), 3) := by decide +kernel
theorem dX6_finds_116 : decode cX6_finds 116 = .ok (.iconst 0, 1) := by decide +kernel
theorem dX6_finds_117 : decode cX6_finds 117 = .ok (.ireturn, 1) := by decide +kernel
theorem dX6_aboveOf_0 : decode cX6_aboveOf 0 = .ok (.aload_n 0, 1) := by decide +kernel
theorem dX6_aboveOf_1 : decode cX6_aboveOf 1 = .ok (.getfield 27, 3) := by decide +kernel
theorem dX6_aboveOf_4 : decode cX6_aboveOf 4 = .ok (.aload_n 0, 1) := by decide +kernel
theorem dX6_aboveOf_5 : decode cX6_aboveOf 5 = .ok (.iconst 0, 1) := by decide +kernel
theorem dX6_aboveOf_6 : decode cX6_aboveOf 6 = .ok (.iload_n 1, 1) := by decide +kernel
theorem dX6_aboveOf_7 : decode cX6_aboveOf 7 = .ok (.invokevirtual 62, 3) := by decide +kernel
theorem dX6_aboveOf_10 : decode cX6_aboveOf 10 = .ok (.iaload, 1) := by decide +kernel
theorem dX6_aboveOf_11 : decode cX6_aboveOf 11 = .ok (.aload_n 0, 1) := by decide +kernel
theorem dX6_aboveOf_12 : decode cX6_aboveOf 12 = .ok (.iconst 0, 1) := by decide +kernel
theorem dX6_aboveOf_13 : decode cX6_aboveOf 13 = .ok (.iload_n 1, 1) := by decide +kernel
theorem dX6_aboveOf_14 : decode cX6_aboveOf 14 = .ok (.invokevirtual 98, 3) := by decide +kernel
theorem dX6_aboveOf_17 : decode cX6_aboveOf 17 = .ok (.isub, 1) := by decide +kernel
theorem dX6_aboveOf_18 : decode cX6_aboveOf 18 = .ok (.iconst 1, 1) := by decide +kernel
theorem dX6_aboveOf_19 : decode cX6_aboveOf 19 = .ok (.isub, 1) := by decide +kernel
theorem dX6_aboveOf_20 : decode cX6_aboveOf 20 = .ok (.ireturn, 1) := by decide +kernel
theorem dX6_plans_0 : decode cX6_plans 0 = .ok (.iconst 0, 1) := by decide +kernel
theorem dX6_plans_1 : decode cX6_plans 1 = .ok (.istore_n 2, 1) := by decide +kernel
theorem dX6_plans_2 : decode cX6_plans 2 = .ok (.iload_n 2, 1) := by decide +kernel
theorem dX6_plans_3 : decode cX6_plans 3 = .ok (.aload_n 0, 1) := by decide +kernel
theorem dX6_plans_4 : decode cX6_plans 4 = .ok (.iload_n 1, 1) := by decide +kernel
theorem dX6_plans_5 : decode cX6_plans 5 = .ok (.invokevirtual 101, 3) := by decide +kernel
theorem dX6_plans_8 : decode cX6_plans 8 = .ok (.iconst 1, 1) := by decide +kernel
theorem dX6_plans_9 : decode cX6_plans 9 = .ok (.iadd, 1) := by decide +kernel
theorem dX6_plans_10 : decode cX6_plans 10 = .ok (.if_icmp .gt 20, 3) := by decide +kernel
theorem dX6_plans_13 : decode cX6_plans 13 = .ok (.aload_n 0, 1) := by decide +kernel
theorem dX6_plans_14 : decode cX6_plans 14 = .ok (.iload_n 1, 1) := by decide +kernel
theorem dX6_plans_15 : decode cX6_plans 15 = .ok (.iload_n 2, 1) := by decide +kernel
theorem dX6_plans_16 : decode cX6_plans 16 = .ok (.invokevirtual 105, 3) := by decide +kernel
theorem dX6_plans_19 : decode cX6_plans 19 = .ok (.ifCond .eq 5, 3) := by decide +kernel
theorem dX6_plans_22 : decode cX6_plans 22 = .ok (.iload_n 2, 1) := by decide +kernel
theorem dX6_plans_23 : decode cX6_plans 23 = .ok (.ireturn, 1) := by decide +kernel
theorem dX6_plans_24 : decode cX6_plans 24 = .ok (.iinc 2 1, 3) := by decide +kernel
theorem dX6_plans_27 : decode cX6_plans 27 = .ok (.goto (-25), 3) := by decide +kernel
theorem dX6_plans_30 : decode cX6_plans 30 = .ok (.iconst (-1), 1) := by decide +kernel
theorem dX6_plans_31 : decode cX6_plans 31 = .ok (.ireturn, 1) := by decide +kernel
theorem dX6_makes_0 : decode cX6_makes 0 = .ok (.iconst 0, 1) := by decide +kernel
theorem dX6_makes_1 : decode cX6_makes 1 = .ok (.istore_n 2, 1) := by decide +kernel
theorem dX6_makes_2 : decode cX6_makes 2 = .ok (.iload_n 2, 1) := by decide +kernel
theorem dX6_makes_3 : decode cX6_makes 3 = .ok (.iload_n 1, 1) := by decide +kernel
theorem dX6_makes_4 : decode cX6_makes 4 = .ok (.if_icmp .ge 40, 3) := by decide +kernel
theorem dX6_makes_7 : decode cX6_makes 7 = .ok (.aload_n 0, 1) := by decide +kernel
theorem dX6_makes_8 : decode cX6_makes 8 = .ok (.iconst 0, 1) := by decide +kernel
theorem dX6_makes_9 : decode cX6_makes 9 = .ok (.aload_n 0, 1) := by decide +kernel
theorem dX6_makes_10 : decode cX6_makes 10 = .ok (.getfield 33, 3) := by decide +kernel
theorem dX6_makes_13 : decode cX6_makes 13 = .ok (.iload_n 2, 1) := by decide +kernel
theorem dX6_makes_14 : decode cX6_makes 14 = .ok (.iaload, 1) := by decide +kernel
theorem dX6_makes_15 : decode cX6_makes 15 = .ok (.iconst 4, 1) := by decide +kernel
theorem dX6_makes_16 : decode cX6_makes 16 = .ok (.idiv, 1) := by decide +kernel
theorem dX6_makes_17 : decode cX6_makes 17 = .ok (.aload_n 0, 1) := by decide +kernel
theorem dX6_makes_18 : decode cX6_makes 18 = .ok (.getfield 33, 3) := by decide +kernel
theorem dX6_makes_21 : decode cX6_makes 21 = .ok (.iload_n 2, 1) := by decide +kernel
theorem dX6_makes_22 : decode cX6_makes 22 = .ok (.iaload, 1) := by decide +kernel
theorem dX6_makes_23 : decode cX6_makes 23 = .ok (.iconst 4, 1) := by decide +kernel
theorem dX6_makes_24 : decode cX6_makes 24 = .ok (.irem, 1) := by decide +kernel
theorem dX6_makes_25 : decode cX6_makes 25 = .ok (.invokevirtual 95, 3) := by decide +kernel
theorem dX6_makes_28 : decode cX6_makes 28 = .ok (.aload_n 0, 1) := by decide +kernel
theorem dX6_makes_29 : decode cX6_makes 29 = .ok (.dup, 1) := by decide +kernel
theorem dX6_makes_30 : decode cX6_makes 30 = .ok (.getfield 108, 3) := by decide +kernel
theorem dX6_makes_33 : decode cX6_makes 33 = .ok (.iconst 1, 1) := by decide +kernel
theorem dX6_makes_34 : decode cX6_makes 34 = .ok (.iadd, 1) := by decide +kernel
theorem dX6_makes_35 : decode cX6_makes 35 = .ok (.putfield 108, 3) := by decide +kernel
theorem dX6_makes_38 : decode cX6_makes 38 = .ok (.iinc 2 1, 3) := by decide +kernel
theorem dX6_makes_41 : decode cX6_makes 41 = .ok (.goto (-39), 3) := by decide +kernel
theorem dX6_makes_44 : decode cX6_makes 44 = .ok (.return_, 1) := by decide +kernel
theorem dX6_addStack_0 : decode cX6_addStack 0 = .ok (.aload_n 0, 1) := by decide +kernel
theorem dX6_addStack_1 : decode cX6_addStack 1 = .ok (.iconst 0, 1) := by decide +kernel
theorem dX6_addStack_2 : decode cX6_addStack 2 = .ok (.putfield 48, 3) := by decide +kernel
theorem dX6_addStack_5 : decode cX6_addStack 5 = .ok (.iload_n 1, 1) := by decide +kernel
theorem dX6_addStack_6 : decode cX6_addStack 6 = .ok (.iconst 1, 1) := by decide +kernel
theorem dX6_addStack_7 : decode cX6_addStack 7 = .ok (.iconst 4, 1) := by decide +kernel
theorem dX6_addStack_8 : decode cX6_addStack 8 = .ok (.invokestatic 55, 3) := by decide +kernel
theorem dX6_addStack_11 : decode cX6_addStack 11 = .ok (.ifCond .ne 9, 3) := by decide +kernel
theorem dX6_addStack_14 : decode cX6_addStack 14 = .ok (.aload_n 0, 1) := by decide +kernel
theorem dX6_addStack_15 : decode cX6_addStack 15 = .ok (.iconst 1, 1) := by decide +kernel
theorem dX6_addStack_16 : decode cX6_addStack 16 = .ok (.invokevirtual 110, 3) := by decide +kernel
theorem dX6_addStack_19 : decode cX6_addStack 19 = .ok (.ireturn, 1) := by decide +kernel
theorem dX6_addStack_20 : decode cX6_addStack 20 = .ok (.aload_n 0, 1) := by decide +kernel
theorem dX6_addStack_21 : decode cX6_addStack 21 = .ok (.getfield 59, 3) := by decide +kernel
theorem dX6_addStack_24 : decode cX6_addStack 24 = .ok (.iconst 4, 1) := by decide +kernel
theorem dX6_addStack_25 : decode cX6_addStack 25 = .ok (.if_icmp .ne 9, 3) := by decide +kernel
theorem dX6_addStack_28 : decode cX6_addStack 28 = .ok (.aload_n 0, 1) := by decide +kernel
theorem dX6_addStack_29 : decode cX6_addStack 29 = .ok (.iconst 2, 1) := by decide +kernel
theorem dX6_addStack_30 : decode cX6_addStack 30 = .ok (.invokevirtual 110, 3) := by decide +kernel
theorem dX6_addStack_33 : decode cX6_addStack 33 = .ok (.ireturn, 1) := by decide +kernel
theorem dX6_addStack_34 : decode cX6_addStack 34 = .ok (.aload_n 0, 1) := by decide +kernel
theorem dX6_addStack_35 : decode cX6_addStack 35 = .ok (.getfield 7, 3) := by decide +kernel
theorem dX6_addStack_38 : decode cX6_addStack 38 = .ok (.aload_n 0, 1) := by decide +kernel
theorem dX6_addStack_39 : decode cX6_addStack 39 = .ok (.getfield 59, 3) := by decide +kernel
theorem dX6_addStack_42 : decode cX6_addStack 42 = .ok (.iload_n 1, 1) := by decide +kernel
theorem dX6_addStack_43 : decode cX6_addStack 43 = .ok (.iastore, 1) := by decide +kernel
theorem dX6_addStack_44 : decode cX6_addStack 44 = .ok (.aload_n 0, 1) := by decide +kernel
theorem dX6_addStack_45 : decode cX6_addStack 45 = .ok (.dup, 1) := by decide +kernel
theorem dX6_addStack_46 : decode cX6_addStack 46 = .ok (.getfield 59, 3) := by decide +kernel
theorem dX6_addStack_49 : decode cX6_addStack 49 = .ok (.iconst 1, 1) := by decide +kernel
theorem dX6_addStack_50 : decode cX6_addStack 50 = .ok (.iadd, 1) := by decide +kernel
theorem dX6_addStack_51 : decode cX6_addStack 51 = .ok (.putfield 59, 3) := by decide +kernel
theorem dX6_addStack_54 : decode cX6_addStack 54 = .ok (.aload_n 0, 1) := by decide +kernel
theorem dX6_addStack_55 : decode cX6_addStack 55 = .ok (.getfield 59, 3) := by decide +kernel
theorem dX6_addStack_58 : decode cX6_addStack 58 = .ok (.iconst 1, 1) := by decide +kernel
theorem dX6_addStack_59 : decode cX6_addStack 59 = .ok (.isub, 1) := by decide +kernel
theorem dX6_addStack_60 : decode cX6_addStack 60 = .ok (.ireturn, 1) := by decide +kernel
theorem dX6_insideNow_0 : decode cX6_insideNow 0 = .ok (.iconst 0, 1) := by decide +kernel
theorem dX6_insideNow_1 : decode cX6_insideNow 1 = .ok (.istore_n 1, 1) := by decide +kernel
theorem dX6_insideNow_2 : decode cX6_insideNow 2 = .ok (.iconst 0, 1) := by decide +kernel
theorem dX6_insideNow_3 : decode cX6_insideNow 3 = .ok (.istore_n 2, 1) := by decide +kernel
theorem dX6_insideNow_4 : decode cX6_insideNow 4 = .ok (.iload_n 2, 1) := by decide +kernel
theorem dX6_insideNow_5 : decode cX6_insideNow 5 = .ok (.aload_n 0, 1) := by decide +kernel
theorem dX6_insideNow_6 : decode cX6_insideNow 6 = .ok (.getfield 52, 3) := by decide +kernel
theorem dX6_insideNow_9 : decode cX6_insideNow 9 = .ok (.if_icmp .ge 26, 3) := by decide +kernel
theorem dX6_insideNow_12 : decode cX6_insideNow 12 = .ok (.iload_n 1, 1) := by decide +kernel
theorem dX6_insideNow_13 : decode cX6_insideNow 13 = .ok (.aload_n 0, 1) := by decide +kernel
theorem dX6_insideNow_14 : decode cX6_insideNow 14 = .ok (.getfield 16, 3) := by decide +kernel
theorem dX6_insideNow_17 : decode cX6_insideNow 17 = .ok (.iload_n 2, 1) := by decide +kernel
theorem dX6_insideNow_18 : decode cX6_insideNow 18 = .ok (.baload, 1) := by decide +kernel
theorem dX6_insideNow_19 : decode cX6_insideNow 19 = .ok (.ifCond .eq 7, 3) := by decide +kernel
theorem dX6_insideNow_22 : decode cX6_insideNow 22 = .ok (.iconst 1, 1) := by decide +kernel
theorem dX6_insideNow_23 : decode cX6_insideNow 23 = .ok (.goto 4, 3) := by decide +kernel
theorem dX6_insideNow_26 : decode cX6_insideNow 26 = .ok (.iconst 0, 1) := by decide +kernel
theorem dX6_insideNow_27 : decode cX6_insideNow 27 = .ok (.iadd, 1) := by decide +kernel
theorem dX6_insideNow_28 : decode cX6_insideNow 28 = .ok (.istore_n 1, 1) := by decide +kernel
theorem dX6_insideNow_29 : decode cX6_insideNow 29 = .ok (.iinc 2 1, 3) := by decide +kernel
theorem dX6_insideNow_32 : decode cX6_insideNow 32 = .ok (.goto (-28), 3) := by decide +kernel
theorem dX6_insideNow_35 : decode cX6_insideNow 35 = .ok (.iload_n 1, 1) := by decide +kernel
theorem dX6_insideNow_36 : decode cX6_insideNow 36 = .ok (.ireturn, 1) := by decide +kernel
theorem dX6_addBox_0 : decode cX6_addBox 0 = .ok (.aload_n 0, 1) := by decide +kernel
theorem dX6_addBox_1 : decode cX6_addBox 1 = .ok (.iconst 0, 1) := by decide +kernel
theorem dX6_addBox_2 : decode cX6_addBox 2 = .ok (.putfield 48, 3) := by decide +kernel
theorem dX6_addBox_5 : decode cX6_addBox 5 = .ok (.aload_n 0, 1) := by decide +kernel
theorem dX6_addBox_6 : decode cX6_addBox 6 = .ok (.iload_n 2, 1) := by decide +kernel
theorem dX6_addBox_7 : decode cX6_addBox 7 = .ok (.invokevirtual 113, 3) := by decide +kernel
theorem dX6_addBox_10 : decode cX6_addBox 10 = .ok (.ifCond .ne 9, 3) := by decide +kernel
theorem dX6_addBox_13 : decode cX6_addBox 13 = .ok (.aload_n 0, 1) := by decide +kernel
theorem dX6_addBox_14 : decode cX6_addBox 14 = .ok (.iconst 1, 1) := by decide +kernel
theorem dX6_addBox_15 : decode cX6_addBox 15 = .ok (.invokevirtual 110, 3) := by decide +kernel
theorem dX6_addBox_18 : decode cX6_addBox 18 = .ok (.ireturn, 1) := by decide +kernel
theorem dX6_addBox_19 : decode cX6_addBox 19 = .ok (.iload_n 1, 1) := by decide +kernel
theorem dX6_addBox_20 : decode cX6_addBox 20 = .ok (.iconst 1, 1) := by decide +kernel
theorem dX6_addBox_21 : decode cX6_addBox 21 = .ok (.bipush 30, 2) := by decide +kernel
theorem dX6_addBox_23 : decode cX6_addBox 23 = .ok (.invokestatic 55, 3) := by decide +kernel
theorem dX6_addBox_26 : decode cX6_addBox 26 = .ok (.ifCond .ne 9, 3) := by decide +kernel
theorem dX6_addBox_29 : decode cX6_addBox 29 = .ok (.aload_n 0, 1) := by decide +kernel
theorem dX6_addBox_30 : decode cX6_addBox 30 = .ok (.iconst 2, 1) := by decide +kernel
theorem dX6_addBox_31 : decode cX6_addBox 31 = .ok (.invokevirtual 110, 3) := by decide +kernel
theorem dX6_addBox_34 : decode cX6_addBox 34 = .ok (.ireturn, 1) := by decide +kernel
theorem dX6_addBox_35 : decode cX6_addBox 35 = .ok (.aload_n 0, 1) := by decide +kernel
theorem dX6_addBox_36 : decode cX6_addBox 36 = .ok (.iconst 0, 1) := by decide +kernel
theorem dX6_addBox_37 : decode cX6_addBox 37 = .ok (.iload_n 2, 1) := by decide +kernel
theorem dX6_addBox_38 : decode cX6_addBox 38 = .ok (.iload_n 1, 1) := by decide +kernel
theorem dX6_addBox_39 : decode cX6_addBox 39 = .ok (.invokevirtual 77, 3) := by decide +kernel
theorem dX6_addBox_42 : decode cX6_addBox 42 = .ok (.ifCond .ne 9, 3) := by decide +kernel
theorem dX6_addBox_45 : decode cX6_addBox 45 = .ok (.aload_n 0, 1) := by decide +kernel
theorem dX6_addBox_46 : decode cX6_addBox 46 = .ok (.iconst 3, 1) := by decide +kernel
theorem dX6_addBox_47 : decode cX6_addBox 47 = .ok (.invokevirtual 110, 3) := by decide +kernel
theorem dX6_addBox_50 : decode cX6_addBox 50 = .ok (.ireturn, 1) := by decide +kernel
theorem dX6_addBox_51 : decode cX6_addBox 51 = .ok (.aload_n 0, 1) := by decide +kernel
theorem dX6_addBox_52 : decode cX6_addBox 52 = .ok (.invokevirtual 116, 3) := by decide +kernel
theorem dX6_addBox_55 : decode cX6_addBox 55 = .ok (.bipush 8, 2) := by decide +kernel
theorem dX6_addBox_57 : decode cX6_addBox 57 = .ok (.if_icmp .eq 12, 3) := by decide +kernel
theorem dX6_addBox_60 : decode cX6_addBox 60 = .ok (.aload_n 0, 1) := by decide +kernel
theorem dX6_addBox_61 : decode cX6_addBox 61 = .ok (.getfield 52, 3) := by decide +kernel
theorem dX6_addBox_64 : decode cX6_addBox 64 = .ok (.bipush 20, 2) := by decide +kernel
theorem dX6_addBox_66 : decode cX6_addBox 66 = .ok (.if_icmp .ne 9, 3) := by decide +kernel
theorem dX6_addBox_69 : decode cX6_addBox 69 = .ok (.aload_n 0, 1) := by decide +kernel
theorem dX6_addBox_70 : decode cX6_addBox 70 = .ok (.iconst 4, 1) := by decide +kernel
theorem dX6_addBox_71 : decode cX6_addBox 71 = .ok (.invokevirtual 110, 3) := by decide +kernel
theorem dX6_addBox_74 : decode cX6_addBox 74 = .ok (.ireturn, 1) := by decide +kernel
theorem dX6_addBox_75 : decode cX6_addBox 75 = .ok (.aload_n 0, 1) := by decide +kernel
theorem dX6_addBox_76 : decode cX6_addBox 76 = .ok (.getfield 13, 3) := by decide +kernel
theorem dX6_addBox_79 : decode cX6_addBox 79 = .ok (.aload_n 0, 1) := by decide +kernel
theorem dX6_addBox_80 : decode cX6_addBox 80 = .ok (.getfield 52, 3) := by decide +kernel
theorem dX6_addBox_83 : decode cX6_addBox 83 = .ok (.iload_n 1, 1) := by decide +kernel
theorem dX6_addBox_84 : decode cX6_addBox 84 = .ok (.iastore, 1) := by decide +kernel
theorem dX6_addBox_85 : decode cX6_addBox 85 = .ok (.aload_n 0, 1) := by decide +kernel
theorem dX6_addBox_86 : decode cX6_addBox 86 = .ok (.getfield 16, 3) := by decide +kernel
theorem dX6_addBox_89 : decode cX6_addBox 89 = .ok (.aload_n 0, 1) := by decide +kernel
theorem dX6_addBox_90 : decode cX6_addBox 90 = .ok (.getfield 52, 3) := by decide +kernel
theorem dX6_addBox_93 : decode cX6_addBox 93 = .ok (.iconst 1, 1) := by decide +kernel
theorem dX6_addBox_94 : decode cX6_addBox 94 = .ok (.bastore, 1) := by decide +kernel
theorem dX6_addBox_95 : decode cX6_addBox 95 = .ok (.aload_n 0, 1) := by decide +kernel
theorem dX6_addBox_96 : decode cX6_addBox 96 = .ok (.getfield 20, 3) := by decide +kernel
theorem dX6_addBox_99 : decode cX6_addBox 99 = .ok (.aload_n 0, 1) := by decide +kernel
theorem dX6_addBox_100 : decode cX6_addBox 100 = .ok (.getfield 52, 3) := by decide +kernel
theorem dX6_addBox_103 : decode cX6_addBox 103 = .ok (.bipush 45, 2) := by decide +kernel
theorem dX6_addBox_105 : decode cX6_addBox 105 = .ok (.castore, 1) := by decide +kernel
theorem dX6_addBox_106 : decode cX6_addBox 106 = .ok (.aload_n 0, 1) := by decide +kernel
theorem dX6_addBox_107 : decode cX6_addBox 107 = .ok (.iconst 0, 1) := by decide +kernel
theorem dX6_addBox_108 : decode cX6_addBox 108 = .ok (.iload_n 2, 1) := by decide +kernel
theorem dX6_addBox_109 : decode cX6_addBox 109 = .ok (.aload_n 0, 1) := by decide +kernel
theorem dX6_addBox_110 : decode cX6_addBox 110 = .ok (.getfield 52, 3) := by decide +kernel
theorem dX6_addBox_113 : decode cX6_addBox 113 = .ok (.invokevirtual 80, 3) := by decide +kernel
theorem dX6_addBox_116 : decode cX6_addBox 116 = .ok (.aload_n 0, 1) := by decide +kernel
theorem dX6_addBox_117 : decode cX6_addBox 117 = .ok (.dup, 1) := by decide +kernel
theorem dX6_addBox_118 : decode cX6_addBox 118 = .ok (.getfield 52, 3) := by decide +kernel
theorem dX6_addBox_121 : decode cX6_addBox 121 = .ok (.iconst 1, 1) := by decide +kernel
theorem dX6_addBox_122 : decode cX6_addBox 122 = .ok (.iadd, 1) := by decide +kernel
theorem dX6_addBox_123 : decode cX6_addBox 123 = .ok (.putfield 52, 3) := by decide +kernel
theorem dX6_addBox_126 : decode cX6_addBox 126 = .ok (.aload_n 0, 1) := by decide +kernel
theorem dX6_addBox_127 : decode cX6_addBox 127 = .ok (.getfield 52, 3) := by decide +kernel
theorem dX6_addBox_130 : decode cX6_addBox 130 = .ok (.iconst 1, 1) := by decide +kernel
theorem dX6_addBox_131 : decode cX6_addBox 131 = .ok (.isub, 1) := by decide +kernel
theorem dX6_addBox_132 : decode cX6_addBox 132 = .ok (.ireturn, 1) := by decide +kernel
theorem dX6_boxes_0 : decode cX6_boxes 0 = .ok (.aload_n 0, 1) := by decide +kernel
theorem dX6_boxes_1 : decode cX6_boxes 1 = .ok (.iconst 0, 1) := by decide +kernel
theorem dX6_boxes_2 : decode cX6_boxes 2 = .ok (.putfield 48, 3) := by decide +kernel
theorem dX6_boxes_5 : decode cX6_boxes 5 = .ok (.aload_n 0, 1) := by decide +kernel
theorem dX6_boxes_6 : decode cX6_boxes 6 = .ok (.invokevirtual 116, 3) := by decide +kernel
theorem dX6_boxes_9 : decode cX6_boxes 9 = .ok (.ireturn, 1) := by decide +kernel
theorem dX6_isInYard_0 : decode cX6_isInYard 0 = .ok (.aload_n 0, 1) := by decide +kernel
theorem dX6_isInYard_1 : decode cX6_isInYard 1 = .ok (.iconst 0, 1) := by decide +kernel
theorem dX6_isInYard_2 : decode cX6_isInYard 2 = .ok (.putfield 48, 3) := by decide +kernel
theorem dX6_isInYard_5 : decode cX6_isInYard 5 = .ok (.aload_n 0, 1) := by decide +kernel
theorem dX6_isInYard_6 : decode cX6_isInYard 6 = .ok (.iload_n 1, 1) := by decide +kernel
theorem dX6_isInYard_7 : decode cX6_isInYard 7 = .ok (.invokevirtual 120, 3) := by decide +kernel
theorem dX6_isInYard_10 : decode cX6_isInYard 10 = .ok (.ireturn, 1) := by decide +kernel
theorem dX6_weight_0 : decode cX6_weight 0 = .ok (.aload_n 0, 1) := by decide +kernel
theorem dX6_weight_1 : decode cX6_weight 1 = .ok (.iconst 0, 1) := by decide +kernel
theorem dX6_weight_2 : decode cX6_weight 2 = .ok (.putfield 48, 3) := by decide +kernel
theorem dX6_weight_5 : decode cX6_weight 5 = .ok (.aload_n 0, 1) := by decide +kernel
theorem dX6_weight_6 : decode cX6_weight 6 = .ok (.iload_n 1, 1) := by decide +kernel
theorem dX6_weight_7 : decode cX6_weight 7 = .ok (.invokevirtual 120, 3) := by decide +kernel
theorem dX6_weight_10 : decode cX6_weight 10 = .ok (.ifCond .eq 12, 3) := by decide +kernel
theorem dX6_weight_13 : decode cX6_weight 13 = .ok (.aload_n 0, 1) := by decide +kernel
theorem dX6_weight_14 : decode cX6_weight 14 = .ok (.getfield 13, 3) := by decide +kernel
theorem dX6_weight_17 : decode cX6_weight 17 = .ok (.iload_n 1, 1) := by decide +kernel
theorem dX6_weight_18 : decode cX6_weight 18 = .ok (.iaload, 1) := by decide +kernel
theorem dX6_weight_19 : decode cX6_weight 19 = .ok (.goto 8, 3) := by decide +kernel
theorem dX6_weight_22 : decode cX6_weight 22 = .ok (.aload_n 0, 1) := by decide +kernel
theorem dX6_weight_23 : decode cX6_weight 23 = .ok (.iconst 1, 1) := by decide +kernel
theorem dX6_weight_24 : decode cX6_weight 24 = .ok (.invokevirtual 110, 3) := by decide +kernel
theorem dX6_weight_27 : decode cX6_weight 27 = .ok (.ireturn, 1) := by decide +kernel
theorem dX6_stackOf_0 : decode cX6_stackOf 0 = .ok (.aload_n 0, 1) := by decide +kernel
theorem dX6_stackOf_1 : decode cX6_stackOf 1 = .ok (.iconst 0, 1) := by decide +kernel
theorem dX6_stackOf_2 : decode cX6_stackOf 2 = .ok (.putfield 48, 3) := by decide +kernel
theorem dX6_stackOf_5 : decode cX6_stackOf 5 = .ok (.aload_n 0, 1) := by decide +kernel
theorem dX6_stackOf_6 : decode cX6_stackOf 6 = .ok (.iload_n 1, 1) := by decide +kernel
theorem dX6_stackOf_7 : decode cX6_stackOf 7 = .ok (.invokevirtual 120, 3) := by decide +kernel
theorem dX6_stackOf_10 : decode cX6_stackOf 10 = .ok (.ifCond .eq 12, 3) := by decide +kernel
theorem dX6_stackOf_13 : decode cX6_stackOf 13 = .ok (.aload_n 0, 1) := by decide +kernel
theorem dX6_stackOf_14 : decode cX6_stackOf 14 = .ok (.iconst 0, 1) := by decide +kernel
theorem dX6_stackOf_15 : decode cX6_stackOf 15 = .ok (.iload_n 1, 1) := by decide +kernel
theorem dX6_stackOf_16 : decode cX6_stackOf 16 = .ok (.invokevirtual 62, 3) := by decide +kernel
theorem dX6_stackOf_19 : decode cX6_stackOf 19 = .ok (.goto 8, 3) := by decide +kernel
theorem dX6_stackOf_22 : decode cX6_stackOf 22 = .ok (.aload_n 0, 1) := by decide +kernel
theorem dX6_stackOf_23 : decode cX6_stackOf 23 = .ok (.iconst 1, 1) := by decide +kernel
theorem dX6_stackOf_24 : decode cX6_stackOf 24 = .ok (.invokevirtual 110, 3) := by decide +kernel
theorem dX6_stackOf_27 : decode cX6_stackOf 27 = .ok (.ireturn, 1) := by decide +kernel
theorem dX6_level_0 : decode cX6_level 0 = .ok (.aload_n 0, 1) := by decide +kernel
theorem dX6_level_1 : decode cX6_level 1 = .ok (.iconst 0, 1) := by decide +kernel
theorem dX6_level_2 : decode cX6_level 2 = .ok (.putfield 48, 3) := by decide +kernel
theorem dX6_level_5 : decode cX6_level 5 = .ok (.aload_n 0, 1) := by decide +kernel
theorem dX6_level_6 : decode cX6_level 6 = .ok (.iload_n 1, 1) := by decide +kernel
theorem dX6_level_7 : decode cX6_level 7 = .ok (.invokevirtual 120, 3) := by decide +kernel
theorem dX6_level_10 : decode cX6_level 10 = .ok (.ifCond .eq 12, 3) := by decide +kernel
theorem dX6_level_13 : decode cX6_level 13 = .ok (.aload_n 0, 1) := by decide +kernel
theorem dX6_level_14 : decode cX6_level 14 = .ok (.iconst 0, 1) := by decide +kernel
theorem dX6_level_15 : decode cX6_level 15 = .ok (.iload_n 1, 1) := by decide +kernel
theorem dX6_level_16 : decode cX6_level 16 = .ok (.invokevirtual 98, 3) := by decide +kernel
theorem dX6_level_19 : decode cX6_level 19 = .ok (.goto 8, 3) := by decide +kernel
theorem dX6_level_22 : decode cX6_level 22 = .ok (.aload_n 0, 1) := by decide +kernel
theorem dX6_level_23 : decode cX6_level 23 = .ok (.iconst 1, 1) := by decide +kernel
theorem dX6_level_24 : decode cX6_level 24 = .ok (.invokevirtual 110, 3) := by decide +kernel
theorem dX6_level_27 : decode cX6_level 27 = .ok (.ireturn, 1) := by decide +kernel
theorem dX6_above_0 : decode cX6_above 0 = .ok (.aload_n 0, 1) := by decide +kernel
theorem dX6_above_1 : decode cX6_above 1 = .ok (.iconst 0, 1) := by decide +kernel
theorem dX6_above_2 : decode cX6_above 2 = .ok (.putfield 48, 3) := by decide +kernel
theorem dX6_above_5 : decode cX6_above 5 = .ok (.aload_n 0, 1) := by decide +kernel
theorem dX6_above_6 : decode cX6_above 6 = .ok (.iload_n 1, 1) := by decide +kernel
theorem dX6_above_7 : decode cX6_above 7 = .ok (.invokevirtual 120, 3) := by decide +kernel
theorem dX6_above_10 : decode cX6_above 10 = .ok (.ifCond .eq 11, 3) := by decide +kernel
theorem dX6_above_13 : decode cX6_above 13 = .ok (.aload_n 0, 1) := by decide +kernel
theorem dX6_above_14 : decode cX6_above 14 = .ok (.iload_n 1, 1) := by decide +kernel
theorem dX6_above_15 : decode cX6_above 15 = .ok (.invokevirtual 101, 3) := by decide +kernel
theorem dX6_above_18 : decode cX6_above 18 = .ok (.goto 8, 3) := by decide +kernel
theorem dX6_above_21 : decode cX6_above 21 = .ok (.aload_n 0, 1) := by decide +kernel
theorem dX6_above_22 : decode cX6_above 22 = .ok (.iconst 1, 1) := by decide +kernel
theorem dX6_above_23 : decode cX6_above 23 = .ok (.invokevirtual 110, 3) := by decide +kernel
theorem dX6_above_26 : decode cX6_above 26 = .ok (.ireturn, 1) := by decide +kernel
theorem dX6_height_0 : decode cX6_height 0 = .ok (.aload_n 0, 1) := by decide +kernel
theorem dX6_height_1 : decode cX6_height 1 = .ok (.iconst 0, 1) := by decide +kernel
theorem dX6_height_2 : decode cX6_height 2 = .ok (.putfield 48, 3) := by decide +kernel
theorem dX6_height_5 : decode cX6_height 5 = .ok (.aload_n 0, 1) := by decide +kernel
theorem dX6_height_6 : decode cX6_height 6 = .ok (.iload_n 1, 1) := by decide +kernel
theorem dX6_height_7 : decode cX6_height 7 = .ok (.invokevirtual 113, 3) := by decide +kernel
theorem dX6_height_10 : decode cX6_height 10 = .ok (.ifCond .eq 12, 3) := by decide +kernel
theorem dX6_height_13 : decode cX6_height 13 = .ok (.aload_n 0, 1) := by decide +kernel
theorem dX6_height_14 : decode cX6_height 14 = .ok (.getfield 27, 3) := by decide +kernel
theorem dX6_height_17 : decode cX6_height 17 = .ok (.iload_n 1, 1) := by decide +kernel
theorem dX6_height_18 : decode cX6_height 18 = .ok (.iaload, 1) := by decide +kernel
theorem dX6_height_19 : decode cX6_height 19 = .ok (.goto 8, 3) := by decide +kernel
theorem dX6_height_22 : decode cX6_height 22 = .ok (.aload_n 0, 1) := by decide +kernel
theorem dX6_height_23 : decode cX6_height 23 = .ok (.iconst 1, 1) := by decide +kernel
theorem dX6_height_24 : decode cX6_height 24 = .ok (.invokevirtual 110, 3) := by decide +kernel
theorem dX6_height_27 : decode cX6_height 27 = .ok (.ireturn, 1) := by decide +kernel
theorem dX6_boxAt_0 : decode cX6_boxAt 0 = .ok (.aload_n 0, 1) := by decide +kernel
theorem dX6_boxAt_1 : decode cX6_boxAt 1 = .ok (.iconst 0, 1) := by decide +kernel
theorem dX6_boxAt_2 : decode cX6_boxAt 2 = .ok (.putfield 48, 3) := by decide +kernel
theorem dX6_boxAt_5 : decode cX6_boxAt 5 = .ok (.aload_n 0, 1) := by decide +kernel
theorem dX6_boxAt_6 : decode cX6_boxAt 6 = .ok (.iload_n 1, 1) := by decide +kernel
theorem dX6_boxAt_7 : decode cX6_boxAt 7 = .ok (.invokevirtual 113, 3) := by decide +kernel
theorem dX6_boxAt_10 : decode cX6_boxAt 10 = .ok (.ifCond .ne 9, 3) := by decide +kernel
theorem dX6_boxAt_13 : decode cX6_boxAt 13 = .ok (.aload_n 0, 1) := by decide +kernel
theorem dX6_boxAt_14 : decode cX6_boxAt 14 = .ok (.iconst 1, 1) := by decide +kernel
theorem dX6_boxAt_15 : decode cX6_boxAt 15 = .ok (.invokevirtual 110, 3) := by decide +kernel
theorem dX6_boxAt_18 : decode cX6_boxAt 18 = .ok (.ireturn, 1) := by decide +kernel
theorem dX6_boxAt_19 : decode cX6_boxAt 19 = .ok (.iload_n 2, 1) := by decide +kernel
theorem dX6_boxAt_20 : decode cX6_boxAt 20 = .ok (.iconst 0, 1) := by decide +kernel
theorem dX6_boxAt_21 : decode cX6_boxAt 21 = .ok (.aload_n 0, 1) := by decide +kernel
theorem dX6_boxAt_22 : decode cX6_boxAt 22 = .ok (.getfield 27, 3) := by decide +kernel
theorem dX6_boxAt_25 : decode cX6_boxAt 25 = .ok (.iload_n 1, 1) := by decide +kernel
theorem dX6_boxAt_26 : decode cX6_boxAt 26 = .ok (.iaload, 1) := by decide +kernel
theorem dX6_boxAt_27 : decode cX6_boxAt 27 = .ok (.iconst 1, 1) := by decide +kernel
theorem dX6_boxAt_28 : decode cX6_boxAt 28 = .ok (.isub, 1) := by decide +kernel
theorem dX6_boxAt_29 : decode cX6_boxAt 29 = .ok (.invokestatic 55, 3) := by decide +kernel
theorem dX6_boxAt_32 : decode cX6_boxAt 32 = .ok (.ifCond .eq 16, 3) := by decide +kernel
theorem dX6_boxAt_35 : decode cX6_boxAt 35 = .ok (.aload_n 0, 1) := by decide +kernel
theorem dX6_boxAt_36 : decode cX6_boxAt 36 = .ok (.getfield 30, 3) := by decide +kernel
theorem dX6_boxAt_39 : decode cX6_boxAt 39 = .ok (.iconst 4, 1) := by decide +kernel
theorem dX6_boxAt_40 : decode cX6_boxAt 40 = .ok (.iload_n 1, 1) := by decide +kernel
theorem dX6_boxAt_41 : decode cX6_boxAt 41 = .ok (.imul, 1) := by decide +kernel
theorem dX6_boxAt_42 : decode cX6_boxAt 42 = .ok (.iload_n 2, 1) := by decide +kernel
theorem dX6_boxAt_43 : decode cX6_boxAt 43 = .ok (.iadd, 1) := by decide +kernel
theorem dX6_boxAt_44 : decode cX6_boxAt 44 = .ok (.iaload, 1) := by decide +kernel
theorem dX6_boxAt_45 : decode cX6_boxAt 45 = .ok (.goto 8, 3) := by decide +kernel
theorem dX6_boxAt_48 : decode cX6_boxAt 48 = .ok (.aload_n 0, 1) := by decide +kernel
theorem dX6_boxAt_49 : decode cX6_boxAt 49 = .ok (.iconst 2, 1) := by decide +kernel
theorem dX6_boxAt_50 : decode cX6_boxAt 50 = .ok (.invokevirtual 110, 3) := by decide +kernel
theorem dX6_boxAt_53 : decode cX6_boxAt 53 = .ok (.ireturn, 1) := by decide +kernel
theorem dX6_appointmentIn_0 : decode cX6_appointmentIn 0 = .ok (.iconst 0, 1) := by decide +kernel
theorem dX6_appointmentIn_1 : decode cX6_appointmentIn 1 = .ok (.istore_n 2, 1) := by decide +kernel
theorem dX6_appointmentIn_2 : decode cX6_appointmentIn 2 = .ok (.iload_n 2, 1) := by decide +kernel
theorem dX6_appointmentIn_3 : decode cX6_appointmentIn 3 = .ok (.aload_n 0, 1) := by decide +kernel
theorem dX6_appointmentIn_4 : decode cX6_appointmentIn 4 = .ok (.getfield 123, 3) := by decide +kernel
theorem dX6_appointmentIn_7 : decode cX6_appointmentIn 7 = .ok (.if_icmp .ge 32, 3) := by decide +kernel
theorem dX6_appointmentIn_10 : decode cX6_appointmentIn 10 = .ok (.aload_n 0, 1) := by decide +kernel
theorem dX6_appointmentIn_11 : decode cX6_appointmentIn 11 = .ok (.getfield 36, 3) := by decide +kernel
theorem dX6_appointmentIn_14 : decode cX6_appointmentIn 14 = .ok (.iload_n 2, 1) := by decide +kernel
theorem dX6_appointmentIn_15 : decode cX6_appointmentIn 15 = .ok (.iaload, 1) := by decide +kernel
theorem dX6_appointmentIn_16 : decode cX6_appointmentIn 16 = .ok (.iload_n 1, 1) := by decide +kernel
theorem dX6_appointmentIn_17 : decode cX6_appointmentIn 17 = .ok (.if_icmp .ne 16, 3) := by decide +kernel
theorem dX6_appointmentIn_20 : decode cX6_appointmentIn 20 = .ok (.aload_n 0, 1) := by decide +kernel
theorem dX6_appointmentIn_21 : decode cX6_appointmentIn 21 = .ok (.getfield 45, 3) := by decide +kernel
theorem dX6_appointmentIn_24 : decode cX6_appointmentIn 24 = .ok (.iload_n 2, 1) := by decide +kernel
theorem dX6_appointmentIn_25 : decode cX6_appointmentIn 25 = .ok (.caload, 1) := by decide +kernel
theorem dX6_appointmentIn_26 : decode cX6_appointmentIn 26 = .ok (.bipush 98, 2) := by decide +kernel
theorem dX6_appointmentIn_28 : decode cX6_appointmentIn 28 = .ok (.if_icmp .ne 5, 3) := by decide +kernel
theorem dX6_appointmentIn_31 : decode cX6_appointmentIn 31 = .ok (.iload_n 2, 1) := by decide +kernel
theorem dX6_appointmentIn_32 : decode cX6_appointmentIn 32 = .ok (.ireturn, 1) := by decide +kernel
theorem dX6_appointmentIn_33 : decode cX6_appointmentIn 33 = .ok (.iinc 2 1, 3) := by decide +kernel
theorem dX6_appointmentIn_36 : decode cX6_appointmentIn 36 = .ok (.goto (-34), 3) := by decide +kernel
theorem dX6_appointmentIn_39 : decode cX6_appointmentIn 39 = .ok (.iconst (-1), 1) := by decide +kernel
theorem dX6_appointmentIn_40 : decode cX6_appointmentIn 40 = .ok (.ireturn, 1) := by decide +kernel
theorem dX6_hold_0 : decode cX6_hold 0 = .ok (.aload_n 0, 1) := by decide +kernel
theorem dX6_hold_1 : decode cX6_hold 1 = .ok (.iconst 0, 1) := by decide +kernel
theorem dX6_hold_2 : decode cX6_hold 2 = .ok (.putfield 48, 3) := by decide +kernel
theorem dX6_hold_5 : decode cX6_hold 5 = .ok (.aload_n 0, 1) := by decide +kernel
theorem dX6_hold_6 : decode cX6_hold 6 = .ok (.iload_n 1, 1) := by decide +kernel
theorem dX6_hold_7 : decode cX6_hold 7 = .ok (.invokevirtual 120, 3) := by decide +kernel
theorem dX6_hold_10 : decode cX6_hold 10 = .ok (.ifCond .ne 9, 3) := by decide +kernel
theorem dX6_hold_13 : decode cX6_hold 13 = .ok (.aload_n 0, 1) := by decide +kernel
theorem dX6_hold_14 : decode cX6_hold 14 = .ok (.iconst 1, 1) := by decide +kernel
theorem dX6_hold_15 : decode cX6_hold 15 = .ok (.invokevirtual 110, 3) := by decide +kernel
theorem dX6_hold_18 : decode cX6_hold 18 = .ok (.ireturn, 1) := by decide +kernel
theorem dX6_hold_19 : decode cX6_hold 19 = .ok (.iload_n 2, 1) := by decide +kernel
theorem dX6_hold_20 : decode cX6_hold 20 = .ok (.bipush 112, 2) := by decide +kernel
theorem dX6_hold_22 : decode cX6_hold 22 = .ok (.if_icmp .eq 9, 3) := by decide +kernel
theorem dX6_hold_25 : decode cX6_hold 25 = .ok (.iload_n 2, 1) := by decide +kernel
theorem dX6_hold_26 : decode cX6_hold 26 = .ok (.bipush 108, 2) := by decide +kernel
theorem dX6_hold_28 : decode cX6_hold 28 = .ok (.if_icmp .ne 19, 3) := by decide +kernel
theorem dX6_hold_31 : decode cX6_hold 31 = .ok (.iload_n 3, 1) := by decide +kernel
theorem dX6_hold_32 : decode cX6_hold 32 = .ok (.aload_n 0, 1) := by decide +kernel
theorem dX6_hold_33 : decode cX6_hold 33 = .ok (.getfield 126, 3) := by decide +kernel
theorem dX6_hold_36 : decode cX6_hold 36 = .ok (.iconst 1, 1) := by decide +kernel
theorem dX6_hold_37 : decode cX6_hold 37 = .ok (.iadd, 1) := by decide +kernel
theorem dX6_hold_38 : decode cX6_hold 38 = .ok (.sipush 1000, 3) := by decide +kernel
theorem dX6_hold_41 : decode cX6_hold 41 = .ok (.invokestatic 55, 3) := by decide +kernel
theorem dX6_hold_44 : decode cX6_hold 44 = .ok (.ifCond .ne 9, 3) := by decide +kernel
theorem dX6_hold_47 : decode cX6_hold 47 = .ok (.aload_n 0, 1) := by decide +kernel
theorem dX6_hold_48 : decode cX6_hold 48 = .ok (.iconst 2, 1) := by decide +kernel
theorem dX6_hold_49 : decode cX6_hold 49 = .ok (.invokevirtual 110, 3) := by decide +kernel
theorem dX6_hold_52 : decode cX6_hold 52 = .ok (.ireturn, 1) := by decide +kernel
theorem dX6_hold_53 : decode cX6_hold 53 = .ok (.aload_n 0, 1) := by decide +kernel
theorem dX6_hold_54 : decode cX6_hold 54 = .ok (.getfield 20, 3) := by decide +kernel
theorem dX6_hold_57 : decode cX6_hold 57 = .ok (.iload_n 1, 1) := by decide +kernel
theorem dX6_hold_58 : decode cX6_hold 58 = .ok (.iload_n 2, 1) := by decide +kernel
theorem dX6_hold_59 : decode cX6_hold 59 = .ok (.castore, 1) := by decide +kernel
theorem dX6_hold_60 : decode cX6_hold 60 = .ok (.aload_n 0, 1) := by decide +kernel
theorem dX6_hold_61 : decode cX6_hold 61 = .ok (.getfield 24, 3) := by decide +kernel
theorem dX6_hold_64 : decode cX6_hold 64 = .ok (.iload_n 1, 1) := by decide +kernel
theorem dX6_hold_65 : decode cX6_hold 65 = .ok (.iload_n 3, 1) := by decide +kernel
theorem dX6_hold_66 : decode cX6_hold 66 = .ok (.iastore, 1) := by decide +kernel
theorem dX6_hold_67 : decode cX6_hold 67 = .ok (.aload_n 0, 1) := by decide +kernel
theorem dX6_hold_68 : decode cX6_hold 68 = .ok (.iload_n 1, 1) := by decide +kernel
theorem dX6_hold_69 : decode cX6_hold 69 = .ok (.invokevirtual 129, 3) := by decide +kernel
theorem dX6_hold_72 : decode cX6_hold 72 = .ok (.istore 4, 2) := by decide +kernel
theorem dX6_hold_74 : decode cX6_hold 74 = .ok (.iload 4, 2) := by decide +kernel
theorem dX6_hold_76 : decode cX6_hold 76 = .ok (.iconst (-1), 1) := by decide +kernel
theorem dX6_hold_77 : decode cX6_hold 77 = .ok (.if_icmp .eq 14, 3) := by decide +kernel
theorem dX6_hold_80 : decode cX6_hold 80 = .ok (.aload_n 0, 1) := by decide +kernel
theorem dX6_hold_81 : decode cX6_hold 81 = .ok (.getfield 39, 3) := by decide +kernel
theorem dX6_hold_84 : decode cX6_hold 84 = .ok (.iload 4, 2) := by decide +kernel
theorem dX6_hold_86 : decode cX6_hold 86 = .ok (.iaload, 1) := by decide +kernel
theorem dX6_hold_87 : decode cX6_hold 87 = .ok (.iload_n 3, 1) := by decide +kernel
theorem dX6_hold_88 : decode cX6_hold 88 = .ok (.if_icmp .lt 5, 3) := by decide +kernel
theorem dX6_hold_91 : decode cX6_hold 91 = .ok (.iconst 0, 1) := by decide +kernel
theorem dX6_hold_92 : decode cX6_hold 92 = .ok (.ireturn, 1) := by decide +kernel
theorem dX6_hold_93 : decode cX6_hold 93 = .ok (.aload_n 0, 1) := by decide +kernel
theorem dX6_hold_94 : decode cX6_hold 94 = .ok (.getfield 45, 3) := by decide +kernel
theorem dX6_hold_97 : decode cX6_hold 97 = .ok (.iload 4, 2) := by decide +kernel
theorem dX6_hold_99 : decode cX6_hold 99 = .ok (.bipush 103, 2) := by decide +kernel
theorem dX6_hold_101 : decode cX6_hold 101 = .ok (.castore, 1) := by decide +kernel
theorem dX6_hold_102 : decode cX6_hold 102 = .ok (.iconst 1, 1) := by decide +kernel
theorem dX6_hold_103 : decode cX6_hold 103 = .ok (.ireturn, 1) := by decide +kernel
theorem dX6_release_0 : decode cX6_release 0 = .ok (.aload_n 0, 1) := by decide +kernel
theorem dX6_release_1 : decode cX6_release 1 = .ok (.iconst 0, 1) := by decide +kernel
theorem dX6_release_2 : decode cX6_release 2 = .ok (.putfield 48, 3) := by decide +kernel
theorem dX6_release_5 : decode cX6_release 5 = .ok (.aload_n 0, 1) := by decide +kernel
theorem dX6_release_6 : decode cX6_release 6 = .ok (.iload_n 1, 1) := by decide +kernel
theorem dX6_release_7 : decode cX6_release 7 = .ok (.invokevirtual 120, 3) := by decide +kernel
theorem dX6_release_10 : decode cX6_release 10 = .ok (.ifCond .ne 9, 3) := by decide +kernel
theorem dX6_release_13 : decode cX6_release 13 = .ok (.aload_n 0, 1) := by decide +kernel
theorem dX6_release_14 : decode cX6_release 14 = .ok (.iconst 1, 1) := by decide +kernel
theorem dX6_release_15 : decode cX6_release 15 = .ok (.invokevirtual 110, 3) := by decide +kernel
theorem dX6_release_18 : decode cX6_release 18 = .ok (.ireturn, 1) := by decide +kernel
theorem dX6_release_19 : decode cX6_release 19 = .ok (.aload_n 0, 1) := by decide +kernel
theorem dX6_release_20 : decode cX6_release 20 = .ok (.getfield 20, 3) := by decide +kernel
theorem dX6_release_23 : decode cX6_release 23 = .ok (.iload_n 1, 1) := by decide +kernel
theorem dX6_release_24 : decode cX6_release 24 = .ok (.caload, 1) := by decide +kernel
theorem dX6_release_25 : decode cX6_release 25 = .ok (.bipush 45, 2) := by decide +kernel
theorem dX6_release_27 : decode cX6_release 27 = .ok (.if_icmp .ne 9, 3) := by decide +kernel
theorem dX6_release_30 : decode cX6_release 30 = .ok (.aload_n 0, 1) := by decide +kernel
theorem dX6_release_31 : decode cX6_release 31 = .ok (.iconst 2, 1) := by decide +kernel
theorem dX6_release_32 : decode cX6_release 32 = .ok (.invokevirtual 110, 3) := by decide +kernel
theorem dX6_release_35 : decode cX6_release 35 = .ok (.ireturn, 1) := by decide +kernel
theorem dX6_release_36 : decode cX6_release 36 = .ok (.aload_n 0, 1) := by decide +kernel
theorem dX6_release_37 : decode cX6_release 37 = .ok (.getfield 20, 3) := by decide +kernel
theorem dX6_release_40 : decode cX6_release 40 = .ok (.iload_n 1, 1) := by decide +kernel
theorem dX6_release_41 : decode cX6_release 41 = .ok (.bipush 45, 2) := by decide +kernel
theorem dX6_release_43 : decode cX6_release 43 = .ok (.castore, 1) := by decide +kernel
theorem dX6_release_44 : decode cX6_release 44 = .ok (.aload_n 0, 1) := by decide +kernel
theorem dX6_release_45 : decode cX6_release 45 = .ok (.getfield 24, 3) := by decide +kernel
theorem dX6_release_48 : decode cX6_release 48 = .ok (.iload_n 1, 1) := by decide +kernel
theorem dX6_release_49 : decode cX6_release 49 = .ok (.iaload, 1) := by decide +kernel
theorem dX6_release_50 : decode cX6_release 50 = .ok (.ireturn, 1) := by decide +kernel
theorem dX6_holdOf_0 : decode cX6_holdOf 0 = .ok (.aload_n 0, 1) := by decide +kernel
theorem dX6_holdOf_1 : decode cX6_holdOf 1 = .ok (.aload_n 0, 1) := by decide +kernel
theorem dX6_holdOf_2 : decode cX6_holdOf 2 = .ok (.iload_n 1, 1) := by decide +kernel
theorem dX6_holdOf_3 : decode cX6_holdOf 3 = .ok (.invokevirtual 120, 3) := by decide +kernel
theorem dX6_holdOf_6 : decode cX6_holdOf 6 = .ok (.ifCond .eq 7, 3) := by decide +kernel
theorem dX6_holdOf_9 : decode cX6_holdOf 9 = .ok (.iconst 0, 1) := by decide +kernel
theorem dX6_holdOf_10 : decode cX6_holdOf 10 = .ok (.goto 4, 3) := by decide +kernel
theorem dX6_holdOf_13 : decode cX6_holdOf 13 = .ok (.iconst 1, 1) := by decide +kernel
theorem dX6_holdOf_14 : decode cX6_holdOf 14 = .ok (.putfield 48, 3) := by decide +kernel
theorem dX6_holdOf_17 : decode cX6_holdOf 17 = .ok (.aload_n 0, 1) := by decide +kernel
theorem dX6_holdOf_18 : decode cX6_holdOf 18 = .ok (.getfield 48, 3) := by decide +kernel
theorem dX6_holdOf_21 : decode cX6_holdOf 21 = .ok (.ifCond .le 7, 3) := by decide +kernel
theorem dX6_holdOf_24 : decode cX6_holdOf 24 = .ok (.iconst 0, 1) := by decide +kernel
theorem dX6_holdOf_25 : decode cX6_holdOf 25 = .ok (.goto 9, 3) := by decide +kernel
theorem dX6_holdOf_28 : decode cX6_holdOf 28 = .ok (.aload_n 0, 1) := by decide +kernel
theorem dX6_holdOf_29 : decode cX6_holdOf 29 = .ok (.getfield 20, 3) := by decide +kernel
theorem dX6_holdOf_32 : decode cX6_holdOf 32 = .ok (.iload_n 1, 1) := by decide +kernel
theorem dX6_holdOf_33 : decode cX6_holdOf 33 = .ok (.caload, 1) := by decide +kernel
theorem dX6_holdOf_34 : decode cX6_holdOf 34 = .ok (.ireturn, 1) := by decide +kernel
theorem dX6_heldUntil_0 : decode cX6_heldUntil 0 = .ok (.aload_n 0, 1) := by decide +kernel
theorem dX6_heldUntil_1 : decode cX6_heldUntil 1 = .ok (.iconst 0, 1) := by decide +kernel
theorem dX6_heldUntil_2 : decode cX6_heldUntil 2 = .ok (.putfield 48, 3) := by decide +kernel
theorem dX6_heldUntil_5 : decode cX6_heldUntil 5 = .ok (.aload_n 0, 1) := by decide +kernel
theorem dX6_heldUntil_6 : decode cX6_heldUntil 6 = .ok (.iload_n 1, 1) := by decide +kernel
theorem dX6_heldUntil_7 : decode cX6_heldUntil 7 = .ok (.invokevirtual 120, 3) := by decide +kernel
theorem dX6_heldUntil_10 : decode cX6_heldUntil 10 = .ok (.ifCond .ne 9, 3) := by decide +kernel
theorem dX6_heldUntil_13 : decode cX6_heldUntil 13 = .ok (.aload_n 0, 1) := by decide +kernel
theorem dX6_heldUntil_14 : decode cX6_heldUntil 14 = .ok (.iconst 1, 1) := by decide +kernel
theorem dX6_heldUntil_15 : decode cX6_heldUntil 15 = .ok (.invokevirtual 110, 3) := by decide +kernel
theorem dX6_heldUntil_18 : decode cX6_heldUntil 18 = .ok (.ireturn, 1) := by decide +kernel
theorem dX6_heldUntil_19 : decode cX6_heldUntil 19 = .ok (.aload_n 0, 1) := by decide +kernel
theorem dX6_heldUntil_20 : decode cX6_heldUntil 20 = .ok (.getfield 20, 3) := by decide +kernel
theorem dX6_heldUntil_23 : decode cX6_heldUntil 23 = .ok (.iload_n 1, 1) := by decide +kernel
theorem dX6_heldUntil_24 : decode cX6_heldUntil 24 = .ok (.caload, 1) := by decide +kernel
theorem dX6_heldUntil_25 : decode cX6_heldUntil 25 = .ok (.bipush 45, 2) := by decide +kernel
theorem dX6_heldUntil_27 : decode cX6_heldUntil 27 = .ok (.if_icmp .ne 11, 3) := by decide +kernel
theorem dX6_heldUntil_30 : decode cX6_heldUntil 30 = .ok (.aload_n 0, 1) := by decide +kernel
theorem dX6_heldUntil_31 : decode cX6_heldUntil 31 = .ok (.iconst 2, 1) := by decide +kernel
theorem dX6_heldUntil_32 : decode cX6_heldUntil 32 = .ok (.invokevirtual 110, 3) := by decide +kernel
theorem dX6_heldUntil_35 : decode cX6_heldUntil 35 = .ok (.goto 9, 3) := by decide +kernel
theorem dX6_heldUntil_38 : decode cX6_heldUntil 38 = .ok (.aload_n 0, 1) := by decide +kernel
theorem dX6_heldUntil_39 : decode cX6_heldUntil 39 = .ok (.getfield 24, 3) := by decide +kernel
theorem dX6_heldUntil_42 : decode cX6_heldUntil 42 = .ok (.iload_n 1, 1) := by decide +kernel
theorem dX6_heldUntil_43 : decode cX6_heldUntil 43 = .ok (.iaload, 1) := by decide +kernel
theorem dX6_heldUntil_44 : decode cX6_heldUntil 44 = .ok (.ireturn, 1) := by decide +kernel
theorem dX6_pinnedAbove_0 : decode cX6_pinnedAbove 0 = .ok (.aload_n 0, 1) := by decide +kernel
theorem dX6_pinnedAbove_1 : decode cX6_pinnedAbove 1 = .ok (.iconst 0, 1) := by decide +kernel
theorem dX6_pinnedAbove_2 : decode cX6_pinnedAbove 2 = .ok (.putfield 48, 3) := by decide +kernel
theorem dX6_pinnedAbove_5 : decode cX6_pinnedAbove 5 = .ok (.aload_n 0, 1) := by decide +kernel
theorem dX6_pinnedAbove_6 : decode cX6_pinnedAbove 6 = .ok (.iload_n 1, 1) := by decide +kernel
theorem dX6_pinnedAbove_7 : decode cX6_pinnedAbove 7 = .ok (.invokevirtual 120, 3) := by decide +kernel
theorem dX6_pinnedAbove_10 : decode cX6_pinnedAbove 10 = .ok (.ifCond .ne 9, 3) := by decide +kernel
theorem dX6_pinnedAbove_13 : decode cX6_pinnedAbove 13 = .ok (.aload_n 0, 1) := by decide +kernel
theorem dX6_pinnedAbove_14 : decode cX6_pinnedAbove 14 = .ok (.iconst 1, 1) := by decide +kernel
theorem dX6_pinnedAbove_15 : decode cX6_pinnedAbove 15 = .ok (.invokevirtual 110, 3) := by decide +kernel
theorem dX6_pinnedAbove_18 : decode cX6_pinnedAbove 18 = .ok (.ireturn, 1) := by decide +kernel
theorem dX6_pinnedAbove_19 : decode cX6_pinnedAbove 19 = .ok (.aload_n 0, 1) := by decide +kernel
theorem dX6_pinnedAbove_20 : decode cX6_pinnedAbove 20 = .ok (.iconst 0, 1) := by decide +kernel
theorem dX6_pinnedAbove_21 : decode cX6_pinnedAbove 21 = .ok (.iload_n 1, 1) := by decide +kernel
theorem dX6_pinnedAbove_22 : decode cX6_pinnedAbove 22 = .ok (.invokevirtual 62, 3) := by decide +kernel
theorem dX6_pinnedAbove_25 : decode cX6_pinnedAbove 25 = .ok (.istore_n 2, 1) := by decide +kernel
theorem dX6_pinnedAbove_26 : decode cX6_pinnedAbove 26 = .ok (.iconst 0, 1) := by decide +kernel
theorem dX6_pinnedAbove_27 : decode cX6_pinnedAbove 27 = .ok (.istore_n 3, 1) := by decide +kernel
theorem dX6_pinnedAbove_28 : decode cX6_pinnedAbove 28 = .ok (.aload_n 0, 1) := by decide +kernel
theorem dX6_pinnedAbove_29 : decode cX6_pinnedAbove 29 = .ok (.iconst 0, 1) := by decide +kernel
theorem dX6_pinnedAbove_30 : decode cX6_pinnedAbove 30 = .ok (.iload_n 1, 1) := by decide +kernel
theorem dX6_pinnedAbove_31 : decode cX6_pinnedAbove 31 = .ok (.invokevirtual 98, 3) := by decide +kernel
theorem dX6_pinnedAbove_34 : decode cX6_pinnedAbove 34 = .ok (.iconst 1, 1) := by decide +kernel
theorem dX6_pinnedAbove_35 : decode cX6_pinnedAbove 35 = .ok (.iadd, 1) := by decide +kernel
theorem dX6_pinnedAbove_36 : decode cX6_pinnedAbove 36 = .ok (.istore 4, 2) := by decide +kernel
theorem dX6_pinnedAbove_38 : decode cX6_pinnedAbove 38 = .ok (.iload 4, 2) := by decide +kernel
theorem dX6_pinnedAbove_40 : decode cX6_pinnedAbove 40 = .ok (.aload_n 0, 1) := by decide +kernel
theorem dX6_pinnedAbove_41 : decode cX6_pinnedAbove 41 = .ok (.getfield 27, 3) := by decide +kernel
theorem dX6_pinnedAbove_44 : decode cX6_pinnedAbove 44 = .ok (.iload_n 2, 1) := by decide +kernel
theorem dX6_pinnedAbove_45 : decode cX6_pinnedAbove 45 = .ok (.iaload, 1) := by decide +kernel
theorem dX6_pinnedAbove_46 : decode cX6_pinnedAbove 46 = .ok (.if_icmp .ge 35, 3) := by decide +kernel
theorem dX6_pinnedAbove_49 : decode cX6_pinnedAbove 49 = .ok (.iload_n 3, 1) := by decide +kernel
theorem dX6_pinnedAbove_50 : decode cX6_pinnedAbove 50 = .ok (.aload_n 0, 1) := by decide +kernel
theorem dX6_pinnedAbove_51 : decode cX6_pinnedAbove 51 = .ok (.aload_n 0, 1) := by decide +kernel
theorem dX6_pinnedAbove_52 : decode cX6_pinnedAbove 52 = .ok (.getfield 30, 3) := by decide +kernel
theorem dX6_pinnedAbove_55 : decode cX6_pinnedAbove 55 = .ok (.iconst 4, 1) := by decide +kernel
theorem dX6_pinnedAbove_56 : decode cX6_pinnedAbove 56 = .ok (.iload_n 2, 1) := by decide +kernel
theorem dX6_pinnedAbove_57 : decode cX6_pinnedAbove 57 = .ok (.imul, 1) := by decide +kernel
theorem dX6_pinnedAbove_58 : decode cX6_pinnedAbove 58 = .ok (.iload 4, 2) := by decide +kernel
theorem dX6_pinnedAbove_60 : decode cX6_pinnedAbove 60 = .ok (.iadd, 1) := by decide +kernel
theorem dX6_pinnedAbove_61 : decode cX6_pinnedAbove 61 = .ok (.iaload, 1) := by decide +kernel
theorem dX6_pinnedAbove_62 : decode cX6_pinnedAbove 62 = .ok (.invokevirtual 73, 3) := by decide +kernel
theorem dX6_pinnedAbove_65 : decode cX6_pinnedAbove 65 = .ok (.ifCond .eq 7, 3) := by decide +kernel
theorem dX6_pinnedAbove_68 : decode cX6_pinnedAbove 68 = .ok (.iconst 1, 1) := by decide +kernel
theorem dX6_pinnedAbove_69 : decode cX6_pinnedAbove 69 = .ok (.goto 4, 3) := by decide +kernel
theorem dX6_pinnedAbove_72 : decode cX6_pinnedAbove 72 = .ok (.iconst 0, 1) := by decide +kernel
theorem dX6_pinnedAbove_73 : decode cX6_pinnedAbove 73 = .ok (.iadd, 1) := by decide +kernel
theorem dX6_pinnedAbove_74 : decode cX6_pinnedAbove 74 = .ok (.istore_n 3, 1) := by decide +kernel
theorem dX6_pinnedAbove_75 : decode cX6_pinnedAbove 75 = .ok (.iinc 4 1, 3) := by decide +kernel
theorem dX6_pinnedAbove_78 : decode cX6_pinnedAbove 78 = .ok (.goto (-40), 3) := by decide +kernel
theorem dX6_pinnedAbove_81 : decode cX6_pinnedAbove 81 = .ok (.iload_n 3, 1) := by decide +kernel
theorem dX6_pinnedAbove_82 : decode cX6_pinnedAbove 82 = .ok (.ireturn, 1) := by decide +kernel
theorem dX6_why_0 : decode cX6_why 0 = .ok (.aload_n 0, 1) := by decide +kernel
theorem dX6_why_1 : decode cX6_why 1 = .ok (.aload_n 0, 1) := by decide +kernel
theorem dX6_why_2 : decode cX6_why 2 = .ok (.iload_n 1, 1) := by decide +kernel
theorem dX6_why_3 : decode cX6_why 3 = .ok (.invokevirtual 120, 3) := by decide +kernel
theorem dX6_why_6 : decode cX6_why 6 = .ok (.ifCond .eq 15, 3) := by decide +kernel
theorem dX6_why_9 : decode cX6_why 9 = .ok (.aload_n 0, 1) := by decide +kernel
theorem dX6_why_10 : decode cX6_why 10 = .ok (.iload_n 2, 1) := by decide +kernel
theorem dX6_why_11 : decode cX6_why 11 = .ok (.invokevirtual 113, 3) := by decide +kernel
theorem dX6_why_14 : decode cX6_why 14 = .ok (.ifCond .eq 7, 3) := by decide +kernel
theorem dX6_why_17 : decode cX6_why 17 = .ok (.iconst 0, 1) := by decide +kernel
theorem dX6_why_18 : decode cX6_why 18 = .ok (.goto 4, 3) := by decide +kernel
theorem dX6_why_21 : decode cX6_why 21 = .ok (.iconst 1, 1) := by decide +kernel
theorem dX6_why_22 : decode cX6_why 22 = .ok (.putfield 48, 3) := by decide +kernel
theorem dX6_why_25 : decode cX6_why 25 = .ok (.aload_n 0, 1) := by decide +kernel
theorem dX6_why_26 : decode cX6_why 26 = .ok (.getfield 48, 3) := by decide +kernel
theorem dX6_why_29 : decode cX6_why 29 = .ok (.ifCond .le 5, 3) := by decide +kernel
theorem dX6_why_32 : decode cX6_why 32 = .ok (.iconst 0, 1) := by decide +kernel
theorem dX6_why_33 : decode cX6_why 33 = .ok (.ireturn, 1) := by decide +kernel
theorem dX6_why_34 : decode cX6_why 34 = .ok (.aload_n 0, 1) := by decide +kernel
theorem dX6_why_35 : decode cX6_why 35 = .ok (.getfield 27, 3) := by decide +kernel
theorem dX6_why_38 : decode cX6_why 38 = .ok (.iload_n 2, 1) := by decide +kernel
theorem dX6_why_39 : decode cX6_why 39 = .ok (.iaload, 1) := by decide +kernel
theorem dX6_why_40 : decode cX6_why 40 = .ok (.aload_n 0, 1) := by decide +kernel
theorem dX6_why_41 : decode cX6_why 41 = .ok (.getfield 7, 3) := by decide +kernel
theorem dX6_why_44 : decode cX6_why 44 = .ok (.iload_n 2, 1) := by decide +kernel
theorem dX6_why_45 : decode cX6_why 45 = .ok (.iaload, 1) := by decide +kernel
theorem dX6_why_46 : decode cX6_why 46 = .ok (.if_icmp .ne 7, 3) := by decide +kernel
theorem dX6_why_49 : decode cX6_why 49 = .ok (.iconst 1, 1) := by decide +kernel
theorem dX6_why_50 : decode cX6_why 50 = .ok (.goto 4, 3) := by decide +kernel
theorem dX6_why_53 : decode cX6_why 53 = .ok (.iconst 0, 1) := by decide +kernel
theorem dX6_why_54 : decode cX6_why 54 = .ok (.istore_n 3, 1) := by decide +kernel
theorem dX6_why_55 : decode cX6_why 55 = .ok (.aload_n 0, 1) := by decide +kernel
theorem dX6_why_56 : decode cX6_why 56 = .ok (.iconst 0, 1) := by decide +kernel
theorem dX6_why_57 : decode cX6_why 57 = .ok (.iload_n 1, 1) := by decide +kernel
theorem dX6_why_58 : decode cX6_why 58 = .ok (.invokevirtual 69, 3) := by decide +kernel
theorem dX6_why_61 : decode cX6_why 61 = .ok (.ifCond .ne 8, 3) := by decide +kernel
theorem dX6_why_64 : decode cX6_why 64 = .ok (.bipush 116, 2) := by decide +kernel
theorem dX6_why_66 : decode cX6_why 66 = .ok (.goto 62, 3) := by decide +kernel
theorem dX6_why_69 : decode cX6_why 69 = .ok (.aload_n 0, 1) := by decide +kernel
theorem dX6_why_70 : decode cX6_why 70 = .ok (.iload_n 1, 1) := by decide +kernel
theorem dX6_why_71 : decode cX6_why 71 = .ok (.invokevirtual 73, 3) := by decide +kernel
theorem dX6_why_74 : decode cX6_why 74 = .ok (.ifCond .eq 8, 3) := by decide +kernel
theorem dX6_why_77 : decode cX6_why 77 = .ok (.bipush 112, 2) := by decide +kernel
theorem dX6_why_79 : decode cX6_why 79 = .ok (.goto 49, 3) := by decide +kernel
theorem dX6_why_82 : decode cX6_why 82 = .ok (.aload_n 0, 1) := by decide +kernel
theorem dX6_why_83 : decode cX6_why 83 = .ok (.iconst 0, 1) := by decide +kernel
theorem dX6_why_84 : decode cX6_why 84 = .ok (.iload_n 1, 1) := by decide +kernel
theorem dX6_why_85 : decode cX6_why 85 = .ok (.invokevirtual 62, 3) := by decide +kernel
theorem dX6_why_88 : decode cX6_why 88 = .ok (.iload_n 2, 1) := by decide +kernel
theorem dX6_why_89 : decode cX6_why 89 = .ok (.if_icmp .ne 8, 3) := by decide +kernel
theorem dX6_why_92 : decode cX6_why 92 = .ok (.bipush 115, 2) := by decide +kernel
theorem dX6_why_94 : decode cX6_why 94 = .ok (.goto 34, 3) := by decide +kernel
theorem dX6_why_97 : decode cX6_why 97 = .ok (.iload_n 3, 1) := by decide +kernel
theorem dX6_why_98 : decode cX6_why 98 = .ok (.ifCond .eq 8, 3) := by decide +kernel
theorem dX6_why_101 : decode cX6_why 101 = .ok (.bipush 102, 2) := by decide +kernel
theorem dX6_why_103 : decode cX6_why 103 = .ok (.goto 25, 3) := by decide +kernel
theorem dX6_why_106 : decode cX6_why 106 = .ok (.aload_n 0, 1) := by decide +kernel
theorem dX6_why_107 : decode cX6_why 107 = .ok (.iconst 0, 1) := by decide +kernel
theorem dX6_why_108 : decode cX6_why 108 = .ok (.iload_n 2, 1) := by decide +kernel
theorem dX6_why_109 : decode cX6_why 109 = .ok (.aload_n 0, 1) := by decide +kernel
theorem dX6_why_110 : decode cX6_why 110 = .ok (.getfield 13, 3) := by decide +kernel
theorem dX6_why_113 : decode cX6_why 113 = .ok (.iload_n 1, 1) := by decide +kernel
theorem dX6_why_114 : decode cX6_why 114 = .ok (.iaload, 1) := by decide +kernel
theorem dX6_why_115 : decode cX6_why 115 = .ok (.invokevirtual 77, 3) := by decide +kernel
theorem dX6_why_118 : decode cX6_why 118 = .ok (.ifCond .eq 8, 3) := by decide +kernel
theorem dX6_why_121 : decode cX6_why 121 = .ok (.bipush 45, 2) := by decide +kernel
theorem dX6_why_123 : decode cX6_why 123 = .ok (.goto 5, 3) := by decide +kernel
theorem dX6_why_126 : decode cX6_why 126 = .ok (.bipush 119, 2) := by decide +kernel
theorem dX6_why_128 : decode cX6_why 128 = .ok (.ireturn, 1) := by decide +kernel
theorem dX6_move_0 : decode cX6_move 0 = .ok (.aload_n 0, 1) := by decide +kernel
theorem dX6_move_1 : decode cX6_move 1 = .ok (.iconst 0, 1) := by decide +kernel
theorem dX6_move_2 : decode cX6_move 2 = .ok (.putfield 48, 3) := by decide +kernel
theorem dX6_move_5 : decode cX6_move 5 = .ok (.aload_n 0, 1) := by decide +kernel
theorem dX6_move_6 : decode cX6_move 6 = .ok (.iload_n 1, 1) := by decide +kernel
theorem dX6_move_7 : decode cX6_move 7 = .ok (.invokevirtual 120, 3) := by decide +kernel
theorem dX6_move_10 : decode cX6_move 10 = .ok (.ifCond .eq 11, 3) := by decide +kernel
theorem dX6_move_13 : decode cX6_move 13 = .ok (.aload_n 0, 1) := by decide +kernel
theorem dX6_move_14 : decode cX6_move 14 = .ok (.iload_n 2, 1) := by decide +kernel
theorem dX6_move_15 : decode cX6_move 15 = .ok (.invokevirtual 113, 3) := by decide +kernel
theorem dX6_move_18 : decode cX6_move 18 = .ok (.ifCond .ne 9, 3) := by decide +kernel
theorem dX6_move_21 : decode cX6_move 21 = .ok (.aload_n 0, 1) := by decide +kernel
theorem dX6_move_22 : decode cX6_move 22 = .ok (.iconst 1, 1) := by decide +kernel
theorem dX6_move_23 : decode cX6_move 23 = .ok (.invokevirtual 110, 3) := by decide +kernel
theorem dX6_move_26 : decode cX6_move 26 = .ok (.ireturn, 1) := by decide +kernel
theorem dX6_move_27 : decode cX6_move 27 = .ok (.aload_n 0, 1) := by decide +kernel
theorem dX6_move_28 : decode cX6_move 28 = .ok (.iconst 0, 1) := by decide +kernel
theorem dX6_move_29 : decode cX6_move 29 = .ok (.iload_n 1, 1) := by decide +kernel
theorem dX6_move_30 : decode cX6_move 30 = .ok (.iload_n 2, 1) := by decide +kernel
theorem dX6_move_31 : decode cX6_move 31 = .ok (.invokevirtual 84, 3) := by decide +kernel
theorem dX6_move_34 : decode cX6_move 34 = .ok (.ifCond .ne 9, 3) := by decide +kernel
theorem dX6_move_37 : decode cX6_move 37 = .ok (.aload_n 0, 1) := by decide +kernel
theorem dX6_move_38 : decode cX6_move 38 = .ok (.iconst 2, 1) := by decide +kernel
theorem dX6_move_39 : decode cX6_move 39 = .ok (.invokevirtual 110, 3) := by decide +kernel
theorem dX6_move_42 : decode cX6_move 42 = .ok (.ireturn, 1) := by decide +kernel
theorem dX6_move_43 : decode cX6_move 43 = .ok (.aload_n 0, 1) := by decide +kernel
theorem dX6_move_44 : decode cX6_move 44 = .ok (.iconst 0, 1) := by decide +kernel
theorem dX6_move_45 : decode cX6_move 45 = .ok (.iload_n 1, 1) := by decide +kernel
theorem dX6_move_46 : decode cX6_move 46 = .ok (.iload_n 2, 1) := by decide +kernel
theorem dX6_move_47 : decode cX6_move 47 = .ok (.invokevirtual 95, 3) := by decide +kernel
theorem dX6_move_50 : decode cX6_move 50 = .ok (.aload_n 0, 1) := by decide +kernel
theorem dX6_move_51 : decode cX6_move 51 = .ok (.dup, 1) := by decide +kernel
theorem dX6_move_52 : decode cX6_move 52 = .ok (.getfield 108, 3) := by decide +kernel
theorem dX6_move_55 : decode cX6_move 55 = .ok (.iconst 1, 1) := by decide +kernel
theorem dX6_move_56 : decode cX6_move 56 = .ok (.iadd, 1) := by decide +kernel
theorem dX6_move_57 : decode cX6_move 57 = .ok (.putfield 108, 3) := by decide +kernel
theorem dX6_move_60 : decode cX6_move 60 = .ok (.aload_n 0, 1) := by decide +kernel
theorem dX6_move_61 : decode cX6_move 61 = .ok (.getfield 108, 3) := by decide +kernel
theorem dX6_move_64 : decode cX6_move 64 = .ok (.ireturn, 1) := by decide +kernel
theorem dX6_planned_0 : decode cX6_planned 0 = .ok (.aload_n 0, 1) := by decide +kernel
theorem dX6_planned_1 : decode cX6_planned 1 = .ok (.aload_n 0, 1) := by decide +kernel
theorem dX6_planned_2 : decode cX6_planned 2 = .ok (.iload_n 1, 1) := by decide +kernel
theorem dX6_planned_3 : decode cX6_planned 3 = .ok (.invokevirtual 120, 3) := by decide +kernel
theorem dX6_planned_6 : decode cX6_planned 6 = .ok (.ifCond .eq 7, 3) := by decide +kernel
theorem dX6_planned_9 : decode cX6_planned 9 = .ok (.iconst 0, 1) := by decide +kernel
theorem dX6_planned_10 : decode cX6_planned 10 = .ok (.goto 4, 3) := by decide +kernel
theorem dX6_planned_13 : decode cX6_planned 13 = .ok (.iconst 1, 1) := by decide +kernel
theorem dX6_planned_14 : decode cX6_planned 14 = .ok (.putfield 48, 3) := by decide +kernel
theorem dX6_planned_17 : decode cX6_planned 17 = .ok (.aload_n 0, 1) := by decide +kernel
theorem dX6_planned_18 : decode cX6_planned 18 = .ok (.getfield 48, 3) := by decide +kernel
theorem dX6_planned_21 : decode cX6_planned 21 = .ok (.ifCond .le 7, 3) := by decide +kernel
theorem dX6_planned_24 : decode cX6_planned 24 = .ok (.iconst 0, 1) := by decide +kernel
theorem dX6_planned_25 : decode cX6_planned 25 = .ok (.goto 8, 3) := by decide +kernel
theorem dX6_planned_28 : decode cX6_planned 28 = .ok (.aload_n 0, 1) := by decide +kernel
theorem dX6_planned_29 : decode cX6_planned 29 = .ok (.iload_n 1, 1) := by decide +kernel
theorem dX6_planned_30 : decode cX6_planned 30 = .ok (.invokevirtual 132, 3) := by decide +kernel
theorem dX6_planned_33 : decode cX6_planned 33 = .ok (.istore_n 2, 1) := by decide +kernel
theorem dX6_planned_34 : decode cX6_planned 34 = .ok (.iload_n 2, 1) := by decide +kernel
theorem dX6_planned_35 : decode cX6_planned 35 = .ok (.iconst (-1), 1) := by decide +kernel
theorem dX6_planned_36 : decode cX6_planned 36 = .ok (.if_icmp .ne 8, 3) := by decide +kernel
theorem dX6_planned_39 : decode cX6_planned 39 = .ok (.aload_n 0, 1) := by decide +kernel
theorem dX6_planned_40 : decode cX6_planned 40 = .ok (.iconst 2, 1) := by decide +kernel
theorem dX6_planned_41 : decode cX6_planned 41 = .ok (.putfield 48, 3) := by decide +kernel
theorem dX6_planned_44 : decode cX6_planned 44 = .ok (.aload_n 0, 1) := by decide +kernel
theorem dX6_planned_45 : decode cX6_planned 45 = .ok (.getfield 48, 3) := by decide +kernel
theorem dX6_planned_48 : decode cX6_planned 48 = .ok (.ifCond .le 7, 3) := by decide +kernel
theorem dX6_planned_51 : decode cX6_planned 51 = .ok (.iconst 0, 1) := by decide +kernel
theorem dX6_planned_52 : decode cX6_planned 52 = .ok (.goto 4, 3) := by decide +kernel
theorem dX6_planned_55 : decode cX6_planned 55 = .ok (.iload_n 2, 1) := by decide +kernel
theorem dX6_planned_56 : decode cX6_planned 56 = .ok (.ireturn, 1) := by decide +kernel
theorem dX6_planLength_0 : decode cX6_planLength 0 = .ok (.aload_n 0, 1) := by decide +kernel
theorem dX6_planLength_1 : decode cX6_planLength 1 = .ok (.iload_n 1, 1) := by decide +kernel
theorem dX6_planLength_2 : decode cX6_planLength 2 = .ok (.invokevirtual 135, 3) := by decide +kernel
theorem dX6_planLength_5 : decode cX6_planLength 5 = .ok (.ireturn, 1) := by decide +kernel
theorem dX6_planByTrying_0 : decode cX6_planByTrying 0 = .ok (.aload_n 0, 1) := by decide +kernel
theorem dX6_planByTrying_1 : decode cX6_planByTrying 1 = .ok (.iload_n 1, 1) := by decide +kernel
theorem dX6_planByTrying_2 : decode cX6_planByTrying 2 = .ok (.invokevirtual 135, 3) := by decide +kernel
theorem dX6_planByTrying_5 : decode cX6_planByTrying 5 = .ok (.ireturn, 1) := by decide +kernel
theorem dX6_plannedAt_0 : decode cX6_plannedAt 0 = .ok (.aload_n 0, 1) := by decide +kernel
theorem dX6_plannedAt_1 : decode cX6_plannedAt 1 = .ok (.iload_n 1, 1) := by decide +kernel
theorem dX6_plannedAt_2 : decode cX6_plannedAt 2 = .ok (.invokevirtual 135, 3) := by decide +kernel
theorem dX6_plannedAt_5 : decode cX6_plannedAt 5 = .ok (.istore_n 3, 1) := by decide +kernel
theorem dX6_plannedAt_6 : decode cX6_plannedAt 6 = .ok (.aload_n 0, 1) := by decide +kernel
theorem dX6_plannedAt_7 : decode cX6_plannedAt 7 = .ok (.getfield 48, 3) := by decide +kernel
theorem dX6_plannedAt_10 : decode cX6_plannedAt 10 = .ok (.ifCond .ne 19, 3) := by decide +kernel
theorem dX6_plannedAt_13 : decode cX6_plannedAt 13 = .ok (.iload_n 2, 1) := by decide +kernel
theorem dX6_plannedAt_14 : decode cX6_plannedAt 14 = .ok (.iconst 0, 1) := by decide +kernel
theorem dX6_plannedAt_15 : decode cX6_plannedAt 15 = .ok (.iload_n 3, 1) := by decide +kernel
theorem dX6_plannedAt_16 : decode cX6_plannedAt 16 = .ok (.iconst 1, 1) := by decide +kernel
theorem dX6_plannedAt_17 : decode cX6_plannedAt 17 = .ok (.isub, 1) := by decide +kernel
theorem dX6_plannedAt_18 : decode cX6_plannedAt 18 = .ok (.invokestatic 55, 3) := by decide +kernel
theorem dX6_plannedAt_21 : decode cX6_plannedAt 21 = .ok (.ifCond .ne 8, 3) := by decide +kernel
theorem dX6_plannedAt_24 : decode cX6_plannedAt 24 = .ok (.aload_n 0, 1) := by decide +kernel
theorem dX6_plannedAt_25 : decode cX6_plannedAt 25 = .ok (.iconst 2, 1) := by decide +kernel
theorem dX6_plannedAt_26 : decode cX6_plannedAt 26 = .ok (.putfield 48, 3) := by decide +kernel
theorem dX6_plannedAt_29 : decode cX6_plannedAt 29 = .ok (.aload_n 0, 1) := by decide +kernel
theorem dX6_plannedAt_30 : decode cX6_plannedAt 30 = .ok (.getfield 48, 3) := by decide +kernel
theorem dX6_plannedAt_33 : decode cX6_plannedAt 33 = .ok (.ifCond .le 7, 3) := by decide +kernel
theorem dX6_plannedAt_36 : decode cX6_plannedAt 36 = .ok (.iconst 0, 1) := by decide +kernel
theorem dX6_plannedAt_37 : decode cX6_plannedAt 37 = .ok (.goto 9, 3) := by decide +kernel
theorem dX6_plannedAt_40 : decode cX6_plannedAt 40 = .ok (.aload_n 0, 1) := by decide +kernel
theorem dX6_plannedAt_41 : decode cX6_plannedAt 41 = .ok (.getfield 33, 3) := by decide +kernel
theorem dX6_plannedAt_44 : decode cX6_plannedAt 44 = .ok (.iload_n 2, 1) := by decide +kernel
theorem dX6_plannedAt_45 : decode cX6_plannedAt 45 = .ok (.iaload, 1) := by decide +kernel
theorem dX6_plannedAt_46 : decode cX6_plannedAt 46 = .ok (.ireturn, 1) := by decide +kernel
theorem dX6_planBox_0 : decode cX6_planBox 0 = .ok (.aload_n 0, 1) := by decide +kernel
theorem dX6_planBox_1 : decode cX6_planBox 1 = .ok (.iload_n 1, 1) := by decide +kernel
theorem dX6_planBox_2 : decode cX6_planBox 2 = .ok (.iload_n 2, 1) := by decide +kernel
theorem dX6_planBox_3 : decode cX6_planBox 3 = .ok (.invokevirtual 138, 3) := by decide +kernel
theorem dX6_planBox_6 : decode cX6_planBox 6 = .ok (.iconst 4, 1) := by decide +kernel
theorem dX6_planBox_7 : decode cX6_planBox 7 = .ok (.idiv, 1) := by decide +kernel
theorem dX6_planBox_8 : decode cX6_planBox 8 = .ok (.ireturn, 1) := by decide +kernel
theorem dX6_planStack_0 : decode cX6_planStack 0 = .ok (.aload_n 0, 1) := by decide +kernel
theorem dX6_planStack_1 : decode cX6_planStack 1 = .ok (.iload_n 1, 1) := by decide +kernel
theorem dX6_planStack_2 : decode cX6_planStack 2 = .ok (.iload_n 2, 1) := by decide +kernel
theorem dX6_planStack_3 : decode cX6_planStack 3 = .ok (.invokevirtual 138, 3) := by decide +kernel
theorem dX6_planStack_6 : decode cX6_planStack 6 = .ok (.iconst 4, 1) := by decide +kernel
theorem dX6_planStack_7 : decode cX6_planStack 7 = .ok (.irem, 1) := by decide +kernel
theorem dX6_planStack_8 : decode cX6_planStack 8 = .ok (.ireturn, 1) := by decide +kernel
theorem dX6_dig_0 : decode cX6_dig 0 = .ok (.aload_n 0, 1) := by decide +kernel
theorem dX6_dig_1 : decode cX6_dig 1 = .ok (.iload_n 1, 1) := by decide +kernel
theorem dX6_dig_2 : decode cX6_dig 2 = .ok (.invokevirtual 135, 3) := by decide +kernel
theorem dX6_dig_5 : decode cX6_dig 5 = .ok (.istore_n 2, 1) := by decide +kernel
theorem dX6_dig_6 : decode cX6_dig 6 = .ok (.aload_n 0, 1) := by decide +kernel
theorem dX6_dig_7 : decode cX6_dig 7 = .ok (.iload_n 2, 1) := by decide +kernel
theorem dX6_dig_8 : decode cX6_dig 8 = .ok (.invokevirtual 141, 3) := by decide +kernel
theorem dX6_dig_11 : decode cX6_dig 11 = .ok (.iload_n 2, 1) := by decide +kernel
theorem dX6_dig_12 : decode cX6_dig 12 = .ok (.ireturn, 1) := by decide +kernel
theorem dX6_moves__0 : decode cX6_moves_ 0 = .ok (.aload_n 0, 1) := by decide +kernel
theorem dX6_moves__1 : decode cX6_moves_ 1 = .ok (.iconst 0, 1) := by decide +kernel
theorem dX6_moves__2 : decode cX6_moves_ 2 = .ok (.putfield 48, 3) := by decide +kernel
theorem dX6_moves__5 : decode cX6_moves_ 5 = .ok (.aload_n 0, 1) := by decide +kernel
theorem dX6_moves__6 : decode cX6_moves_ 6 = .ok (.getfield 108, 3) := by decide +kernel
theorem dX6_moves__9 : decode cX6_moves_ 9 = .ok (.ireturn, 1) := by decide +kernel
theorem dX6_bookedIn_0 : decode cX6_bookedIn 0 = .ok (.iconst 0, 1) := by decide +kernel
theorem dX6_bookedIn_1 : decode cX6_bookedIn 1 = .ok (.istore_n 3, 1) := by decide +kernel
theorem dX6_bookedIn_2 : decode cX6_bookedIn 2 = .ok (.iload_n 3, 1) := by decide +kernel
theorem dX6_bookedIn_3 : decode cX6_bookedIn 3 = .ok (.aload_n 0, 1) := by decide +kernel
theorem dX6_bookedIn_4 : decode cX6_bookedIn 4 = .ok (.getfield 123, 3) := by decide +kernel
theorem dX6_bookedIn_7 : decode cX6_bookedIn 7 = .ok (.if_icmp .ge 42, 3) := by decide +kernel
theorem dX6_bookedIn_10 : decode cX6_bookedIn 10 = .ok (.aload_n 0, 1) := by decide +kernel
theorem dX6_bookedIn_11 : decode cX6_bookedIn 11 = .ok (.getfield 42, 3) := by decide +kernel
theorem dX6_bookedIn_14 : decode cX6_bookedIn 14 = .ok (.iload_n 3, 1) := by decide +kernel
theorem dX6_bookedIn_15 : decode cX6_bookedIn 15 = .ok (.iaload, 1) := by decide +kernel
theorem dX6_bookedIn_16 : decode cX6_bookedIn 16 = .ok (.iload_n 1, 1) := by decide +kernel
theorem dX6_bookedIn_17 : decode cX6_bookedIn 17 = .ok (.if_icmp .ne 26, 3) := by decide +kernel
theorem dX6_bookedIn_20 : decode cX6_bookedIn 20 = .ok (.aload_n 0, 1) := by decide +kernel
theorem dX6_bookedIn_21 : decode cX6_bookedIn 21 = .ok (.getfield 39, 3) := by decide +kernel
theorem dX6_bookedIn_24 : decode cX6_bookedIn 24 = .ok (.iload_n 3, 1) := by decide +kernel
theorem dX6_bookedIn_25 : decode cX6_bookedIn 25 = .ok (.iaload, 1) := by decide +kernel
theorem dX6_bookedIn_26 : decode cX6_bookedIn 26 = .ok (.iload_n 2, 1) := by decide +kernel
theorem dX6_bookedIn_27 : decode cX6_bookedIn 27 = .ok (.if_icmp .ne 16, 3) := by decide +kernel
theorem dX6_bookedIn_30 : decode cX6_bookedIn 30 = .ok (.aload_n 0, 1) := by decide +kernel
theorem dX6_bookedIn_31 : decode cX6_bookedIn 31 = .ok (.getfield 45, 3) := by decide +kernel
theorem dX6_bookedIn_34 : decode cX6_bookedIn 34 = .ok (.iload_n 3, 1) := by decide +kernel
theorem dX6_bookedIn_35 : decode cX6_bookedIn 35 = .ok (.caload, 1) := by decide +kernel
theorem dX6_bookedIn_36 : decode cX6_bookedIn 36 = .ok (.bipush 98, 2) := by decide +kernel
theorem dX6_bookedIn_38 : decode cX6_bookedIn 38 = .ok (.if_icmp .ne 5, 3) := by decide +kernel
theorem dX6_bookedIn_41 : decode cX6_bookedIn 41 = .ok (.iload_n 3, 1) := by decide +kernel
theorem dX6_bookedIn_42 : decode cX6_bookedIn 42 = .ok (.ireturn, 1) := by decide +kernel
theorem dX6_bookedIn_43 : decode cX6_bookedIn 43 = .ok (.iinc 3 1, 3) := by decide +kernel
theorem dX6_bookedIn_46 : decode cX6_bookedIn 46 = .ok (.goto (-44), 3) := by decide +kernel
theorem dX6_bookedIn_49 : decode cX6_bookedIn 49 = .ok (.iconst (-1), 1) := by decide +kernel
theorem dX6_bookedIn_50 : decode cX6_bookedIn 50 = .ok (.ireturn, 1) := by decide +kernel
theorem dX6_isHeldIn_0 : decode cX6_isHeldIn 0 = .ok (.aload_n 0, 1) := by decide +kernel
theorem dX6_isHeldIn_1 : decode cX6_isHeldIn 1 = .ok (.getfield 20, 3) := by decide +kernel
theorem dX6_isHeldIn_4 : decode cX6_isHeldIn 4 = .ok (.iload_n 1, 1) := by decide +kernel
theorem dX6_isHeldIn_5 : decode cX6_isHeldIn 5 = .ok (.caload, 1) := by decide +kernel
theorem dX6_isHeldIn_6 : decode cX6_isHeldIn 6 = .ok (.bipush 45, 2) := by decide +kernel
theorem dX6_isHeldIn_8 : decode cX6_isHeldIn 8 = .ok (.if_icmp .eq 17, 3) := by decide +kernel
theorem dX6_isHeldIn_11 : decode cX6_isHeldIn 11 = .ok (.iload_n 2, 1) := by decide +kernel
theorem dX6_isHeldIn_12 : decode cX6_isHeldIn 12 = .ok (.aload_n 0, 1) := by decide +kernel
theorem dX6_isHeldIn_13 : decode cX6_isHeldIn 13 = .ok (.getfield 24, 3) := by decide +kernel
theorem dX6_isHeldIn_16 : decode cX6_isHeldIn 16 = .ok (.iload_n 1, 1) := by decide +kernel
theorem dX6_isHeldIn_17 : decode cX6_isHeldIn 17 = .ok (.iaload, 1) := by decide +kernel
theorem dX6_isHeldIn_18 : decode cX6_isHeldIn 18 = .ok (.if_icmp .ge 7, 3) := by decide +kernel
theorem dX6_isHeldIn_21 : decode cX6_isHeldIn 21 = .ok (.iconst 1, 1) := by decide +kernel
theorem dX6_isHeldIn_22 : decode cX6_isHeldIn 22 = .ok (.goto 4, 3) := by decide +kernel
theorem dX6_isHeldIn_25 : decode cX6_isHeldIn 25 = .ok (.iconst 0, 1) := by decide +kernel
theorem dX6_isHeldIn_26 : decode cX6_isHeldIn 26 = .ok (.ireturn, 1) := by decide +kernel
theorem dX6_book_0 : decode cX6_book 0 = .ok (.aload_n 0, 1) := by decide +kernel
theorem dX6_book_1 : decode cX6_book 1 = .ok (.iconst 0, 1) := by decide +kernel
theorem dX6_book_2 : decode cX6_book 2 = .ok (.putfield 48, 3) := by decide +kernel
theorem dX6_book_5 : decode cX6_book 5 = .ok (.aload_n 0, 1) := by decide +kernel
theorem dX6_book_6 : decode cX6_book 6 = .ok (.iload_n 1, 1) := by decide +kernel
theorem dX6_book_7 : decode cX6_book 7 = .ok (.invokevirtual 120, 3) := by decide +kernel
theorem dX6_book_10 : decode cX6_book 10 = .ok (.ifCond .eq 12, 3) := by decide +kernel
theorem dX6_book_13 : decode cX6_book 13 = .ok (.iload_n 3, 1) := by decide +kernel
theorem dX6_book_14 : decode cX6_book 14 = .ok (.iconst 0, 1) := by decide +kernel
theorem dX6_book_15 : decode cX6_book 15 = .ok (.iconst 2, 1) := by decide +kernel
theorem dX6_book_16 : decode cX6_book 16 = .ok (.invokestatic 55, 3) := by decide +kernel
theorem dX6_book_19 : decode cX6_book 19 = .ok (.ifCond .ne 9, 3) := by decide +kernel
theorem dX6_book_22 : decode cX6_book 22 = .ok (.aload_n 0, 1) := by decide +kernel
theorem dX6_book_23 : decode cX6_book 23 = .ok (.iconst 1, 1) := by decide +kernel
theorem dX6_book_24 : decode cX6_book 24 = .ok (.invokevirtual 110, 3) := by decide +kernel
theorem dX6_book_27 : decode cX6_book 27 = .ok (.ireturn, 1) := by decide +kernel
theorem dX6_book_28 : decode cX6_book 28 = .ok (.iload_n 2, 1) := by decide +kernel
theorem dX6_book_29 : decode cX6_book 29 = .ok (.aload_n 0, 1) := by decide +kernel
theorem dX6_book_30 : decode cX6_book 30 = .ok (.getfield 126, 3) := by decide +kernel
theorem dX6_book_33 : decode cX6_book 33 = .ok (.iconst 1, 1) := by decide +kernel
theorem dX6_book_34 : decode cX6_book 34 = .ok (.iadd, 1) := by decide +kernel
theorem dX6_book_35 : decode cX6_book 35 = .ok (.sipush 999, 3) := by decide +kernel
theorem dX6_book_38 : decode cX6_book 38 = .ok (.invokestatic 55, 3) := by decide +kernel
theorem dX6_book_41 : decode cX6_book 41 = .ok (.ifCond .ne 9, 3) := by decide +kernel
theorem dX6_book_44 : decode cX6_book 44 = .ok (.aload_n 0, 1) := by decide +kernel
theorem dX6_book_45 : decode cX6_book 45 = .ok (.iconst 2, 1) := by decide +kernel
theorem dX6_book_46 : decode cX6_book 46 = .ok (.invokevirtual 110, 3) := by decide +kernel
theorem dX6_book_49 : decode cX6_book 49 = .ok (.ireturn, 1) := by decide +kernel
theorem dX6_book_50 : decode cX6_book 50 = .ok (.aload_n 0, 1) := by decide +kernel
theorem dX6_book_51 : decode cX6_book 51 = .ok (.iload_n 1, 1) := by decide +kernel
theorem dX6_book_52 : decode cX6_book 52 = .ok (.iload_n 2, 1) := by decide +kernel
theorem dX6_book_53 : decode cX6_book 53 = .ok (.invokevirtual 145, 3) := by decide +kernel
theorem dX6_book_56 : decode cX6_book 56 = .ok (.ifCond .eq 9, 3) := by decide +kernel
theorem dX6_book_59 : decode cX6_book 59 = .ok (.aload_n 0, 1) := by decide +kernel
theorem dX6_book_60 : decode cX6_book 60 = .ok (.iconst 3, 1) := by decide +kernel
theorem dX6_book_61 : decode cX6_book 61 = .ok (.invokevirtual 110, 3) := by decide +kernel
theorem dX6_book_64 : decode cX6_book 64 = .ok (.ireturn, 1) := by decide +kernel
theorem dX6_book_65 : decode cX6_book 65 = .ok (.aload_n 0, 1) := by decide +kernel
theorem dX6_book_66 : decode cX6_book 66 = .ok (.iload_n 1, 1) := by decide +kernel
theorem dX6_book_67 : decode cX6_book 67 = .ok (.invokevirtual 129, 3) := by decide +kernel
theorem dX6_book_70 : decode cX6_book 70 = .ok (.iconst (-1), 1) := by decide +kernel
theorem dX6_book_71 : decode cX6_book 71 = .ok (.if_icmp .ne 22, 3) := by decide +kernel
theorem dX6_book_74 : decode cX6_book 74 = .ok (.aload_n 0, 1) := by decide +kernel
theorem dX6_book_75 : decode cX6_book 75 = .ok (.iload_n 3, 1) := by decide +kernel
theorem dX6_book_76 : decode cX6_book 76 = .ok (.iload_n 2, 1) := by decide +kernel
theorem dX6_book_77 : decode cX6_book 77 = .ok (.invokevirtual 148, 3) := by decide +kernel
theorem dX6_book_80 : decode cX6_book 80 = .ok (.iconst (-1), 1) := by decide +kernel
theorem dX6_book_81 : decode cX6_book 81 = .ok (.if_icmp .ne 12, 3) := by decide +kernel
theorem dX6_book_84 : decode cX6_book 84 = .ok (.aload_n 0, 1) := by decide +kernel
theorem dX6_book_85 : decode cX6_book 85 = .ok (.getfield 123, 3) := by decide +kernel
theorem dX6_book_88 : decode cX6_book 88 = .ok (.bipush 30, 2) := by decide +kernel
theorem dX6_book_90 : decode cX6_book 90 = .ok (.if_icmp .ne 9, 3) := by decide +kernel
theorem dX6_book_93 : decode cX6_book 93 = .ok (.aload_n 0, 1) := by decide +kernel
theorem dX6_book_94 : decode cX6_book 94 = .ok (.iconst 4, 1) := by decide +kernel
theorem dX6_book_95 : decode cX6_book 95 = .ok (.invokevirtual 110, 3) := by decide +kernel
theorem dX6_book_98 : decode cX6_book 98 = .ok (.ireturn, 1) := by decide +kernel
theorem dX6_book_99 : decode cX6_book 99 = .ok (.aload_n 0, 1) := by decide +kernel
theorem dX6_book_100 : decode cX6_book 100 = .ok (.getfield 36, 3) := by decide +kernel
theorem dX6_book_103 : decode cX6_book 103 = .ok (.aload_n 0, 1) := by decide +kernel
theorem dX6_book_104 : decode cX6_book 104 = .ok (.getfield 123, 3) := by decide +kernel
theorem dX6_book_107 : decode cX6_book 107 = .ok (.iload_n 1, 1) := by decide +kernel
theorem dX6_book_108 : decode cX6_book 108 = .ok (.iastore, 1) := by decide +kernel
theorem dX6_book_109 : decode cX6_book 109 = .ok (.aload_n 0, 1) := by decide +kernel
theorem dX6_book_110 : decode cX6_book 110 = .ok (.getfield 39, 3) := by decide +kernel
theorem dX6_book_113 : decode cX6_book 113 = .ok (.aload_n 0, 1) := by decide +kernel
theorem dX6_book_114 : decode cX6_book 114 = .ok (.getfield 123, 3) := by decide +kernel
theorem dX6_book_117 : decode cX6_book 117 = .ok (.iload_n 2, 1) := by decide +kernel
theorem dX6_book_118 : decode cX6_book 118 = .ok (.iastore, 1) := by decide +kernel
theorem dX6_book_119 : decode cX6_book 119 = .ok (.aload_n 0, 1) := by decide +kernel
theorem dX6_book_120 : decode cX6_book 120 = .ok (.getfield 42, 3) := by decide +kernel
theorem dX6_book_123 : decode cX6_book 123 = .ok (.aload_n 0, 1) := by decide +kernel
theorem dX6_book_124 : decode cX6_book 124 = .ok (.getfield 123, 3) := by decide +kernel
theorem dX6_book_127 : decode cX6_book 127 = .ok (.iload_n 3, 1) := by decide +kernel
theorem dX6_book_128 : decode cX6_book 128 = .ok (.iastore, 1) := by decide +kernel
theorem dX6_book_129 : decode cX6_book 129 = .ok (.aload_n 0, 1) := by decide +kernel
theorem dX6_book_130 : decode cX6_book 130 = .ok (.getfield 45, 3) := by decide +kernel
theorem dX6_book_133 : decode cX6_book 133 = .ok (.aload_n 0, 1) := by decide +kernel
theorem dX6_book_134 : decode cX6_book 134 = .ok (.getfield 123, 3) := by decide +kernel
theorem dX6_book_137 : decode cX6_book 137 = .ok (.bipush 98, 2) := by decide +kernel
theorem dX6_book_139 : decode cX6_book 139 = .ok (.castore, 1) := by decide +kernel
theorem dX6_book_140 : decode cX6_book 140 = .ok (.aload_n 0, 1) := by decide +kernel
theorem dX6_book_141 : decode cX6_book 141 = .ok (.dup, 1) := by decide +kernel
theorem dX6_book_142 : decode cX6_book 142 = .ok (.getfield 123, 3) := by decide +kernel
theorem dX6_book_145 : decode cX6_book 145 = .ok (.iconst 1, 1) := by decide +kernel
theorem dX6_book_146 : decode cX6_book 146 = .ok (.iadd, 1) := by decide +kernel
theorem dX6_book_147 : decode cX6_book 147 = .ok (.putfield 123, 3) := by decide +kernel
theorem dX6_book_150 : decode cX6_book 150 = .ok (.aload_n 0, 1) := by decide +kernel
theorem dX6_book_151 : decode cX6_book 151 = .ok (.getfield 123, 3) := by decide +kernel
theorem dX6_book_154 : decode cX6_book 154 = .ok (.iconst 1, 1) := by decide +kernel
theorem dX6_book_155 : decode cX6_book 155 = .ok (.isub, 1) := by decide +kernel
theorem dX6_book_156 : decode cX6_book 156 = .ok (.ireturn, 1) := by decide +kernel
theorem dX6_counted_0 : decode cX6_counted 0 = .ok (.iconst 0, 1) := by decide +kernel
theorem dX6_counted_1 : decode cX6_counted 1 = .ok (.istore_n 2, 1) := by decide +kernel
theorem dX6_counted_2 : decode cX6_counted 2 = .ok (.iconst 0, 1) := by decide +kernel
theorem dX6_counted_3 : decode cX6_counted 3 = .ok (.istore_n 3, 1) := by decide +kernel
theorem dX6_counted_4 : decode cX6_counted 4 = .ok (.iload_n 3, 1) := by decide +kernel
theorem dX6_counted_5 : decode cX6_counted 5 = .ok (.aload_n 0, 1) := by decide +kernel
theorem dX6_counted_6 : decode cX6_counted 6 = .ok (.getfield 123, 3) := by decide +kernel
theorem dX6_counted_9 : decode cX6_counted 9 = .ok (.if_icmp .ge 27, 3) := by decide +kernel
theorem dX6_counted_12 : decode cX6_counted 12 = .ok (.iload_n 2, 1) := by decide +kernel
theorem dX6_counted_13 : decode cX6_counted 13 = .ok (.aload_n 0, 1) := by decide +kernel
theorem dX6_counted_14 : decode cX6_counted 14 = .ok (.getfield 45, 3) := by decide +kernel
theorem dX6_counted_17 : decode cX6_counted 17 = .ok (.iload_n 3, 1) := by decide +kernel
theorem dX6_counted_18 : decode cX6_counted 18 = .ok (.caload, 1) := by decide +kernel
theorem dX6_counted_19 : decode cX6_counted 19 = .ok (.iload_n 1, 1) := by decide +kernel
theorem dX6_counted_20 : decode cX6_counted 20 = .ok (.if_icmp .ne 7, 3) := by decide +kernel
theorem dX6_counted_23 : decode cX6_counted 23 = .ok (.iconst 1, 1) := by decide +kernel
theorem dX6_counted_24 : decode cX6_counted 24 = .ok (.goto 4, 3) := by decide +kernel
theorem dX6_counted_27 : decode cX6_counted 27 = .ok (.iconst 0, 1) := by decide +kernel
theorem dX6_counted_28 : decode cX6_counted 28 = .ok (.iadd, 1) := by decide +kernel
theorem dX6_counted_29 : decode cX6_counted 29 = .ok (.istore_n 2, 1) := by decide +kernel
theorem dX6_counted_30 : decode cX6_counted 30 = .ok (.iinc 3 1, 3) := by decide +kernel
theorem dX6_counted_33 : decode cX6_counted 33 = .ok (.goto (-29), 3) := by decide +kernel
theorem dX6_counted_36 : decode cX6_counted 36 = .ok (.iload_n 2, 1) := by decide +kernel
theorem dX6_counted_37 : decode cX6_counted 37 = .ok (.ireturn, 1) := by decide +kernel
theorem dX6_cancel_0 : decode cX6_cancel 0 = .ok (.aload_n 0, 1) := by decide +kernel
theorem dX6_cancel_1 : decode cX6_cancel 1 = .ok (.iconst 0, 1) := by decide +kernel
theorem dX6_cancel_2 : decode cX6_cancel 2 = .ok (.putfield 48, 3) := by decide +kernel
theorem dX6_cancel_5 : decode cX6_cancel 5 = .ok (.iload_n 1, 1) := by decide +kernel
theorem dX6_cancel_6 : decode cX6_cancel 6 = .ok (.iconst 0, 1) := by decide +kernel
theorem dX6_cancel_7 : decode cX6_cancel 7 = .ok (.aload_n 0, 1) := by decide +kernel
theorem dX6_cancel_8 : decode cX6_cancel 8 = .ok (.getfield 123, 3) := by decide +kernel
theorem dX6_cancel_11 : decode cX6_cancel 11 = .ok (.iconst 1, 1) := by decide +kernel
theorem dX6_cancel_12 : decode cX6_cancel 12 = .ok (.isub, 1) := by decide +kernel
theorem dX6_cancel_13 : decode cX6_cancel 13 = .ok (.invokestatic 55, 3) := by decide +kernel
theorem dX6_cancel_16 : decode cX6_cancel 16 = .ok (.ifCond .ne 9, 3) := by decide +kernel
theorem dX6_cancel_19 : decode cX6_cancel 19 = .ok (.aload_n 0, 1) := by decide +kernel
theorem dX6_cancel_20 : decode cX6_cancel 20 = .ok (.iconst 1, 1) := by decide +kernel
theorem dX6_cancel_21 : decode cX6_cancel 21 = .ok (.invokevirtual 110, 3) := by decide +kernel
theorem dX6_cancel_24 : decode cX6_cancel 24 = .ok (.ireturn, 1) := by decide +kernel
theorem dX6_cancel_25 : decode cX6_cancel 25 = .ok (.aload_n 0, 1) := by decide +kernel
theorem dX6_cancel_26 : decode cX6_cancel 26 = .ok (.getfield 45, 3) := by decide +kernel
theorem dX6_cancel_29 : decode cX6_cancel 29 = .ok (.iload_n 1, 1) := by decide +kernel
theorem dX6_cancel_30 : decode cX6_cancel 30 = .ok (.caload, 1) := by decide +kernel
theorem dX6_cancel_31 : decode cX6_cancel 31 = .ok (.bipush 98, 2) := by decide +kernel
theorem dX6_cancel_33 : decode cX6_cancel 33 = .ok (.if_icmp .eq 9, 3) := by decide +kernel
theorem dX6_cancel_36 : decode cX6_cancel 36 = .ok (.aload_n 0, 1) := by decide +kernel
theorem dX6_cancel_37 : decode cX6_cancel 37 = .ok (.iconst 2, 1) := by decide +kernel
theorem dX6_cancel_38 : decode cX6_cancel 38 = .ok (.invokevirtual 110, 3) := by decide +kernel
theorem dX6_cancel_41 : decode cX6_cancel 41 = .ok (.ireturn, 1) := by decide +kernel
theorem dX6_cancel_42 : decode cX6_cancel 42 = .ok (.aload_n 0, 1) := by decide +kernel
theorem dX6_cancel_43 : decode cX6_cancel 43 = .ok (.getfield 45, 3) := by decide +kernel
theorem dX6_cancel_46 : decode cX6_cancel 46 = .ok (.iload_n 1, 1) := by decide +kernel
theorem dX6_cancel_47 : decode cX6_cancel 47 = .ok (.bipush 99, 2) := by decide +kernel
theorem dX6_cancel_49 : decode cX6_cancel 49 = .ok (.castore, 1) := by decide +kernel
theorem dX6_cancel_50 : decode cX6_cancel 50 = .ok (.aload_n 0, 1) := by decide +kernel
theorem dX6_cancel_51 : decode cX6_cancel 51 = .ok (.bipush 98, 2) := by decide +kernel
theorem dX6_cancel_53 : decode cX6_cancel 53 = .ok (.invokevirtual 151, 3) := by decide +kernel
theorem dX6_cancel_56 : decode cX6_cancel 56 = .ok (.ireturn, 1) := by decide +kernel
theorem dX6_stateOf_0 : decode cX6_stateOf 0 = .ok (.aload_n 0, 1) := by decide +kernel
theorem dX6_stateOf_1 : decode cX6_stateOf 1 = .ok (.iload_n 1, 1) := by decide +kernel
theorem dX6_stateOf_2 : decode cX6_stateOf 2 = .ok (.iconst 0, 1) := by decide +kernel
theorem dX6_stateOf_3 : decode cX6_stateOf 3 = .ok (.aload_n 0, 1) := by decide +kernel
theorem dX6_stateOf_4 : decode cX6_stateOf 4 = .ok (.getfield 123, 3) := by decide +kernel
theorem dX6_stateOf_7 : decode cX6_stateOf 7 = .ok (.iconst 1, 1) := by decide +kernel
theorem dX6_stateOf_8 : decode cX6_stateOf 8 = .ok (.isub, 1) := by decide +kernel
theorem dX6_stateOf_9 : decode cX6_stateOf 9 = .ok (.invokestatic 55, 3) := by decide +kernel
theorem dX6_stateOf_12 : decode cX6_stateOf 12 = .ok (.ifCond .eq 7, 3) := by decide +kernel
theorem dX6_stateOf_15 : decode cX6_stateOf 15 = .ok (.iconst 0, 1) := by decide +kernel
theorem dX6_stateOf_16 : decode cX6_stateOf 16 = .ok (.goto 4, 3) := by decide +kernel
theorem dX6_stateOf_19 : decode cX6_stateOf 19 = .ok (.iconst 1, 1) := by decide +kernel
theorem dX6_stateOf_20 : decode cX6_stateOf 20 = .ok (.putfield 48, 3) := by decide +kernel
theorem dX6_stateOf_23 : decode cX6_stateOf 23 = .ok (.aload_n 0, 1) := by decide +kernel
theorem dX6_stateOf_24 : decode cX6_stateOf 24 = .ok (.getfield 48, 3) := by decide +kernel
theorem dX6_stateOf_27 : decode cX6_stateOf 27 = .ok (.ifCond .le 7, 3) := by decide +kernel
theorem dX6_stateOf_30 : decode cX6_stateOf 30 = .ok (.iconst 0, 1) := by decide +kernel
theorem dX6_stateOf_31 : decode cX6_stateOf 31 = .ok (.goto 9, 3) := by decide +kernel
theorem dX6_stateOf_34 : decode cX6_stateOf 34 = .ok (.aload_n 0, 1) := by decide +kernel
theorem dX6_stateOf_35 : decode cX6_stateOf 35 = .ok (.getfield 45, 3) := by decide +kernel
theorem dX6_stateOf_38 : decode cX6_stateOf 38 = .ok (.iload_n 1, 1) := by decide +kernel
theorem dX6_stateOf_39 : decode cX6_stateOf 39 = .ok (.caload, 1) := by decide +kernel
theorem dX6_stateOf_40 : decode cX6_stateOf 40 = .ok (.ireturn, 1) := by decide +kernel
theorem dX6_appointmentOf_0 : decode cX6_appointmentOf 0 = .ok (.aload_n 0, 1) := by decide +kernel
theorem dX6_appointmentOf_1 : decode cX6_appointmentOf 1 = .ok (.iconst 0, 1) := by decide +kernel
theorem dX6_appointmentOf_2 : decode cX6_appointmentOf 2 = .ok (.putfield 48, 3) := by decide +kernel
theorem dX6_appointmentOf_5 : decode cX6_appointmentOf 5 = .ok (.aload_n 0, 1) := by decide +kernel
theorem dX6_appointmentOf_6 : decode cX6_appointmentOf 6 = .ok (.iload_n 1, 1) := by decide +kernel
theorem dX6_appointmentOf_7 : decode cX6_appointmentOf 7 = .ok (.invokevirtual 120, 3) := by decide +kernel
theorem dX6_appointmentOf_10 : decode cX6_appointmentOf 10 = .ok (.ifCond .ne 9, 3) := by decide +kernel
theorem dX6_appointmentOf_13 : decode cX6_appointmentOf 13 = .ok (.aload_n 0, 1) := by decide +kernel
theorem dX6_appointmentOf_14 : decode cX6_appointmentOf 14 = .ok (.iconst 1, 1) := by decide +kernel
theorem dX6_appointmentOf_15 : decode cX6_appointmentOf 15 = .ok (.invokevirtual 110, 3) := by decide +kernel
theorem dX6_appointmentOf_18 : decode cX6_appointmentOf 18 = .ok (.ireturn, 1) := by decide +kernel
theorem dX6_appointmentOf_19 : decode cX6_appointmentOf 19 = .ok (.aload_n 0, 1) := by decide +kernel
theorem dX6_appointmentOf_20 : decode cX6_appointmentOf 20 = .ok (.iload_n 1, 1) := by decide +kernel
theorem dX6_appointmentOf_21 : decode cX6_appointmentOf 21 = .ok (.invokevirtual 129, 3) := by decide +kernel
theorem dX6_appointmentOf_24 : decode cX6_appointmentOf 24 = .ok (.istore_n 2, 1) := by decide +kernel
theorem dX6_appointmentOf_25 : decode cX6_appointmentOf 25 = .ok (.iload_n 2, 1) := by decide +kernel
theorem dX6_appointmentOf_26 : decode cX6_appointmentOf 26 = .ok (.iconst (-1), 1) := by decide +kernel
theorem dX6_appointmentOf_27 : decode cX6_appointmentOf 27 = .ok (.if_icmp .ne 11, 3) := by decide +kernel
theorem dX6_appointmentOf_30 : decode cX6_appointmentOf 30 = .ok (.aload_n 0, 1) := by decide +kernel
theorem dX6_appointmentOf_31 : decode cX6_appointmentOf 31 = .ok (.iconst 2, 1) := by decide +kernel
theorem dX6_appointmentOf_32 : decode cX6_appointmentOf 32 = .ok (.invokevirtual 110, 3) := by decide +kernel
theorem dX6_appointmentOf_35 : decode cX6_appointmentOf 35 = .ok (.goto 4, 3) := by decide +kernel
theorem dX6_appointmentOf_38 : decode cX6_appointmentOf 38 = .ok (.iload_n 2, 1) := by decide +kernel
theorem dX6_appointmentOf_39 : decode cX6_appointmentOf 39 = .ok (.ireturn, 1) := by decide +kernel
theorem dX6_inLane_0 : decode cX6_inLane 0 = .ok (.aload_n 0, 1) := by decide +kernel
theorem dX6_inLane_1 : decode cX6_inLane 1 = .ok (.iconst 0, 1) := by decide +kernel
theorem dX6_inLane_2 : decode cX6_inLane 2 = .ok (.putfield 48, 3) := by decide +kernel
theorem dX6_inLane_5 : decode cX6_inLane 5 = .ok (.iload_n 1, 1) := by decide +kernel
theorem dX6_inLane_6 : decode cX6_inLane 6 = .ok (.iconst 0, 1) := by decide +kernel
theorem dX6_inLane_7 : decode cX6_inLane 7 = .ok (.iconst 2, 1) := by decide +kernel
theorem dX6_inLane_8 : decode cX6_inLane 8 = .ok (.invokestatic 55, 3) := by decide +kernel
theorem dX6_inLane_11 : decode cX6_inLane 11 = .ok (.ifCond .ne 9, 3) := by decide +kernel
theorem dX6_inLane_14 : decode cX6_inLane 14 = .ok (.aload_n 0, 1) := by decide +kernel
theorem dX6_inLane_15 : decode cX6_inLane 15 = .ok (.iconst 1, 1) := by decide +kernel
theorem dX6_inLane_16 : decode cX6_inLane 16 = .ok (.invokevirtual 110, 3) := by decide +kernel
theorem dX6_inLane_19 : decode cX6_inLane 19 = .ok (.ireturn, 1) := by decide +kernel
theorem dX6_inLane_20 : decode cX6_inLane 20 = .ok (.iload_n 2, 1) := by decide +kernel
theorem dX6_inLane_21 : decode cX6_inLane 21 = .ok (.iconst 0, 1) := by decide +kernel
theorem dX6_inLane_22 : decode cX6_inLane 22 = .ok (.sipush 999, 3) := by decide +kernel
theorem dX6_inLane_25 : decode cX6_inLane 25 = .ok (.invokestatic 55, 3) := by decide +kernel
theorem dX6_inLane_28 : decode cX6_inLane 28 = .ok (.ifCond .eq 12, 3) := by decide +kernel
theorem dX6_inLane_31 : decode cX6_inLane 31 = .ok (.aload_n 0, 1) := by decide +kernel
theorem dX6_inLane_32 : decode cX6_inLane 32 = .ok (.iload_n 1, 1) := by decide +kernel
theorem dX6_inLane_33 : decode cX6_inLane 33 = .ok (.iload_n 2, 1) := by decide +kernel
theorem dX6_inLane_34 : decode cX6_inLane 34 = .ok (.invokevirtual 148, 3) := by decide +kernel
theorem dX6_inLane_37 : decode cX6_inLane 37 = .ok (.goto 8, 3) := by decide +kernel
theorem dX6_inLane_40 : decode cX6_inLane 40 = .ok (.aload_n 0, 1) := by decide +kernel
theorem dX6_inLane_41 : decode cX6_inLane 41 = .ok (.iconst 2, 1) := by decide +kernel
theorem dX6_inLane_42 : decode cX6_inLane 42 = .ok (.invokevirtual 110, 3) := by decide +kernel
theorem dX6_inLane_45 : decode cX6_inLane 45 = .ok (.ireturn, 1) := by decide +kernel
theorem dX6_firstHour_0 : decode cX6_firstHour 0 = .ok (.aload_n 0, 1) := by decide +kernel
theorem dX6_firstHour_1 : decode cX6_firstHour 1 = .ok (.iconst 0, 1) := by decide +kernel
theorem dX6_firstHour_2 : decode cX6_firstHour 2 = .ok (.putfield 48, 3) := by decide +kernel
theorem dX6_firstHour_5 : decode cX6_firstHour 5 = .ok (.aload_n 0, 1) := by decide +kernel
theorem dX6_firstHour_6 : decode cX6_firstHour 6 = .ok (.iload_n 1, 1) := by decide +kernel
theorem dX6_firstHour_7 : decode cX6_firstHour 7 = .ok (.invokevirtual 120, 3) := by decide +kernel
theorem dX6_firstHour_10 : decode cX6_firstHour 10 = .ok (.ifCond .ne 9, 3) := by decide +kernel
theorem dX6_firstHour_13 : decode cX6_firstHour 13 = .ok (.aload_n 0, 1) := by decide +kernel
theorem dX6_firstHour_14 : decode cX6_firstHour 14 = .ok (.iconst 1, 1) := by decide +kernel
theorem dX6_firstHour_15 : decode cX6_firstHour 15 = .ok (.invokevirtual 110, 3) := by decide +kernel
theorem dX6_firstHour_18 : decode cX6_firstHour 18 = .ok (.ireturn, 1) := by decide +kernel
theorem dX6_firstHour_19 : decode cX6_firstHour 19 = .ok (.aload_n 0, 1) := by decide +kernel
theorem dX6_firstHour_20 : decode cX6_firstHour 20 = .ok (.getfield 126, 3) := by decide +kernel
theorem dX6_firstHour_23 : decode cX6_firstHour 23 = .ok (.iconst 1, 1) := by decide +kernel
theorem dX6_firstHour_24 : decode cX6_firstHour 24 = .ok (.iadd, 1) := by decide +kernel
theorem dX6_firstHour_25 : decode cX6_firstHour 25 = .ok (.istore_n 2, 1) := by decide +kernel
theorem dX6_firstHour_26 : decode cX6_firstHour 26 = .ok (.iload_n 2, 1) := by decide +kernel
theorem dX6_firstHour_27 : decode cX6_firstHour 27 = .ok (.sipush 999, 3) := by decide +kernel
theorem dX6_firstHour_30 : decode cX6_firstHour 30 = .ok (.if_icmp .gt 60, 3) := by decide +kernel
theorem dX6_firstHour_33 : decode cX6_firstHour 33 = .ok (.aload_n 0, 1) := by decide +kernel
theorem dX6_firstHour_34 : decode cX6_firstHour 34 = .ok (.iconst 0, 1) := by decide +kernel
theorem dX6_firstHour_35 : decode cX6_firstHour 35 = .ok (.iload_n 2, 1) := by decide +kernel
theorem dX6_firstHour_36 : decode cX6_firstHour 36 = .ok (.invokevirtual 148, 3) := by decide +kernel
theorem dX6_firstHour_39 : decode cX6_firstHour 39 = .ok (.iconst (-1), 1) := by decide +kernel
theorem dX6_firstHour_40 : decode cX6_firstHour 40 = .ok (.if_icmp .eq 23, 3) := by decide +kernel
theorem dX6_firstHour_43 : decode cX6_firstHour 43 = .ok (.aload_n 0, 1) := by decide +kernel
theorem dX6_firstHour_44 : decode cX6_firstHour 44 = .ok (.iconst 1, 1) := by decide +kernel
theorem dX6_firstHour_45 : decode cX6_firstHour 45 = .ok (.iload_n 2, 1) := by decide +kernel
theorem dX6_firstHour_46 : decode cX6_firstHour 46 = .ok (.invokevirtual 148, 3) := by decide +kernel
theorem dX6_firstHour_49 : decode cX6_firstHour 49 = .ok (.iconst (-1), 1) := by decide +kernel
theorem dX6_firstHour_50 : decode cX6_firstHour 50 = .ok (.if_icmp .eq 13, 3) := by decide +kernel
theorem dX6_firstHour_53 : decode cX6_firstHour 53 = .ok (.aload_n 0, 1) := by decide +kernel
theorem dX6_firstHour_54 : decode cX6_firstHour 54 = .ok (.iconst 2, 1) := by decide +kernel
theorem dX6_firstHour_55 : decode cX6_firstHour 55 = .ok (.iload_n 2, 1) := by decide +kernel
theorem dX6_firstHour_56 : decode cX6_firstHour 56 = .ok (.invokevirtual 148, 3) := by decide +kernel
theorem dX6_firstHour_59 : decode cX6_firstHour 59 = .ok (.iconst (-1), 1) := by decide +kernel
theorem dX6_firstHour_60 : decode cX6_firstHour 60 = .ok (.if_icmp .ne 7, 3) := by decide +kernel
theorem dX6_firstHour_63 : decode cX6_firstHour 63 = .ok (.iconst 1, 1) := by decide +kernel
theorem dX6_firstHour_64 : decode cX6_firstHour 64 = .ok (.goto 4, 3) := by decide +kernel
theorem dX6_firstHour_67 : decode cX6_firstHour 67 = .ok (.iconst 0, 1) := by decide +kernel
theorem dX6_firstHour_68 : decode cX6_firstHour 68 = .ok (.istore_n 3, 1) := by decide +kernel
theorem dX6_firstHour_69 : decode cX6_firstHour 69 = .ok (.iload_n 3, 1) := by decide +kernel
theorem dX6_firstHour_70 : decode cX6_firstHour 70 = .ok (.ifCond .eq 14, 3) := by decide +kernel
theorem dX6_firstHour_73 : decode cX6_firstHour 73 = .ok (.aload_n 0, 1) := by decide +kernel
theorem dX6_firstHour_74 : decode cX6_firstHour 74 = .ok (.iload_n 1, 1) := by decide +kernel
theorem dX6_firstHour_75 : decode cX6_firstHour 75 = .ok (.iload_n 2, 1) := by decide +kernel
theorem dX6_firstHour_76 : decode cX6_firstHour 76 = .ok (.invokevirtual 145, 3) := by decide +kernel
theorem dX6_firstHour_79 : decode cX6_firstHour 79 = .ok (.ifCond .ne 5, 3) := by decide +kernel
theorem dX6_firstHour_82 : decode cX6_firstHour 82 = .ok (.iload_n 2, 1) := by decide +kernel
theorem dX6_firstHour_83 : decode cX6_firstHour 83 = .ok (.ireturn, 1) := by decide +kernel
theorem dX6_firstHour_84 : decode cX6_firstHour 84 = .ok (.iinc 2 1, 3) := by decide +kernel
theorem dX6_firstHour_87 : decode cX6_firstHour 87 = .ok (.goto (-61), 3) := by decide +kernel
theorem dX6_firstHour_90 : decode cX6_firstHour 90 = .ok (.aload_n 0, 1) := by decide +kernel
theorem dX6_firstHour_91 : decode cX6_firstHour 91 = .ok (.iconst 2, 1) := by decide +kernel
theorem dX6_firstHour_92 : decode cX6_firstHour 92 = .ok (.invokevirtual 110, 3) := by decide +kernel
theorem dX6_firstHour_95 : decode cX6_firstHour 95 = .ok (.ireturn, 1) := by decide +kernel
theorem dX6_leaves_0 : decode cX6_leaves 0 = .ok (.aload_n 0, 1) := by decide +kernel
theorem dX6_leaves_1 : decode cX6_leaves 1 = .ok (.getfield 36, 3) := by decide +kernel
theorem dX6_leaves_4 : decode cX6_leaves 4 = .ok (.iload_n 1, 1) := by decide +kernel
theorem dX6_leaves_5 : decode cX6_leaves 5 = .ok (.iaload, 1) := by decide +kernel
theorem dX6_leaves_6 : decode cX6_leaves 6 = .ok (.istore_n 2, 1) := by decide +kernel
theorem dX6_leaves_7 : decode cX6_leaves 7 = .ok (.aload_n 0, 1) := by decide +kernel
theorem dX6_leaves_8 : decode cX6_leaves 8 = .ok (.getfield 20, 3) := by decide +kernel
theorem dX6_leaves_11 : decode cX6_leaves 11 = .ok (.iload_n 2, 1) := by decide +kernel
theorem dX6_leaves_12 : decode cX6_leaves 12 = .ok (.caload, 1) := by decide +kernel
theorem dX6_leaves_13 : decode cX6_leaves 13 = .ok (.bipush 45, 2) := by decide +kernel
theorem dX6_leaves_15 : decode cX6_leaves 15 = .ok (.if_icmp .ne 11, 3) := by decide +kernel
theorem dX6_leaves_18 : decode cX6_leaves 18 = .ok (.aload_n 0, 1) := by decide +kernel
theorem dX6_leaves_19 : decode cX6_leaves 19 = .ok (.iload_n 2, 1) := by decide +kernel
theorem dX6_leaves_20 : decode cX6_leaves 20 = .ok (.invokevirtual 132, 3) := by decide +kernel
theorem dX6_leaves_23 : decode cX6_leaves 23 = .ok (.goto 4, 3) := by decide +kernel
theorem dX6_leaves_26 : decode cX6_leaves 26 = .ok (.iconst (-1), 1) := by decide +kernel
theorem dX6_leaves_27 : decode cX6_leaves 27 = .ok (.istore_n 3, 1) := by decide +kernel
theorem dX6_leaves_28 : decode cX6_leaves 28 = .ok (.aload_n 0, 1) := by decide +kernel
theorem dX6_leaves_29 : decode cX6_leaves 29 = .ok (.getfield 45, 3) := by decide +kernel
theorem dX6_leaves_32 : decode cX6_leaves 32 = .ok (.iload_n 1, 1) := by decide +kernel
theorem dX6_leaves_33 : decode cX6_leaves 33 = .ok (.iload_n 3, 1) := by decide +kernel
theorem dX6_leaves_34 : decode cX6_leaves 34 = .ok (.iconst (-1), 1) := by decide +kernel
theorem dX6_leaves_35 : decode cX6_leaves 35 = .ok (.if_icmp .ne 8, 3) := by decide +kernel
theorem dX6_leaves_38 : decode cX6_leaves 38 = .ok (.bipush 109, 2) := by decide +kernel
theorem dX6_leaves_40 : decode cX6_leaves 40 = .ok (.goto 5, 3) := by decide +kernel
theorem dX6_leaves_43 : decode cX6_leaves 43 = .ok (.bipush 100, 2) := by decide +kernel
theorem dX6_leaves_45 : decode cX6_leaves 45 = .ok (.castore, 1) := by decide +kernel
theorem dX6_leaves_46 : decode cX6_leaves 46 = .ok (.iload_n 3, 1) := by decide +kernel
theorem dX6_leaves_47 : decode cX6_leaves 47 = .ok (.iconst (-1), 1) := by decide +kernel
theorem dX6_leaves_48 : decode cX6_leaves 48 = .ok (.if_icmp .ne 5, 3) := by decide +kernel
theorem dX6_leaves_51 : decode cX6_leaves 51 = .ok (.iconst 0, 1) := by decide +kernel
theorem dX6_leaves_52 : decode cX6_leaves 52 = .ok (.ireturn, 1) := by decide +kernel
theorem dX6_leaves_53 : decode cX6_leaves 53 = .ok (.aload_n 0, 1) := by decide +kernel
theorem dX6_leaves_54 : decode cX6_leaves 54 = .ok (.iload_n 3, 1) := by decide +kernel
theorem dX6_leaves_55 : decode cX6_leaves 55 = .ok (.invokevirtual 141, 3) := by decide +kernel
theorem dX6_leaves_58 : decode cX6_leaves 58 = .ok (.aload_n 0, 1) := by decide +kernel
theorem dX6_leaves_59 : decode cX6_leaves 59 = .ok (.getfield 27, 3) := by decide +kernel
theorem dX6_leaves_62 : decode cX6_leaves 62 = .ok (.aload_n 0, 1) := by decide +kernel
theorem dX6_leaves_63 : decode cX6_leaves 63 = .ok (.iconst 0, 1) := by decide +kernel
theorem dX6_leaves_64 : decode cX6_leaves 64 = .ok (.iload_n 2, 1) := by decide +kernel
theorem dX6_leaves_65 : decode cX6_leaves 65 = .ok (.invokevirtual 62, 3) := by decide +kernel
theorem dX6_leaves_68 : decode cX6_leaves 68 = .ok (.dup2, 1) := by decide +kernel
theorem dX6_leaves_69 : decode cX6_leaves 69 = .ok (.iaload, 1) := by decide +kernel
theorem dX6_leaves_70 : decode cX6_leaves 70 = .ok (.iconst 1, 1) := by decide +kernel
theorem dX6_leaves_71 : decode cX6_leaves 71 = .ok (.isub, 1) := by decide +kernel
theorem dX6_leaves_72 : decode cX6_leaves 72 = .ok (.iastore, 1) := by decide +kernel
theorem dX6_leaves_73 : decode cX6_leaves 73 = .ok (.aload_n 0, 1) := by decide +kernel
theorem dX6_leaves_74 : decode cX6_leaves 74 = .ok (.getfield 16, 3) := by decide +kernel
theorem dX6_leaves_77 : decode cX6_leaves 77 = .ok (.iload_n 2, 1) := by decide +kernel
theorem dX6_leaves_78 : decode cX6_leaves 78 = .ok (.iconst 0, 1) := by decide +kernel
theorem dX6_leaves_79 : decode cX6_leaves 79 = .ok (.bastore, 1) := by decide +kernel
theorem dX6_leaves_80 : decode cX6_leaves 80 = .ok (.aload_n 0, 1) := by decide +kernel
theorem dX6_leaves_81 : decode cX6_leaves 81 = .ok (.dup, 1) := by decide +kernel
theorem dX6_leaves_82 : decode cX6_leaves 82 = .ok (.getfield 155, 3) := by decide +kernel
theorem dX6_leaves_85 : decode cX6_leaves 85 = .ok (.aload_n 0, 1) := by decide +kernel
theorem dX6_leaves_86 : decode cX6_leaves 86 = .ok (.getfield 13, 3) := by decide +kernel
theorem dX6_leaves_89 : decode cX6_leaves 89 = .ok (.iload_n 2, 1) := by decide +kernel
theorem dX6_leaves_90 : decode cX6_leaves 90 = .ok (.iaload, 1) := by decide +kernel
theorem dX6_leaves_91 : decode cX6_leaves 91 = .ok (.i2l, 1) := by decide +kernel
theorem dX6_leaves_92 : decode cX6_leaves 92 = .ok (.ladd, 1) := by decide +kernel
theorem dX6_leaves_93 : decode cX6_leaves 93 = .ok (.putfield 155, 3) := by decide +kernel
theorem dX6_leaves_96 : decode cX6_leaves 96 = .ok (.iconst 1, 1) := by decide +kernel
theorem dX6_leaves_97 : decode cX6_leaves 97 = .ok (.ireturn, 1) := by decide +kernel
theorem dX6_pass_0 : decode cX6_pass 0 = .ok (.aload_n 0, 1) := by decide +kernel
theorem dX6_pass_1 : decode cX6_pass 1 = .ok (.iconst 0, 1) := by decide +kernel
theorem dX6_pass_2 : decode cX6_pass 2 = .ok (.putfield 48, 3) := by decide +kernel
theorem dX6_pass_5 : decode cX6_pass 5 = .ok (.iload_n 1, 1) := by decide +kernel
theorem dX6_pass_6 : decode cX6_pass 6 = .ok (.iconst 1, 1) := by decide +kernel
theorem dX6_pass_7 : decode cX6_pass 7 = .ok (.bipush 24, 2) := by decide +kernel
theorem dX6_pass_9 : decode cX6_pass 9 = .ok (.invokestatic 55, 3) := by decide +kernel
theorem dX6_pass_12 : decode cX6_pass 12 = .ok (.ifCond .eq 15, 3) := by decide +kernel
theorem dX6_pass_15 : decode cX6_pass 15 = .ok (.aload_n 0, 1) := by decide +kernel
theorem dX6_pass_16 : decode cX6_pass 16 = .ok (.getfield 126, 3) := by decide +kernel
theorem dX6_pass_19 : decode cX6_pass 19 = .ok (.iload_n 1, 1) := by decide +kernel
theorem dX6_pass_20 : decode cX6_pass 20 = .ok (.iadd, 1) := by decide +kernel
theorem dX6_pass_21 : decode cX6_pass 21 = .ok (.sipush 999, 3) := by decide +kernel
theorem dX6_pass_24 : decode cX6_pass 24 = .ok (.if_icmp .le 9, 3) := by decide +kernel
theorem dX6_pass_27 : decode cX6_pass 27 = .ok (.aload_n 0, 1) := by decide +kernel
theorem dX6_pass_28 : decode cX6_pass 28 = .ok (.iconst 1, 1) := by decide +kernel
theorem dX6_pass_29 : decode cX6_pass 29 = .ok (.invokevirtual 110, 3) := by decide +kernel
theorem dX6_pass_32 : decode cX6_pass 32 = .ok (.ireturn, 1) := by decide +kernel
theorem dX6_pass_33 : decode cX6_pass 33 = .ok (.iconst 0, 1) := by decide +kernel
theorem dX6_pass_34 : decode cX6_pass 34 = .ok (.istore_n 2, 1) := by decide +kernel
theorem dX6_pass_35 : decode cX6_pass 35 = .ok (.iconst 0, 1) := by decide +kernel
theorem dX6_pass_36 : decode cX6_pass 36 = .ok (.istore_n 3, 1) := by decide +kernel
theorem dX6_pass_37 : decode cX6_pass 37 = .ok (.iload_n 3, 1) := by decide +kernel
theorem dX6_pass_38 : decode cX6_pass 38 = .ok (.iload_n 1, 1) := by decide +kernel
theorem dX6_pass_39 : decode cX6_pass 39 = .ok (.if_icmp .ge 120, 3) := by decide +kernel
theorem dX6_pass_42 : decode cX6_pass 42 = .ok (.aload_n 0, 1) := by decide +kernel
theorem dX6_pass_43 : decode cX6_pass 43 = .ok (.dup, 1) := by decide +kernel
theorem dX6_pass_44 : decode cX6_pass 44 = .ok (.getfield 126, 3) := by decide +kernel
theorem dX6_pass_47 : decode cX6_pass 47 = .ok (.iconst 1, 1) := by decide +kernel
theorem dX6_pass_48 : decode cX6_pass 48 = .ok (.iadd, 1) := by decide +kernel
theorem dX6_pass_49 : decode cX6_pass 49 = .ok (.putfield 126, 3) := by decide +kernel
theorem dX6_pass_52 : decode cX6_pass 52 = .ok (.iconst 0, 1) := by decide +kernel
theorem dX6_pass_53 : decode cX6_pass 53 = .ok (.istore 4, 2) := by decide +kernel
theorem dX6_pass_55 : decode cX6_pass 55 = .ok (.iload 4, 2) := by decide +kernel
theorem dX6_pass_57 : decode cX6_pass 57 = .ok (.aload_n 0, 1) := by decide +kernel
theorem dX6_pass_58 : decode cX6_pass 58 = .ok (.getfield 52, 3) := by decide +kernel
theorem dX6_pass_61 : decode cX6_pass 61 = .ok (.if_icmp .ge 42, 3) := by decide +kernel
theorem dX6_pass_64 : decode cX6_pass 64 = .ok (.aload_n 0, 1) := by decide +kernel
theorem dX6_pass_65 : decode cX6_pass 65 = .ok (.getfield 20, 3) := by decide +kernel
theorem dX6_pass_68 : decode cX6_pass 68 = .ok (.iload 4, 2) := by decide +kernel
theorem dX6_pass_70 : decode cX6_pass 70 = .ok (.aload_n 0, 1) := by decide +kernel
theorem dX6_pass_71 : decode cX6_pass 71 = .ok (.getfield 24, 3) := by decide +kernel
theorem dX6_pass_74 : decode cX6_pass 74 = .ok (.iload 4, 2) := by decide +kernel
theorem dX6_pass_76 : decode cX6_pass 76 = .ok (.iaload, 1) := by decide +kernel
theorem dX6_pass_77 : decode cX6_pass 77 = .ok (.aload_n 0, 1) := by decide +kernel
theorem dX6_pass_78 : decode cX6_pass 78 = .ok (.getfield 126, 3) := by decide +kernel
theorem dX6_pass_81 : decode cX6_pass 81 = .ok (.if_icmp .ne 8, 3) := by decide +kernel
theorem dX6_pass_84 : decode cX6_pass 84 = .ok (.bipush 45, 2) := by decide +kernel
theorem dX6_pass_86 : decode cX6_pass 86 = .ok (.goto 10, 3) := by decide +kernel
theorem dX6_pass_89 : decode cX6_pass 89 = .ok (.aload_n 0, 1) := by decide +kernel
theorem dX6_pass_90 : decode cX6_pass 90 = .ok (.getfield 20, 3) := by decide +kernel
theorem dX6_pass_93 : decode cX6_pass 93 = .ok (.iload 4, 2) := by decide +kernel
theorem dX6_pass_95 : decode cX6_pass 95 = .ok (.caload, 1) := by decide +kernel
theorem dX6_pass_96 : decode cX6_pass 96 = .ok (.castore, 1) := by decide +kernel
theorem dX6_pass_97 : decode cX6_pass 97 = .ok (.iinc 4 1, 3) := by decide +kernel
theorem dX6_pass_100 : decode cX6_pass 100 = .ok (.goto (-45), 3) := by decide +kernel
theorem dX6_pass_103 : decode cX6_pass 103 = .ok (.iconst 0, 1) := by decide +kernel
theorem dX6_pass_104 : decode cX6_pass 104 = .ok (.istore 4, 2) := by decide +kernel
theorem dX6_pass_106 : decode cX6_pass 106 = .ok (.iload 4, 2) := by decide +kernel
theorem dX6_pass_108 : decode cX6_pass 108 = .ok (.iconst 3, 1) := by decide +kernel
theorem dX6_pass_109 : decode cX6_pass 109 = .ok (.if_icmp .ge 44, 3) := by decide +kernel
theorem dX6_pass_112 : decode cX6_pass 112 = .ok (.aload_n 0, 1) := by decide +kernel
theorem dX6_pass_113 : decode cX6_pass 113 = .ok (.iload 4, 2) := by decide +kernel
theorem dX6_pass_115 : decode cX6_pass 115 = .ok (.aload_n 0, 1) := by decide +kernel
theorem dX6_pass_116 : decode cX6_pass 116 = .ok (.getfield 126, 3) := by decide +kernel
theorem dX6_pass_119 : decode cX6_pass 119 = .ok (.invokevirtual 148, 3) := by decide +kernel
theorem dX6_pass_122 : decode cX6_pass 122 = .ok (.istore 5, 2) := by decide +kernel
theorem dX6_pass_124 : decode cX6_pass 124 = .ok (.iload_n 2, 1) := by decide +kernel
theorem dX6_pass_125 : decode cX6_pass 125 = .ok (.iload 5, 2) := by decide +kernel
theorem dX6_pass_127 : decode cX6_pass 127 = .ok (.iconst (-1), 1) := by decide +kernel
theorem dX6_pass_128 : decode cX6_pass 128 = .ok (.if_icmp .eq 16, 3) := by decide +kernel
theorem dX6_pass_131 : decode cX6_pass 131 = .ok (.aload_n 0, 1) := by decide +kernel
theorem dX6_pass_132 : decode cX6_pass 132 = .ok (.iload 5, 2) := by decide +kernel
theorem dX6_pass_134 : decode cX6_pass 134 = .ok (.invokevirtual 159, 3) := by decide +kernel
theorem dX6_pass_137 : decode cX6_pass 137 = .ok (.ifCond .eq 7, 3) := by decide +kernel
theorem dX6_pass_140 : decode cX6_pass 140 = .ok (.iconst 1, 1) := by decide +kernel
theorem dX6_pass_141 : decode cX6_pass 141 = .ok (.goto 4, 3) := by decide +kernel
theorem dX6_pass_144 : decode cX6_pass 144 = .ok (.iconst 0, 1) := by decide +kernel
theorem dX6_pass_145 : decode cX6_pass 145 = .ok (.iadd, 1) := by decide +kernel
theorem dX6_pass_146 : decode cX6_pass 146 = .ok (.istore_n 2, 1) := by decide +kernel
theorem dX6_pass_147 : decode cX6_pass 147 = .ok (.iinc 4 1, 3) := by decide +kernel
theorem dX6_pass_150 : decode cX6_pass 150 = .ok (.goto (-44), 3) := by decide +kernel
theorem dX6_pass_153 : decode cX6_pass 153 = .ok (.iinc 3 1, 3) := by decide +kernel
theorem dX6_pass_156 : decode cX6_pass 156 = .ok (.goto (-119), 3) := by decide +kernel
theorem dX6_pass_159 : decode cX6_pass 159 = .ok (.iload_n 2, 1) := by decide +kernel
theorem dX6_pass_160 : decode cX6_pass 160 = .ok (.ireturn, 1) := by decide +kernel
theorem dX6_now_0 : decode cX6_now 0 = .ok (.aload_n 0, 1) := by decide +kernel
theorem dX6_now_1 : decode cX6_now 1 = .ok (.iconst 0, 1) := by decide +kernel
theorem dX6_now_2 : decode cX6_now 2 = .ok (.putfield 48, 3) := by decide +kernel
theorem dX6_now_5 : decode cX6_now 5 = .ok (.aload_n 0, 1) := by decide +kernel
theorem dX6_now_6 : decode cX6_now 6 = .ok (.getfield 126, 3) := by decide +kernel
theorem dX6_now_9 : decode cX6_now 9 = .ok (.ireturn, 1) := by decide +kernel
theorem dX6_weightLeft_0 : decode cX6_weightLeft 0 = .ok (.aload_n 0, 1) := by decide +kernel
theorem dX6_weightLeft_1 : decode cX6_weightLeft 1 = .ok (.iconst 0, 1) := by decide +kernel
theorem dX6_weightLeft_2 : decode cX6_weightLeft 2 = .ok (.putfield 48, 3) := by decide +kernel
theorem dX6_weightLeft_5 : decode cX6_weightLeft 5 = .ok (.aload_n 0, 1) := by decide +kernel
theorem dX6_weightLeft_6 : decode cX6_weightLeft 6 = .ok (.getfield 155, 3) := by decide +kernel
theorem dX6_weightLeft_9 : decode cX6_weightLeft 9 = .ok (.lreturn, 1) := by decide +kernel
theorem dX6_doneShare_0 : decode cX6_doneShare 0 = .ok (.aload_n 0, 1) := by decide +kernel
theorem dX6_doneShare_1 : decode cX6_doneShare 1 = .ok (.iconst 0, 1) := by decide +kernel
theorem dX6_doneShare_2 : decode cX6_doneShare 2 = .ok (.putfield 48, 3) := by decide +kernel
theorem dX6_doneShare_5 : decode cX6_doneShare 5 = .ok (.aload_n 0, 1) := by decide +kernel
theorem dX6_doneShare_6 : decode cX6_doneShare 6 = .ok (.bipush 100, 2) := by decide +kernel
theorem dX6_doneShare_8 : decode cX6_doneShare 8 = .ok (.invokevirtual 151, 3) := by decide +kernel
theorem dX6_doneShare_11 : decode cX6_doneShare 11 = .ok (.aload_n 0, 1) := by decide +kernel
theorem dX6_doneShare_12 : decode cX6_doneShare 12 = .ok (.bipush 109, 2) := by decide +kernel
theorem dX6_doneShare_14 : decode cX6_doneShare 14 = .ok (.invokevirtual 151, 3) := by decide +kernel
theorem dX6_doneShare_17 : decode cX6_doneShare 17 = .ok (.iadd, 1) := by decide +kernel
theorem dX6_doneShare_18 : decode cX6_doneShare 18 = .ok (.aload_n 0, 1) := by decide +kernel
theorem dX6_doneShare_19 : decode cX6_doneShare 19 = .ok (.bipush 103, 2) := by decide +kernel
theorem dX6_doneShare_21 : decode cX6_doneShare 21 = .ok (.invokevirtual 151, 3) := by decide +kernel
theorem dX6_doneShare_24 : decode cX6_doneShare 24 = .ok (.iadd, 1) := by decide +kernel
theorem dX6_doneShare_25 : decode cX6_doneShare 25 = .ok (.istore_n 1, 1) := by decide +kernel
theorem dX6_doneShare_26 : decode cX6_doneShare 26 = .ok (.iload_n 1, 1) := by decide +kernel
theorem dX6_doneShare_27 : decode cX6_doneShare 27 = .ok (.ifCond .ne 10, 3) := by decide +kernel
theorem dX6_doneShare_30 : decode cX6_doneShare 30 = .ok (.aload_n 0, 1) := by decide +kernel
theorem dX6_doneShare_31 : decode cX6_doneShare 31 = .ok (.iconst 1, 1) := by decide +kernel
theorem dX6_doneShare_32 : decode cX6_doneShare 32 = .ok (.putfield 48, 3) := by decide +kernel
theorem dX6_doneShare_35 : decode cX6_doneShare 35 = .ok (.fconst 0, 1) := by decide +kernel
theorem dX6_doneShare_36 : decode cX6_doneShare 36 = .ok (.freturn, 1) := by decide +kernel
theorem dX6_doneShare_37 : decode cX6_doneShare 37 = .ok (.aload_n 0, 1) := by decide +kernel
theorem dX6_doneShare_38 : decode cX6_doneShare 38 = .ok (.bipush 100, 2) := by decide +kernel
theorem dX6_doneShare_40 : decode cX6_doneShare 40 = .ok (.invokevirtual 151, 3) := by decide +kernel
theorem dX6_doneShare_43 : decode cX6_doneShare 43 = .ok (.i2f, 1) := by decide +kernel
theorem dX6_doneShare_44 : decode cX6_doneShare 44 = .ok (.iload_n 1, 1) := by decide +kernel
theorem dX6_doneShare_45 : decode cX6_doneShare 45 = .ok (.i2f, 1) := by decide +kernel
theorem dX6_doneShare_46 : decode cX6_doneShare 46 = .ok (.fdiv, 1) := by decide +kernel
theorem dX6_doneShare_47 : decode cX6_doneShare 47 = .ok (.freturn, 1) := by decide +kernel
