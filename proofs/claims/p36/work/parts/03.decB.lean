theorem dX5_init_0 : decode cX5_init 0 = .ok (.aload_n 0, 1) := by decide +kernel
theorem dX5_init_1 : decode cX5_init 1 = .ok (.invokespecial 1, 3) := by decide +kernel
theorem dX5_init_4 : decode cX5_init 4 = .ok (.new 7, 3) := by decide +kernel
theorem dX5_init_7 : decode cX5_init 7 = .ok (.dup, 1) := by decide +kernel
theorem dX5_init_8 : decode cX5_init 8 = .ok (.invokespecial 9, 3) := by decide +kernel
theorem dX5_init_11 : decode cX5_init 11 = .ok (.astore_n 1, 1) := by decide +kernel
theorem dX5_init_12 : decode cX5_init 12 = .ok (.new 10, 3) := by decide +kernel
theorem dX5_init_15 : decode cX5_init 15 = .ok (.dup, 1) := by decide +kernel
theorem dX5_init_16 : decode cX5_init 16 = .ok (.aload_n 1, 1) := by decide +kernel
theorem dX5_init_17 : decode cX5_init 17 = .ok (.invokespecial 12, 3) := by decide +kernel
theorem dX5_init_20 : decode cX5_init 20 = .ok (.astore_n 2, 1) := by decide +kernel
theorem dX5_init_21 : decode cX5_init 21 = .ok (.aload_n 0, 1) := by decide +kernel
theorem dX5_init_22 : decode cX5_init 22 = .ok (.aload_n 1, 1) := by decide +kernel
theorem dX5_init_23 : decode cX5_init 23 = .ok (.putfield 15, 3) := by decide +kernel
theorem dX5_init_26 : decode cX5_init 26 = .ok (.aload_n 0, 1) := by decide +kernel
theorem dX5_init_27 : decode cX5_init 27 = .ok (.aload_n 2, 1) := by decide +kernel
theorem dX5_init_28 : decode cX5_init 28 = .ok (.putfield 21, 3) := by decide +kernel
theorem dX5_init_31 : decode cX5_init 31 = .ok (.aload_n 0, 1) := by decide +kernel
theorem dX5_init_32 : decode cX5_init 32 = .ok (.new 25, 3) := by decide +kernel
theorem dX5_init_35 : decode cX5_init 35 = .ok (.dup, 1) := by decide +kernel
theorem dX5_init_36 : decode cX5_init 36 = .ok (.aload_n 2, 1) := by decide +kernel
theorem dX5_init_37 : decode cX5_init 37 = .ok (.new 10, 3) := by decide +kernel
theorem dX5_init_40 : decode cX5_init 40 = .ok (.dup, 1) := by decide +kernel
theorem dX5_init_41 : decode cX5_init 41 = .ok (.aload_n 1, 1) := by decide +kernel
theorem dX5_init_42 : decode cX5_init 42 = .ok (.invokespecial 12, 3) := by decide +kernel
theorem dX5_init_45 : decode cX5_init 45 = .ok (.invokespecial 27, 3) := by decide +kernel
theorem dX5_init_48 : decode cX5_init 48 = .ok (.putfield 30, 3) := by decide +kernel
theorem dX5_init_51 : decode cX5_init 51 = .ok (.aload_n 0, 1) := by decide +kernel
theorem dX5_init_52 : decode cX5_init 52 = .ok (.new 34, 3) := by decide +kernel
theorem dX5_init_55 : decode cX5_init 55 = .ok (.dup, 1) := by decide +kernel
theorem dX5_init_56 : decode cX5_init 56 = .ok (.invokespecial 36, 3) := by decide +kernel
theorem dX5_init_59 : decode cX5_init 59 = .ok (.putfield 37, 3) := by decide +kernel
theorem dX5_init_62 : decode cX5_init 62 = .ok (.return_, 1) := by decide +kernel
theorem dX5_addStack_0 : decode cX5_addStack 0 = .ok (.iload_n 1, 1) := by decide +kernel
theorem dX5_addStack_1 : decode cX5_addStack 1 = .ok (.iconst 1, 1) := by decide +kernel
theorem dX5_addStack_2 : decode cX5_addStack 2 = .ok (.if_icmp .lt 8, 3) := by decide +kernel
theorem dX5_addStack_5 : decode cX5_addStack 5 = .ok (.iload_n 1, 1) := by decide +kernel
theorem dX5_addStack_6 : decode cX5_addStack 6 = .ok (.iconst 4, 1) := by decide +kernel
theorem dX5_addStack_7 : decode cX5_addStack 7 = .ok (.if_icmp .le 13, 3) := by decide +kernel
theorem dX5_addStack_10 : decode cX5_addStack 10 = .ok (.new 41, 3) := by decide +kernel
theorem dX5_addStack_13 : decode cX5_addStack 13 = .ok (.dup, 1) := by decide +kernel
theorem dX5_addStack_14 : decode cX5_addStack 14 = .ok (.ldc 43, 2) := by decide +kernel
theorem dX5_addStack_16 : decode cX5_addStack 16 = .ok (.invokespecial 45, 3) := by decide +kernel
theorem dX5_addStack_19 : decode cX5_addStack 19 = .ok (.athrow, 1) := by decide +kernel
theorem dX5_addStack_20 : decode cX5_addStack 20 = .ok (.aload_n 0, 1) := by decide +kernel
theorem dX5_addStack_21 : decode cX5_addStack 21 = .ok (.getfield 21, 3) := by decide +kernel
theorem dX5_addStack_24 : decode cX5_addStack 24 = .ok (.invokevirtual 48, 3) := by decide +kernel
theorem dX5_addStack_27 : decode cX5_addStack 27 = .ok (.iconst 4, 1) := by decide +kernel
theorem dX5_addStack_28 : decode cX5_addStack 28 = .ok (.if_icmp .lt 13, 3) := by decide +kernel
theorem dX5_addStack_31 : decode cX5_addStack 31 = .ok (.new 52, 3) := by decide +kernel
theorem dX5_addStack_34 : decode cX5_addStack 34 = .ok (.dup, 1) := by decide +kernel
theorem dX5_addStack_35 : decode cX5_addStack 35 = .ok (.ldc 54, 2) := by decide +kernel
theorem dX5_addStack_37 : decode cX5_addStack 37 = .ok (.invokespecial 56, 3) := by decide +kernel
theorem dX5_addStack_40 : decode cX5_addStack 40 = .ok (.athrow, 1) := by decide +kernel
theorem dX5_addStack_41 : decode cX5_addStack 41 = .ok (.aload_n 0, 1) := by decide +kernel
theorem dX5_addStack_42 : decode cX5_addStack 42 = .ok (.getfield 21, 3) := by decide +kernel
theorem dX5_addStack_45 : decode cX5_addStack 45 = .ok (.iload_n 1, 1) := by decide +kernel
theorem dX5_addStack_46 : decode cX5_addStack 46 = .ok (.invokevirtual 57, 3) := by decide +kernel
theorem dX5_addStack_49 : decode cX5_addStack 49 = .ok (.ireturn, 1) := by decide +kernel
theorem dX5_addBox_0 : decode cX5_addBox 0 = .ok (.aload_n 0, 1) := by decide +kernel
theorem dX5_addBox_1 : decode cX5_addBox 1 = .ok (.iload_n 2, 1) := by decide +kernel
theorem dX5_addBox_2 : decode cX5_addBox 2 = .ok (.invokevirtual 61, 3) := by decide +kernel
theorem dX5_addBox_5 : decode cX5_addBox 5 = .ok (.iload_n 1, 1) := by decide +kernel
theorem dX5_addBox_6 : decode cX5_addBox 6 = .ok (.iconst 1, 1) := by decide +kernel
theorem dX5_addBox_7 : decode cX5_addBox 7 = .ok (.if_icmp .lt 9, 3) := by decide +kernel
theorem dX5_addBox_10 : decode cX5_addBox 10 = .ok (.iload_n 1, 1) := by decide +kernel
theorem dX5_addBox_11 : decode cX5_addBox 11 = .ok (.bipush 30, 2) := by decide +kernel
theorem dX5_addBox_13 : decode cX5_addBox 13 = .ok (.if_icmp .le 13, 3) := by decide +kernel
theorem dX5_addBox_16 : decode cX5_addBox 16 = .ok (.new 41, 3) := by decide +kernel
theorem dX5_addBox_19 : decode cX5_addBox 19 = .ok (.dup, 1) := by decide +kernel
theorem dX5_addBox_20 : decode cX5_addBox 20 = .ok (.ldc 65, 2) := by decide +kernel
theorem dX5_addBox_22 : decode cX5_addBox 22 = .ok (.invokespecial 45, 3) := by decide +kernel
theorem dX5_addBox_25 : decode cX5_addBox 25 = .ok (.athrow, 1) := by decide +kernel
theorem dX5_addBox_26 : decode cX5_addBox 26 = .ok (.aload_n 0, 1) := by decide +kernel
theorem dX5_addBox_27 : decode cX5_addBox 27 = .ok (.getfield 21, 3) := by decide +kernel
theorem dX5_addBox_30 : decode cX5_addBox 30 = .ok (.iload_n 2, 1) := by decide +kernel
theorem dX5_addBox_31 : decode cX5_addBox 31 = .ok (.invokevirtual 67, 3) := by decide +kernel
theorem dX5_addBox_34 : decode cX5_addBox 34 = .ok (.ifCond .ne 15, 3) := by decide +kernel
theorem dX5_addBox_37 : decode cX5_addBox 37 = .ok (.aload_n 0, 1) := by decide +kernel
theorem dX5_addBox_38 : decode cX5_addBox 38 = .ok (.getfield 21, 3) := by decide +kernel
theorem dX5_addBox_41 : decode cX5_addBox 41 = .ok (.iload_n 2, 1) := by decide +kernel
theorem dX5_addBox_42 : decode cX5_addBox 42 = .ok (.iload_n 1, 1) := by decide +kernel
theorem dX5_addBox_43 : decode cX5_addBox 43 = .ok (.invokevirtual 71, 3) := by decide +kernel
theorem dX5_addBox_46 : decode cX5_addBox 46 = .ok (.ifCond .ne 13, 3) := by decide +kernel
theorem dX5_addBox_49 : decode cX5_addBox 49 = .ok (.new 75, 3) := by decide +kernel
theorem dX5_addBox_52 : decode cX5_addBox 52 = .ok (.dup, 1) := by decide +kernel
theorem dX5_addBox_53 : decode cX5_addBox 53 = .ok (.ldc 77, 2) := by decide +kernel
theorem dX5_addBox_55 : decode cX5_addBox 55 = .ok (.invokespecial 79, 3) := by decide +kernel
theorem dX5_addBox_58 : decode cX5_addBox 58 = .ok (.athrow, 1) := by decide +kernel
theorem dX5_addBox_59 : decode cX5_addBox 59 = .ok (.aload_n 0, 1) := by decide +kernel
theorem dX5_addBox_60 : decode cX5_addBox 60 = .ok (.getfield 21, 3) := by decide +kernel
theorem dX5_addBox_63 : decode cX5_addBox 63 = .ok (.invokevirtual 80, 3) := by decide +kernel
theorem dX5_addBox_66 : decode cX5_addBox 66 = .ok (.bipush 8, 2) := by decide +kernel
theorem dX5_addBox_68 : decode cX5_addBox 68 = .ok (.if_icmp .ge 15, 3) := by decide +kernel
theorem dX5_addBox_71 : decode cX5_addBox 71 = .ok (.aload_n 0, 1) := by decide +kernel
theorem dX5_addBox_72 : decode cX5_addBox 72 = .ok (.getfield 15, 3) := by decide +kernel
theorem dX5_addBox_75 : decode cX5_addBox 75 = .ok (.invokevirtual 83, 3) := by decide +kernel
theorem dX5_addBox_78 : decode cX5_addBox 78 = .ok (.bipush 20, 2) := by decide +kernel
theorem dX5_addBox_80 : decode cX5_addBox 80 = .ok (.if_icmp .lt 13, 3) := by decide +kernel
theorem dX5_addBox_83 : decode cX5_addBox 83 = .ok (.new 52, 3) := by decide +kernel
theorem dX5_addBox_86 : decode cX5_addBox 86 = .ok (.dup, 1) := by decide +kernel
theorem dX5_addBox_87 : decode cX5_addBox 87 = .ok (.ldc 86, 2) := by decide +kernel
theorem dX5_addBox_89 : decode cX5_addBox 89 = .ok (.invokespecial 56, 3) := by decide +kernel
theorem dX5_addBox_92 : decode cX5_addBox 92 = .ok (.athrow, 1) := by decide +kernel
theorem dX5_addBox_93 : decode cX5_addBox 93 = .ok (.aload_n 0, 1) := by decide +kernel
theorem dX5_addBox_94 : decode cX5_addBox 94 = .ok (.getfield 15, 3) := by decide +kernel
theorem dX5_addBox_97 : decode cX5_addBox 97 = .ok (.iload_n 1, 1) := by decide +kernel
theorem dX5_addBox_98 : decode cX5_addBox 98 = .ok (.invokevirtual 88, 3) := by decide +kernel
theorem dX5_addBox_101 : decode cX5_addBox 101 = .ok (.istore_n 3, 1) := by decide +kernel
theorem dX5_addBox_102 : decode cX5_addBox 102 = .ok (.aload_n 0, 1) := by decide +kernel
theorem dX5_addBox_103 : decode cX5_addBox 103 = .ok (.getfield 21, 3) := by decide +kernel
theorem dX5_addBox_106 : decode cX5_addBox 106 = .ok (.iload_n 3, 1) := by decide +kernel
theorem dX5_addBox_107 : decode cX5_addBox 107 = .ok (.iload_n 2, 1) := by decide +kernel
theorem dX5_addBox_108 : decode cX5_addBox 108 = .ok (.invokevirtual 91, 3) := by decide +kernel
theorem dX5_addBox_111 : decode cX5_addBox 111 = .ok (.iload_n 3, 1) := by decide +kernel
theorem dX5_addBox_112 : decode cX5_addBox 112 = .ok (.ireturn, 1) := by decide +kernel
theorem dX5_boxes_0 : decode cX5_boxes 0 = .ok (.aload_n 0, 1) := by decide +kernel
theorem dX5_boxes_1 : decode cX5_boxes 1 = .ok (.getfield 21, 3) := by decide +kernel
theorem dX5_boxes_4 : decode cX5_boxes 4 = .ok (.invokevirtual 80, 3) := by decide +kernel
theorem dX5_boxes_7 : decode cX5_boxes 7 = .ok (.ireturn, 1) := by decide +kernel
theorem dX5_isInYard_0 : decode cX5_isInYard 0 = .ok (.aload_n 0, 1) := by decide +kernel
theorem dX5_isInYard_1 : decode cX5_isInYard 1 = .ok (.getfield 21, 3) := by decide +kernel
theorem dX5_isInYard_4 : decode cX5_isInYard 4 = .ok (.iload_n 1, 1) := by decide +kernel
theorem dX5_isInYard_5 : decode cX5_isInYard 5 = .ok (.invokevirtual 95, 3) := by decide +kernel
theorem dX5_isInYard_8 : decode cX5_isInYard 8 = .ok (.iconst (-1), 1) := by decide +kernel
theorem dX5_isInYard_9 : decode cX5_isInYard 9 = .ok (.if_icmp .eq 7, 3) := by decide +kernel
theorem dX5_isInYard_12 : decode cX5_isInYard 12 = .ok (.iconst 1, 1) := by decide +kernel
theorem dX5_isInYard_13 : decode cX5_isInYard 13 = .ok (.goto 4, 3) := by decide +kernel
theorem dX5_isInYard_16 : decode cX5_isInYard 16 = .ok (.iconst 0, 1) := by decide +kernel
theorem dX5_isInYard_17 : decode cX5_isInYard 17 = .ok (.ireturn, 1) := by decide +kernel
theorem dX5_weight_0 : decode cX5_weight 0 = .ok (.aload_n 0, 1) := by decide +kernel
theorem dX5_weight_1 : decode cX5_weight 1 = .ok (.iload_n 1, 1) := by decide +kernel
theorem dX5_weight_2 : decode cX5_weight 2 = .ok (.invokevirtual 98, 3) := by decide +kernel
theorem dX5_weight_5 : decode cX5_weight 5 = .ok (.aload_n 0, 1) := by decide +kernel
theorem dX5_weight_6 : decode cX5_weight 6 = .ok (.getfield 15, 3) := by decide +kernel
theorem dX5_weight_9 : decode cX5_weight 9 = .ok (.iload_n 1, 1) := by decide +kernel
theorem dX5_weight_10 : decode cX5_weight 10 = .ok (.invokevirtual 101, 3) := by decide +kernel
theorem dX5_weight_13 : decode cX5_weight 13 = .ok (.ireturn, 1) := by decide +kernel
theorem dX5_stackOf_0 : decode cX5_stackOf 0 = .ok (.aload_n 0, 1) := by decide +kernel
theorem dX5_stackOf_1 : decode cX5_stackOf 1 = .ok (.iload_n 1, 1) := by decide +kernel
theorem dX5_stackOf_2 : decode cX5_stackOf 2 = .ok (.invokevirtual 98, 3) := by decide +kernel
theorem dX5_stackOf_5 : decode cX5_stackOf 5 = .ok (.aload_n 0, 1) := by decide +kernel
theorem dX5_stackOf_6 : decode cX5_stackOf 6 = .ok (.getfield 21, 3) := by decide +kernel
theorem dX5_stackOf_9 : decode cX5_stackOf 9 = .ok (.iload_n 1, 1) := by decide +kernel
theorem dX5_stackOf_10 : decode cX5_stackOf 10 = .ok (.invokevirtual 95, 3) := by decide +kernel
theorem dX5_stackOf_13 : decode cX5_stackOf 13 = .ok (.ireturn, 1) := by decide +kernel
theorem dX5_level_0 : decode cX5_level 0 = .ok (.aload_n 0, 1) := by decide +kernel
theorem dX5_level_1 : decode cX5_level 1 = .ok (.iload_n 1, 1) := by decide +kernel
theorem dX5_level_2 : decode cX5_level 2 = .ok (.invokevirtual 98, 3) := by decide +kernel
theorem dX5_level_5 : decode cX5_level 5 = .ok (.aload_n 0, 1) := by decide +kernel
theorem dX5_level_6 : decode cX5_level 6 = .ok (.getfield 21, 3) := by decide +kernel
theorem dX5_level_9 : decode cX5_level 9 = .ok (.iload_n 1, 1) := by decide +kernel
theorem dX5_level_10 : decode cX5_level 10 = .ok (.invokevirtual 104, 3) := by decide +kernel
theorem dX5_level_13 : decode cX5_level 13 = .ok (.ireturn, 1) := by decide +kernel
theorem dX5_above_0 : decode cX5_above 0 = .ok (.aload_n 0, 1) := by decide +kernel
theorem dX5_above_1 : decode cX5_above 1 = .ok (.iload_n 1, 1) := by decide +kernel
theorem dX5_above_2 : decode cX5_above 2 = .ok (.invokevirtual 98, 3) := by decide +kernel
theorem dX5_above_5 : decode cX5_above 5 = .ok (.aload_n 0, 1) := by decide +kernel
theorem dX5_above_6 : decode cX5_above 6 = .ok (.getfield 21, 3) := by decide +kernel
theorem dX5_above_9 : decode cX5_above 9 = .ok (.iload_n 1, 1) := by decide +kernel
theorem dX5_above_10 : decode cX5_above 10 = .ok (.invokevirtual 107, 3) := by decide +kernel
theorem dX5_above_13 : decode cX5_above 13 = .ok (.ireturn, 1) := by decide +kernel
theorem dX5_height_0 : decode cX5_height 0 = .ok (.aload_n 0, 1) := by decide +kernel
theorem dX5_height_1 : decode cX5_height 1 = .ok (.iload_n 1, 1) := by decide +kernel
theorem dX5_height_2 : decode cX5_height 2 = .ok (.invokevirtual 61, 3) := by decide +kernel
theorem dX5_height_5 : decode cX5_height 5 = .ok (.aload_n 0, 1) := by decide +kernel
theorem dX5_height_6 : decode cX5_height 6 = .ok (.getfield 21, 3) := by decide +kernel
theorem dX5_height_9 : decode cX5_height 9 = .ok (.iload_n 1, 1) := by decide +kernel
theorem dX5_height_10 : decode cX5_height 10 = .ok (.invokevirtual 110, 3) := by decide +kernel
theorem dX5_height_13 : decode cX5_height 13 = .ok (.ireturn, 1) := by decide +kernel
theorem dX5_boxAt_0 : decode cX5_boxAt 0 = .ok (.aload_n 0, 1) := by decide +kernel
theorem dX5_boxAt_1 : decode cX5_boxAt 1 = .ok (.iload_n 1, 1) := by decide +kernel
theorem dX5_boxAt_2 : decode cX5_boxAt 2 = .ok (.invokevirtual 61, 3) := by decide +kernel
theorem dX5_boxAt_5 : decode cX5_boxAt 5 = .ok (.aload_n 0, 1) := by decide +kernel
theorem dX5_boxAt_6 : decode cX5_boxAt 6 = .ok (.getfield 21, 3) := by decide +kernel
theorem dX5_boxAt_9 : decode cX5_boxAt 9 = .ok (.iload_n 1, 1) := by decide +kernel
theorem dX5_boxAt_10 : decode cX5_boxAt 10 = .ok (.iload_n 2, 1) := by decide +kernel
theorem dX5_boxAt_11 : decode cX5_boxAt 11 = .ok (.invokevirtual 113, 3) := by decide +kernel
theorem dX5_boxAt_14 : decode cX5_boxAt 14 = .ok (.istore_n 3, 1) := by decide +kernel
theorem dX5_boxAt_15 : decode cX5_boxAt 15 = .ok (.iload_n 3, 1) := by decide +kernel
theorem dX5_boxAt_16 : decode cX5_boxAt 16 = .ok (.iconst (-1), 1) := by decide +kernel
theorem dX5_boxAt_17 : decode cX5_boxAt 17 = .ok (.if_icmp .ne 13, 3) := by decide +kernel
theorem dX5_boxAt_20 : decode cX5_boxAt 20 = .ok (.new 117, 3) := by decide +kernel
theorem dX5_boxAt_23 : decode cX5_boxAt 23 = .ok (.dup, 1) := by decide +kernel
theorem dX5_boxAt_24 : decode cX5_boxAt 24 = .ok (.ldc 119, 2) := by decide +kernel
theorem dX5_boxAt_26 : decode cX5_boxAt 26 = .ok (.invokespecial 121, 3) := by decide +kernel
theorem dX5_boxAt_29 : decode cX5_boxAt 29 = .ok (.athrow, 1) := by decide +kernel
theorem dX5_boxAt_30 : decode cX5_boxAt 30 = .ok (.iload_n 3, 1) := by decide +kernel
theorem dX5_boxAt_31 : decode cX5_boxAt 31 = .ok (.ireturn, 1) := by decide +kernel
theorem dX5_hold_0 : decode cX5_hold 0 = .ok (.aload_n 0, 1) := by decide +kernel
theorem dX5_hold_1 : decode cX5_hold 1 = .ok (.iload_n 1, 1) := by decide +kernel
theorem dX5_hold_2 : decode cX5_hold 2 = .ok (.invokevirtual 98, 3) := by decide +kernel
theorem dX5_hold_5 : decode cX5_hold 5 = .ok (.iload_n 2, 1) := by decide +kernel
theorem dX5_hold_6 : decode cX5_hold 6 = .ok (.bipush 112, 2) := by decide +kernel
theorem dX5_hold_8 : decode cX5_hold 8 = .ok (.if_icmp .eq 19, 3) := by decide +kernel
theorem dX5_hold_11 : decode cX5_hold 11 = .ok (.iload_n 2, 1) := by decide +kernel
theorem dX5_hold_12 : decode cX5_hold 12 = .ok (.bipush 108, 2) := by decide +kernel
theorem dX5_hold_14 : decode cX5_hold 14 = .ok (.if_icmp .eq 13, 3) := by decide +kernel
theorem dX5_hold_17 : decode cX5_hold 17 = .ok (.new 41, 3) := by decide +kernel
theorem dX5_hold_20 : decode cX5_hold 20 = .ok (.dup, 1) := by decide +kernel
theorem dX5_hold_21 : decode cX5_hold 21 = .ok (.ldc 122, 2) := by decide +kernel
theorem dX5_hold_23 : decode cX5_hold 23 = .ok (.invokespecial 45, 3) := by decide +kernel
theorem dX5_hold_26 : decode cX5_hold 26 = .ok (.athrow, 1) := by decide +kernel
theorem dX5_hold_27 : decode cX5_hold 27 = .ok (.iload_n 3, 1) := by decide +kernel
theorem dX5_hold_28 : decode cX5_hold 28 = .ok (.aload_n 0, 1) := by decide +kernel
theorem dX5_hold_29 : decode cX5_hold 29 = .ok (.getfield 124, 3) := by decide +kernel
theorem dX5_hold_32 : decode cX5_hold 32 = .ok (.if_icmp .le 10, 3) := by decide +kernel
theorem dX5_hold_35 : decode cX5_hold 35 = .ok (.iload_n 3, 1) := by decide +kernel
theorem dX5_hold_36 : decode cX5_hold 36 = .ok (.sipush 1000, 3) := by decide +kernel
theorem dX5_hold_39 : decode cX5_hold 39 = .ok (.if_icmp .le 13, 3) := by decide +kernel
theorem dX5_hold_42 : decode cX5_hold 42 = .ok (.new 41, 3) := by decide +kernel
theorem dX5_hold_45 : decode cX5_hold 45 = .ok (.dup, 1) := by decide +kernel
theorem dX5_hold_46 : decode cX5_hold 46 = .ok (.ldc 128, 2) := by decide +kernel
theorem dX5_hold_48 : decode cX5_hold 48 = .ok (.invokespecial 45, 3) := by decide +kernel
theorem dX5_hold_51 : decode cX5_hold 51 = .ok (.athrow, 1) := by decide +kernel
theorem dX5_hold_52 : decode cX5_hold 52 = .ok (.aload_n 0, 1) := by decide +kernel
theorem dX5_hold_53 : decode cX5_hold 53 = .ok (.getfield 15, 3) := by decide +kernel
theorem dX5_hold_56 : decode cX5_hold 56 = .ok (.iload_n 1, 1) := by decide +kernel
theorem dX5_hold_57 : decode cX5_hold 57 = .ok (.iload_n 2, 1) := by decide +kernel
theorem dX5_hold_58 : decode cX5_hold 58 = .ok (.iload_n 3, 1) := by decide +kernel
theorem dX5_hold_59 : decode cX5_hold 59 = .ok (.invokevirtual 130, 3) := by decide +kernel
theorem dX5_hold_62 : decode cX5_hold 62 = .ok (.aload_n 0, 1) := by decide +kernel
theorem dX5_hold_63 : decode cX5_hold 63 = .ok (.iload_n 1, 1) := by decide +kernel
theorem dX5_hold_64 : decode cX5_hold 64 = .ok (.invokevirtual 134, 3) := by decide +kernel
theorem dX5_hold_67 : decode cX5_hold 67 = .ok (.ifCond .eq 7, 3) := by decide +kernel
theorem dX5_hold_70 : decode cX5_hold 70 = .ok (.iconst 1, 1) := by decide +kernel
theorem dX5_hold_71 : decode cX5_hold 71 = .ok (.goto 4, 3) := by decide +kernel
theorem dX5_hold_74 : decode cX5_hold 74 = .ok (.iconst 0, 1) := by decide +kernel
theorem dX5_hold_75 : decode cX5_hold 75 = .ok (.ireturn, 1) := by decide +kernel
theorem dX5_release_0 : decode cX5_release 0 = .ok (.aload_n 0, 1) := by decide +kernel
theorem dX5_release_1 : decode cX5_release 1 = .ok (.iload_n 1, 1) := by decide +kernel
theorem dX5_release_2 : decode cX5_release 2 = .ok (.invokevirtual 98, 3) := by decide +kernel
theorem dX5_release_5 : decode cX5_release 5 = .ok (.aload_n 0, 1) := by decide +kernel
theorem dX5_release_6 : decode cX5_release 6 = .ok (.getfield 15, 3) := by decide +kernel
theorem dX5_release_9 : decode cX5_release 9 = .ok (.iload_n 1, 1) := by decide +kernel
theorem dX5_release_10 : decode cX5_release 10 = .ok (.invokevirtual 137, 3) := by decide +kernel
theorem dX5_release_13 : decode cX5_release 13 = .ok (.ifCond .ne 13, 3) := by decide +kernel
theorem dX5_release_16 : decode cX5_release 16 = .ok (.new 52, 3) := by decide +kernel
theorem dX5_release_19 : decode cX5_release 19 = .ok (.dup, 1) := by decide +kernel
theorem dX5_release_20 : decode cX5_release 20 = .ok (.ldc 140, 2) := by decide +kernel
theorem dX5_release_22 : decode cX5_release 22 = .ok (.invokespecial 56, 3) := by decide +kernel
theorem dX5_release_25 : decode cX5_release 25 = .ok (.athrow, 1) := by decide +kernel
theorem dX5_release_26 : decode cX5_release 26 = .ok (.aload_n 0, 1) := by decide +kernel
theorem dX5_release_27 : decode cX5_release 27 = .ok (.getfield 15, 3) := by decide +kernel
theorem dX5_release_30 : decode cX5_release 30 = .ok (.iload_n 1, 1) := by decide +kernel
theorem dX5_release_31 : decode cX5_release 31 = .ok (.invokevirtual 142, 3) := by decide +kernel
theorem dX5_release_34 : decode cX5_release 34 = .ok (.istore_n 2, 1) := by decide +kernel
theorem dX5_release_35 : decode cX5_release 35 = .ok (.aload_n 0, 1) := by decide +kernel
theorem dX5_release_36 : decode cX5_release 36 = .ok (.getfield 15, 3) := by decide +kernel
theorem dX5_release_39 : decode cX5_release 39 = .ok (.iload_n 1, 1) := by decide +kernel
theorem dX5_release_40 : decode cX5_release 40 = .ok (.invokevirtual 145, 3) := by decide +kernel
theorem dX5_release_43 : decode cX5_release 43 = .ok (.iload_n 2, 1) := by decide +kernel
theorem dX5_release_44 : decode cX5_release 44 = .ok (.ireturn, 1) := by decide +kernel
theorem dX5_holdOf_0 : decode cX5_holdOf 0 = .ok (.aload_n 0, 1) := by decide +kernel
theorem dX5_holdOf_1 : decode cX5_holdOf 1 = .ok (.iload_n 1, 1) := by decide +kernel
theorem dX5_holdOf_2 : decode cX5_holdOf 2 = .ok (.invokevirtual 98, 3) := by decide +kernel
theorem dX5_holdOf_5 : decode cX5_holdOf 5 = .ok (.aload_n 0, 1) := by decide +kernel
theorem dX5_holdOf_6 : decode cX5_holdOf 6 = .ok (.getfield 15, 3) := by decide +kernel
theorem dX5_holdOf_9 : decode cX5_holdOf 9 = .ok (.iload_n 1, 1) := by decide +kernel
theorem dX5_holdOf_10 : decode cX5_holdOf 10 = .ok (.invokevirtual 148, 3) := by decide +kernel
theorem dX5_holdOf_13 : decode cX5_holdOf 13 = .ok (.ireturn, 1) := by decide +kernel
theorem dX5_heldUntil_0 : decode cX5_heldUntil 0 = .ok (.aload_n 0, 1) := by decide +kernel
theorem dX5_heldUntil_1 : decode cX5_heldUntil 1 = .ok (.iload_n 1, 1) := by decide +kernel
theorem dX5_heldUntil_2 : decode cX5_heldUntil 2 = .ok (.invokevirtual 98, 3) := by decide +kernel
theorem dX5_heldUntil_5 : decode cX5_heldUntil 5 = .ok (.aload_n 0, 1) := by decide +kernel
theorem dX5_heldUntil_6 : decode cX5_heldUntil 6 = .ok (.getfield 15, 3) := by decide +kernel
theorem dX5_heldUntil_9 : decode cX5_heldUntil 9 = .ok (.iload_n 1, 1) := by decide +kernel
theorem dX5_heldUntil_10 : decode cX5_heldUntil 10 = .ok (.invokevirtual 137, 3) := by decide +kernel
theorem dX5_heldUntil_13 : decode cX5_heldUntil 13 = .ok (.ifCond .ne 13, 3) := by decide +kernel
theorem dX5_heldUntil_16 : decode cX5_heldUntil 16 = .ok (.new 117, 3) := by decide +kernel
theorem dX5_heldUntil_19 : decode cX5_heldUntil 19 = .ok (.dup, 1) := by decide +kernel
theorem dX5_heldUntil_20 : decode cX5_heldUntil 20 = .ok (.ldc 140, 2) := by decide +kernel
theorem dX5_heldUntil_22 : decode cX5_heldUntil 22 = .ok (.invokespecial 121, 3) := by decide +kernel
theorem dX5_heldUntil_25 : decode cX5_heldUntil 25 = .ok (.athrow, 1) := by decide +kernel
theorem dX5_heldUntil_26 : decode cX5_heldUntil 26 = .ok (.aload_n 0, 1) := by decide +kernel
theorem dX5_heldUntil_27 : decode cX5_heldUntil 27 = .ok (.getfield 15, 3) := by decide +kernel
theorem dX5_heldUntil_30 : decode cX5_heldUntil 30 = .ok (.iload_n 1, 1) := by decide +kernel
theorem dX5_heldUntil_31 : decode cX5_heldUntil 31 = .ok (.invokevirtual 142, 3) := by decide +kernel
theorem dX5_heldUntil_34 : decode cX5_heldUntil 34 = .ok (.ireturn, 1) := by decide +kernel
theorem dX5_pinnedAbove_0 : decode cX5_pinnedAbove 0 = .ok (.aload_n 0, 1) := by decide +kernel
theorem dX5_pinnedAbove_1 : decode cX5_pinnedAbove 1 = .ok (.iload_n 1, 1) := by decide +kernel
theorem dX5_pinnedAbove_2 : decode cX5_pinnedAbove 2 = .ok (.invokevirtual 98, 3) := by decide +kernel
theorem dX5_pinnedAbove_5 : decode cX5_pinnedAbove 5 = .ok (.aload_n 0, 1) := by decide +kernel
theorem dX5_pinnedAbove_6 : decode cX5_pinnedAbove 6 = .ok (.getfield 21, 3) := by decide +kernel
theorem dX5_pinnedAbove_9 : decode cX5_pinnedAbove 9 = .ok (.iload_n 1, 1) := by decide +kernel
theorem dX5_pinnedAbove_10 : decode cX5_pinnedAbove 10 = .ok (.invokevirtual 152, 3) := by decide +kernel
theorem dX5_pinnedAbove_13 : decode cX5_pinnedAbove 13 = .ok (.ireturn, 1) := by decide +kernel
theorem dX5_why_0 : decode cX5_why 0 = .ok (.aload_n 0, 1) := by decide +kernel
theorem dX5_why_1 : decode cX5_why 1 = .ok (.iload_n 1, 1) := by decide +kernel
theorem dX5_why_2 : decode cX5_why 2 = .ok (.invokevirtual 98, 3) := by decide +kernel
theorem dX5_why_5 : decode cX5_why 5 = .ok (.aload_n 0, 1) := by decide +kernel
theorem dX5_why_6 : decode cX5_why 6 = .ok (.iload_n 2, 1) := by decide +kernel
theorem dX5_why_7 : decode cX5_why 7 = .ok (.invokevirtual 61, 3) := by decide +kernel
theorem dX5_why_10 : decode cX5_why 10 = .ok (.aload_n 0, 1) := by decide +kernel
theorem dX5_why_11 : decode cX5_why 11 = .ok (.getfield 21, 3) := by decide +kernel
theorem dX5_why_14 : decode cX5_why 14 = .ok (.iload_n 1, 1) := by decide +kernel
theorem dX5_why_15 : decode cX5_why 15 = .ok (.iload_n 2, 1) := by decide +kernel
theorem dX5_why_16 : decode cX5_why 16 = .ok (.invokevirtual 155, 3) := by decide +kernel
theorem dX5_why_19 : decode cX5_why 19 = .ok (.ireturn, 1) := by decide +kernel
theorem dX5_move_0 : decode cX5_move 0 = .ok (.aload_n 0, 1) := by decide +kernel
theorem dX5_move_1 : decode cX5_move 1 = .ok (.iload_n 1, 1) := by decide +kernel
theorem dX5_move_2 : decode cX5_move 2 = .ok (.invokevirtual 98, 3) := by decide +kernel
theorem dX5_move_5 : decode cX5_move 5 = .ok (.aload_n 0, 1) := by decide +kernel
theorem dX5_move_6 : decode cX5_move 6 = .ok (.iload_n 2, 1) := by decide +kernel
theorem dX5_move_7 : decode cX5_move 7 = .ok (.invokevirtual 61, 3) := by decide +kernel
theorem dX5_move_10 : decode cX5_move 10 = .ok (.aload_n 0, 1) := by decide +kernel
theorem dX5_move_11 : decode cX5_move 11 = .ok (.getfield 21, 3) := by decide +kernel
theorem dX5_move_14 : decode cX5_move 14 = .ok (.iload_n 1, 1) := by decide +kernel
theorem dX5_move_15 : decode cX5_move 15 = .ok (.iload_n 2, 1) := by decide +kernel
theorem dX5_move_16 : decode cX5_move 16 = .ok (.invokevirtual 155, 3) := by decide +kernel
theorem dX5_move_19 : decode cX5_move 19 = .ok (.bipush 45, 2) := by decide +kernel
theorem dX5_move_21 : decode cX5_move 21 = .ok (.if_icmp .eq 13, 3) := by decide +kernel
theorem dX5_move_24 : decode cX5_move 24 = .ok (.new 75, 3) := by decide +kernel
theorem dX5_move_27 : decode cX5_move 27 = .ok (.dup, 1) := by decide +kernel
theorem dX5_move_28 : decode cX5_move 28 = .ok (.ldc 159, 2) := by decide +kernel
theorem dX5_move_30 : decode cX5_move 30 = .ok (.invokespecial 79, 3) := by decide +kernel
theorem dX5_move_33 : decode cX5_move 33 = .ok (.athrow, 1) := by decide +kernel
theorem dX5_move_34 : decode cX5_move 34 = .ok (.aload_n 0, 1) := by decide +kernel
theorem dX5_move_35 : decode cX5_move 35 = .ok (.iload_n 1, 1) := by decide +kernel
theorem dX5_move_36 : decode cX5_move 36 = .ok (.iload_n 2, 1) := by decide +kernel
theorem dX5_move_37 : decode cX5_move 37 = .ok (.invokevirtual 161, 3) := by decide +kernel
theorem dX5_move_40 : decode cX5_move 40 = .ok (.aload_n 0, 1) := by decide +kernel
theorem dX5_move_41 : decode cX5_move 41 = .ok (.getfield 164, 3) := by decide +kernel
theorem dX5_move_44 : decode cX5_move 44 = .ok (.ireturn, 1) := by decide +kernel
theorem dX5_planLength_0 : decode cX5_planLength 0 = .ok (.aload_n 0, 1) := by decide +kernel
theorem dX5_planLength_1 : decode cX5_planLength 1 = .ok (.iload_n 1, 1) := by decide +kernel
theorem dX5_planLength_2 : decode cX5_planLength 2 = .ok (.invokevirtual 167, 3) := by decide +kernel
theorem dX5_planLength_5 : decode cX5_planLength 5 = .ok (.aload_n 0, 1) := by decide +kernel
theorem dX5_planLength_6 : decode cX5_planLength 6 = .ok (.getfield 30, 3) := by decide +kernel
theorem dX5_planLength_9 : decode cX5_planLength 9 = .ok (.invokevirtual 170, 3) := by decide +kernel
theorem dX5_planLength_12 : decode cX5_planLength 12 = .ok (.ireturn, 1) := by decide +kernel
theorem dX5_planByTrying_0 : decode cX5_planByTrying 0 = .ok (.aload_n 0, 1) := by decide +kernel
theorem dX5_planByTrying_1 : decode cX5_planByTrying 1 = .ok (.iload_n 1, 1) := by decide +kernel
theorem dX5_planByTrying_2 : decode cX5_planByTrying 2 = .ok (.invokevirtual 98, 3) := by decide +kernel
theorem dX5_planByTrying_5 : decode cX5_planByTrying 5 = .ok (.aload_n 0, 1) := by decide +kernel
theorem dX5_planByTrying_6 : decode cX5_planByTrying 6 = .ok (.getfield 30, 3) := by decide +kernel
theorem dX5_planByTrying_9 : decode cX5_planByTrying 9 = .ok (.iload_n 1, 1) := by decide +kernel
theorem dX5_planByTrying_10 : decode cX5_planByTrying 10 = .ok (.invokevirtual 173, 3) := by decide +kernel
theorem dX5_planByTrying_13 : decode cX5_planByTrying 13 = .ok (.istore_n 2, 1) := by decide +kernel
theorem dX5_planByTrying_14 : decode cX5_planByTrying 14 = .ok (.iload_n 2, 1) := by decide +kernel
theorem dX5_planByTrying_15 : decode cX5_planByTrying 15 = .ok (.iconst (-1), 1) := by decide +kernel
theorem dX5_planByTrying_16 : decode cX5_planByTrying 16 = .ok (.if_icmp .ne 13, 3) := by decide +kernel
theorem dX5_planByTrying_19 : decode cX5_planByTrying 19 = .ok (.new 117, 3) := by decide +kernel
theorem dX5_planByTrying_22 : decode cX5_planByTrying 22 = .ok (.dup, 1) := by decide +kernel
theorem dX5_planByTrying_23 : decode cX5_planByTrying 23 = .ok (.ldc 176, 2) := by decide +kernel
theorem dX5_planByTrying_25 : decode cX5_planByTrying 25 = .ok (.invokespecial 121, 3) := by decide +kernel
theorem dX5_planByTrying_28 : decode cX5_planByTrying 28 = .ok (.athrow, 1) := by decide +kernel
theorem dX5_planByTrying_29 : decode cX5_planByTrying 29 = .ok (.iload_n 2, 1) := by decide +kernel
theorem dX5_planByTrying_30 : decode cX5_planByTrying 30 = .ok (.ireturn, 1) := by decide +kernel
theorem dX5_planBox_0 : decode cX5_planBox 0 = .ok (.aload_n 0, 1) := by decide +kernel
theorem dX5_planBox_1 : decode cX5_planBox 1 = .ok (.iload_n 1, 1) := by decide +kernel
theorem dX5_planBox_2 : decode cX5_planBox 2 = .ok (.invokevirtual 167, 3) := by decide +kernel
theorem dX5_planBox_5 : decode cX5_planBox 5 = .ok (.aload_n 0, 1) := by decide +kernel
theorem dX5_planBox_6 : decode cX5_planBox 6 = .ok (.iload_n 2, 1) := by decide +kernel
theorem dX5_planBox_7 : decode cX5_planBox 7 = .ok (.invokevirtual 178, 3) := by decide +kernel
theorem dX5_planBox_10 : decode cX5_planBox 10 = .ok (.aload_n 0, 1) := by decide +kernel
theorem dX5_planBox_11 : decode cX5_planBox 11 = .ok (.getfield 30, 3) := by decide +kernel
theorem dX5_planBox_14 : decode cX5_planBox 14 = .ok (.iload_n 2, 1) := by decide +kernel
theorem dX5_planBox_15 : decode cX5_planBox 15 = .ok (.invokevirtual 181, 3) := by decide +kernel
theorem dX5_planBox_18 : decode cX5_planBox 18 = .ok (.ireturn, 1) := by decide +kernel
theorem dX5_planStack_0 : decode cX5_planStack 0 = .ok (.aload_n 0, 1) := by decide +kernel
theorem dX5_planStack_1 : decode cX5_planStack 1 = .ok (.iload_n 1, 1) := by decide +kernel
theorem dX5_planStack_2 : decode cX5_planStack 2 = .ok (.invokevirtual 167, 3) := by decide +kernel
theorem dX5_planStack_5 : decode cX5_planStack 5 = .ok (.aload_n 0, 1) := by decide +kernel
theorem dX5_planStack_6 : decode cX5_planStack 6 = .ok (.iload_n 2, 1) := by decide +kernel
theorem dX5_planStack_7 : decode cX5_planStack 7 = .ok (.invokevirtual 178, 3) := by decide +kernel
theorem dX5_planStack_10 : decode cX5_planStack 10 = .ok (.aload_n 0, 1) := by decide +kernel
theorem dX5_planStack_11 : decode cX5_planStack 11 = .ok (.getfield 30, 3) := by decide +kernel
theorem dX5_planStack_14 : decode cX5_planStack 14 = .ok (.iload_n 2, 1) := by decide +kernel
theorem dX5_planStack_15 : decode cX5_planStack 15 = .ok (.invokevirtual 184, 3) := by decide +kernel
theorem dX5_planStack_18 : decode cX5_planStack 18 = .ok (.ireturn, 1) := by decide +kernel
theorem dX5_dig_0 : decode cX5_dig 0 = .ok (.aload_n 0, 1) := by decide +kernel
theorem dX5_dig_1 : decode cX5_dig 1 = .ok (.iload_n 1, 1) := by decide +kernel
theorem dX5_dig_2 : decode cX5_dig 2 = .ok (.invokevirtual 167, 3) := by decide +kernel
theorem dX5_dig_5 : decode cX5_dig 5 = .ok (.aload_n 0, 1) := by decide +kernel
theorem dX5_dig_6 : decode cX5_dig 6 = .ok (.invokevirtual 187, 3) := by decide +kernel
theorem dX5_dig_9 : decode cX5_dig 9 = .ok (.aload_n 0, 1) := by decide +kernel
theorem dX5_dig_10 : decode cX5_dig 10 = .ok (.getfield 30, 3) := by decide +kernel
theorem dX5_dig_13 : decode cX5_dig 13 = .ok (.invokevirtual 170, 3) := by decide +kernel
theorem dX5_dig_16 : decode cX5_dig 16 = .ok (.ireturn, 1) := by decide +kernel
theorem dX5_moves_0 : decode cX5_moves 0 = .ok (.aload_n 0, 1) := by decide +kernel
theorem dX5_moves_1 : decode cX5_moves 1 = .ok (.getfield 164, 3) := by decide +kernel
theorem dX5_moves_4 : decode cX5_moves 4 = .ok (.ireturn, 1) := by decide +kernel
theorem dX5_book_0 : decode cX5_book 0 = .ok (.aload_n 0, 1) := by decide +kernel
theorem dX5_book_1 : decode cX5_book 1 = .ok (.iload_n 1, 1) := by decide +kernel
theorem dX5_book_2 : decode cX5_book 2 = .ok (.invokevirtual 98, 3) := by decide +kernel
theorem dX5_book_5 : decode cX5_book 5 = .ok (.aload_n 0, 1) := by decide +kernel
theorem dX5_book_6 : decode cX5_book 6 = .ok (.iload_n 3, 1) := by decide +kernel
theorem dX5_book_7 : decode cX5_book 7 = .ok (.invokevirtual 190, 3) := by decide +kernel
theorem dX5_book_10 : decode cX5_book 10 = .ok (.iload_n 2, 1) := by decide +kernel
theorem dX5_book_11 : decode cX5_book 11 = .ok (.aload_n 0, 1) := by decide +kernel
theorem dX5_book_12 : decode cX5_book 12 = .ok (.getfield 124, 3) := by decide +kernel
theorem dX5_book_15 : decode cX5_book 15 = .ok (.if_icmp .le 10, 3) := by decide +kernel
theorem dX5_book_18 : decode cX5_book 18 = .ok (.iload_n 2, 1) := by decide +kernel
theorem dX5_book_19 : decode cX5_book 19 = .ok (.sipush 999, 3) := by decide +kernel
theorem dX5_book_22 : decode cX5_book 22 = .ok (.if_icmp .le 13, 3) := by decide +kernel
theorem dX5_book_25 : decode cX5_book 25 = .ok (.new 41, 3) := by decide +kernel
theorem dX5_book_28 : decode cX5_book 28 = .ok (.dup, 1) := by decide +kernel
theorem dX5_book_29 : decode cX5_book 29 = .ok (.ldc 193, 2) := by decide +kernel
theorem dX5_book_31 : decode cX5_book 31 = .ok (.invokespecial 45, 3) := by decide +kernel
theorem dX5_book_34 : decode cX5_book 34 = .ok (.athrow, 1) := by decide +kernel
theorem dX5_book_35 : decode cX5_book 35 = .ok (.aload_n 0, 1) := by decide +kernel
theorem dX5_book_36 : decode cX5_book 36 = .ok (.getfield 15, 3) := by decide +kernel
theorem dX5_book_39 : decode cX5_book 39 = .ok (.iload_n 1, 1) := by decide +kernel
theorem dX5_book_40 : decode cX5_book 40 = .ok (.iload_n 2, 1) := by decide +kernel
theorem dX5_book_41 : decode cX5_book 41 = .ok (.invokevirtual 195, 3) := by decide +kernel
theorem dX5_book_44 : decode cX5_book 44 = .ok (.ifCond .eq 13, 3) := by decide +kernel
theorem dX5_book_47 : decode cX5_book 47 = .ok (.new 75, 3) := by decide +kernel
theorem dX5_book_50 : decode cX5_book 50 = .ok (.dup, 1) := by decide +kernel
theorem dX5_book_51 : decode cX5_book 51 = .ok (.ldc 198, 2) := by decide +kernel
theorem dX5_book_53 : decode cX5_book 53 = .ok (.invokespecial 79, 3) := by decide +kernel
theorem dX5_book_56 : decode cX5_book 56 = .ok (.athrow, 1) := by decide +kernel
theorem dX5_book_57 : decode cX5_book 57 = .ok (.aload_n 0, 1) := by decide +kernel
theorem dX5_book_58 : decode cX5_book 58 = .ok (.getfield 37, 3) := by decide +kernel
theorem dX5_book_61 : decode cX5_book 61 = .ok (.iload_n 1, 1) := by decide +kernel
theorem dX5_book_62 : decode cX5_book 62 = .ok (.invokevirtual 200, 3) := by decide +kernel
theorem dX5_book_65 : decode cX5_book 65 = .ok (.iconst (-1), 1) := by decide +kernel
theorem dX5_book_66 : decode cX5_book 66 = .ok (.if_icmp .ne 16, 3) := by decide +kernel
theorem dX5_book_69 : decode cX5_book 69 = .ok (.aload_n 0, 1) := by decide +kernel
theorem dX5_book_70 : decode cX5_book 70 = .ok (.getfield 37, 3) := by decide +kernel
theorem dX5_book_73 : decode cX5_book 73 = .ok (.iload_n 3, 1) := by decide +kernel
theorem dX5_book_74 : decode cX5_book 74 = .ok (.iload_n 2, 1) := by decide +kernel
theorem dX5_book_75 : decode cX5_book 75 = .ok (.invokevirtual 203, 3) := by decide +kernel
theorem dX5_book_78 : decode cX5_book 78 = .ok (.iconst (-1), 1) := by decide +kernel
theorem dX5_book_79 : decode cX5_book 79 = .ok (.if_icmp .eq 13, 3) := by decide +kernel
theorem dX5_book_82 : decode cX5_book 82 = .ok (.new 52, 3) := by decide +kernel
theorem dX5_book_85 : decode cX5_book 85 = .ok (.dup, 1) := by decide +kernel
theorem dX5_book_86 : decode cX5_book 86 = .ok (.ldc 206, 2) := by decide +kernel
theorem dX5_book_88 : decode cX5_book 88 = .ok (.invokespecial 56, 3) := by decide +kernel
theorem dX5_book_91 : decode cX5_book 91 = .ok (.athrow, 1) := by decide +kernel
theorem dX5_book_92 : decode cX5_book 92 = .ok (.aload_n 0, 1) := by decide +kernel
theorem dX5_book_93 : decode cX5_book 93 = .ok (.getfield 37, 3) := by decide +kernel
theorem dX5_book_96 : decode cX5_book 96 = .ok (.invokevirtual 208, 3) := by decide +kernel
theorem dX5_book_99 : decode cX5_book 99 = .ok (.bipush 30, 2) := by decide +kernel
theorem dX5_book_101 : decode cX5_book 101 = .ok (.if_icmp .lt 13, 3) := by decide +kernel
theorem dX5_book_104 : decode cX5_book 104 = .ok (.new 52, 3) := by decide +kernel
theorem dX5_book_107 : decode cX5_book 107 = .ok (.dup, 1) := by decide +kernel
theorem dX5_book_108 : decode cX5_book 108 = .ok (.ldc 211, 2) := by decide +kernel
theorem dX5_book_110 : decode cX5_book 110 = .ok (.invokespecial 56, 3) := by decide +kernel
theorem dX5_book_113 : decode cX5_book 113 = .ok (.athrow, 1) := by decide +kernel
theorem dX5_book_114 : decode cX5_book 114 = .ok (.aload_n 0, 1) := by decide +kernel
theorem dX5_book_115 : decode cX5_book 115 = .ok (.getfield 37, 3) := by decide +kernel
theorem dX5_book_118 : decode cX5_book 118 = .ok (.iload_n 1, 1) := by decide +kernel
theorem dX5_book_119 : decode cX5_book 119 = .ok (.iload_n 2, 1) := by decide +kernel
theorem dX5_book_120 : decode cX5_book 120 = .ok (.iload_n 3, 1) := by decide +kernel
theorem dX5_book_121 : decode cX5_book 121 = .ok (.invokevirtual 213, 3) := by decide +kernel
theorem dX5_book_124 : decode cX5_book 124 = .ok (.ireturn, 1) := by decide +kernel
theorem dX5_cancel_0 : decode cX5_cancel 0 = .ok (.aload_n 0, 1) := by decide +kernel
theorem dX5_cancel_1 : decode cX5_cancel 1 = .ok (.iload_n 1, 1) := by decide +kernel
theorem dX5_cancel_2 : decode cX5_cancel 2 = .ok (.invokevirtual 216, 3) := by decide +kernel
theorem dX5_cancel_5 : decode cX5_cancel 5 = .ok (.aload_n 0, 1) := by decide +kernel
theorem dX5_cancel_6 : decode cX5_cancel 6 = .ok (.getfield 37, 3) := by decide +kernel
theorem dX5_cancel_9 : decode cX5_cancel 9 = .ok (.iload_n 1, 1) := by decide +kernel
theorem dX5_cancel_10 : decode cX5_cancel 10 = .ok (.invokevirtual 219, 3) := by decide +kernel
theorem dX5_cancel_13 : decode cX5_cancel 13 = .ok (.bipush 98, 2) := by decide +kernel
theorem dX5_cancel_15 : decode cX5_cancel 15 = .ok (.if_icmp .eq 13, 3) := by decide +kernel
theorem dX5_cancel_18 : decode cX5_cancel 18 = .ok (.new 52, 3) := by decide +kernel
theorem dX5_cancel_21 : decode cX5_cancel 21 = .ok (.dup, 1) := by decide +kernel
theorem dX5_cancel_22 : decode cX5_cancel 22 = .ok (.ldc 222, 2) := by decide +kernel
theorem dX5_cancel_24 : decode cX5_cancel 24 = .ok (.invokespecial 56, 3) := by decide +kernel
theorem dX5_cancel_27 : decode cX5_cancel 27 = .ok (.athrow, 1) := by decide +kernel
theorem dX5_cancel_28 : decode cX5_cancel 28 = .ok (.aload_n 0, 1) := by decide +kernel
theorem dX5_cancel_29 : decode cX5_cancel 29 = .ok (.getfield 37, 3) := by decide +kernel
theorem dX5_cancel_32 : decode cX5_cancel 32 = .ok (.iload_n 1, 1) := by decide +kernel
theorem dX5_cancel_33 : decode cX5_cancel 33 = .ok (.bipush 99, 2) := by decide +kernel
theorem dX5_cancel_35 : decode cX5_cancel 35 = .ok (.invokevirtual 224, 3) := by decide +kernel
theorem dX5_cancel_38 : decode cX5_cancel 38 = .ok (.aload_n 0, 1) := by decide +kernel
theorem dX5_cancel_39 : decode cX5_cancel 39 = .ok (.getfield 37, 3) := by decide +kernel
theorem dX5_cancel_42 : decode cX5_cancel 42 = .ok (.bipush 98, 2) := by decide +kernel
theorem dX5_cancel_44 : decode cX5_cancel 44 = .ok (.invokevirtual 228, 3) := by decide +kernel
theorem dX5_cancel_47 : decode cX5_cancel 47 = .ok (.ireturn, 1) := by decide +kernel
theorem dX5_stateOf_0 : decode cX5_stateOf 0 = .ok (.aload_n 0, 1) := by decide +kernel
theorem dX5_stateOf_1 : decode cX5_stateOf 1 = .ok (.iload_n 1, 1) := by decide +kernel
theorem dX5_stateOf_2 : decode cX5_stateOf 2 = .ok (.invokevirtual 216, 3) := by decide +kernel
theorem dX5_stateOf_5 : decode cX5_stateOf 5 = .ok (.aload_n 0, 1) := by decide +kernel
theorem dX5_stateOf_6 : decode cX5_stateOf 6 = .ok (.getfield 37, 3) := by decide +kernel
theorem dX5_stateOf_9 : decode cX5_stateOf 9 = .ok (.iload_n 1, 1) := by decide +kernel
theorem dX5_stateOf_10 : decode cX5_stateOf 10 = .ok (.invokevirtual 219, 3) := by decide +kernel
theorem dX5_stateOf_13 : decode cX5_stateOf 13 = .ok (.ireturn, 1) := by decide +kernel
theorem dX5_appointmentOf_0 : decode cX5_appointmentOf 0 = .ok (.aload_n 0, 1) := by decide +kernel
theorem dX5_appointmentOf_1 : decode cX5_appointmentOf 1 = .ok (.iload_n 1, 1) := by decide +kernel
theorem dX5_appointmentOf_2 : decode cX5_appointmentOf 2 = .ok (.invokevirtual 98, 3) := by decide +kernel
theorem dX5_appointmentOf_5 : decode cX5_appointmentOf 5 = .ok (.aload_n 0, 1) := by decide +kernel
theorem dX5_appointmentOf_6 : decode cX5_appointmentOf 6 = .ok (.getfield 37, 3) := by decide +kernel
theorem dX5_appointmentOf_9 : decode cX5_appointmentOf 9 = .ok (.iload_n 1, 1) := by decide +kernel
theorem dX5_appointmentOf_10 : decode cX5_appointmentOf 10 = .ok (.invokevirtual 200, 3) := by decide +kernel
theorem dX5_appointmentOf_13 : decode cX5_appointmentOf 13 = .ok (.istore_n 2, 1) := by decide +kernel
theorem dX5_appointmentOf_14 : decode cX5_appointmentOf 14 = .ok (.iload_n 2, 1) := by decide +kernel
theorem dX5_appointmentOf_15 : decode cX5_appointmentOf 15 = .ok (.iconst (-1), 1) := by decide +kernel
theorem dX5_appointmentOf_16 : decode cX5_appointmentOf 16 = .ok (.if_icmp .ne 13, 3) := by decide +kernel
theorem dX5_appointmentOf_19 : decode cX5_appointmentOf 19 = .ok (.new 117, 3) := by decide +kernel
theorem dX5_appointmentOf_22 : decode cX5_appointmentOf 22 = .ok (.dup, 1) := by decide +kernel
theorem dX5_appointmentOf_23 : decode cX5_appointmentOf 23 = .ok (.ldc 232, 2) := by decide +kernel
theorem dX5_appointmentOf_25 : decode cX5_appointmentOf 25 = .ok (.invokespecial 121, 3) := by decide +kernel
theorem dX5_appointmentOf_28 : decode cX5_appointmentOf 28 = .ok (.athrow, 1) := by decide +kernel
theorem dX5_appointmentOf_29 : decode cX5_appointmentOf 29 = .ok (.iload_n 2, 1) := by decide +kernel
theorem dX5_appointmentOf_30 : decode cX5_appointmentOf 30 = .ok (.ireturn, 1) := by decide +kernel
theorem dX5_inLane_0 : decode cX5_inLane 0 = .ok (.aload_n 0, 1) := by decide +kernel
theorem dX5_inLane_1 : decode cX5_inLane 1 = .ok (.iload_n 1, 1) := by decide +kernel
theorem dX5_inLane_2 : decode cX5_inLane 2 = .ok (.invokevirtual 190, 3) := by decide +kernel
theorem dX5_inLane_5 : decode cX5_inLane 5 = .ok (.iload_n 2, 1) := by decide +kernel
theorem dX5_inLane_6 : decode cX5_inLane 6 = .ok (.ifCond .lt 10, 3) := by decide +kernel
theorem dX5_inLane_9 : decode cX5_inLane 9 = .ok (.iload_n 2, 1) := by decide +kernel
theorem dX5_inLane_10 : decode cX5_inLane 10 = .ok (.sipush 999, 3) := by decide +kernel
theorem dX5_inLane_13 : decode cX5_inLane 13 = .ok (.if_icmp .le 13, 3) := by decide +kernel
theorem dX5_inLane_16 : decode cX5_inLane 16 = .ok (.new 41, 3) := by decide +kernel
theorem dX5_inLane_19 : decode cX5_inLane 19 = .ok (.dup, 1) := by decide +kernel
theorem dX5_inLane_20 : decode cX5_inLane 20 = .ok (.ldc 234, 2) := by decide +kernel
theorem dX5_inLane_22 : decode cX5_inLane 22 = .ok (.invokespecial 45, 3) := by decide +kernel
theorem dX5_inLane_25 : decode cX5_inLane 25 = .ok (.athrow, 1) := by decide +kernel
theorem dX5_inLane_26 : decode cX5_inLane 26 = .ok (.aload_n 0, 1) := by decide +kernel
theorem dX5_inLane_27 : decode cX5_inLane 27 = .ok (.getfield 37, 3) := by decide +kernel
theorem dX5_inLane_30 : decode cX5_inLane 30 = .ok (.iload_n 1, 1) := by decide +kernel
theorem dX5_inLane_31 : decode cX5_inLane 31 = .ok (.iload_n 2, 1) := by decide +kernel
theorem dX5_inLane_32 : decode cX5_inLane 32 = .ok (.invokevirtual 203, 3) := by decide +kernel
theorem dX5_inLane_35 : decode cX5_inLane 35 = .ok (.ireturn, 1) := by decide +kernel
theorem dX5_firstHour_0 : decode cX5_firstHour 0 = .ok (.aload_n 0, 1) := by decide +kernel
theorem dX5_firstHour_1 : decode cX5_firstHour 1 = .ok (.iload_n 1, 1) := by decide +kernel
theorem dX5_firstHour_2 : decode cX5_firstHour 2 = .ok (.invokevirtual 98, 3) := by decide +kernel
theorem dX5_firstHour_5 : decode cX5_firstHour 5 = .ok (.aload_n 0, 1) := by decide +kernel
theorem dX5_firstHour_6 : decode cX5_firstHour 6 = .ok (.getfield 124, 3) := by decide +kernel
theorem dX5_firstHour_9 : decode cX5_firstHour 9 = .ok (.iconst 1, 1) := by decide +kernel
theorem dX5_firstHour_10 : decode cX5_firstHour 10 = .ok (.iadd, 1) := by decide +kernel
theorem dX5_firstHour_11 : decode cX5_firstHour 11 = .ok (.istore_n 2, 1) := by decide +kernel
theorem dX5_firstHour_12 : decode cX5_firstHour 12 = .ok (.iload_n 2, 1) := by decide +kernel
theorem dX5_firstHour_13 : decode cX5_firstHour 13 = .ok (.sipush 999, 3) := by decide +kernel
theorem dX5_firstHour_16 : decode cX5_firstHour 16 = .ok (.if_icmp .gt 34, 3) := by decide +kernel
theorem dX5_firstHour_19 : decode cX5_firstHour 19 = .ok (.aload_n 0, 1) := by decide +kernel
theorem dX5_firstHour_20 : decode cX5_firstHour 20 = .ok (.getfield 15, 3) := by decide +kernel
theorem dX5_firstHour_23 : decode cX5_firstHour 23 = .ok (.iload_n 1, 1) := by decide +kernel
theorem dX5_firstHour_24 : decode cX5_firstHour 24 = .ok (.iload_n 2, 1) := by decide +kernel
theorem dX5_firstHour_25 : decode cX5_firstHour 25 = .ok (.invokevirtual 195, 3) := by decide +kernel
theorem dX5_firstHour_28 : decode cX5_firstHour 28 = .ok (.ifCond .ne 16, 3) := by decide +kernel
theorem dX5_firstHour_31 : decode cX5_firstHour 31 = .ok (.aload_n 0, 1) := by decide +kernel
theorem dX5_firstHour_32 : decode cX5_firstHour 32 = .ok (.getfield 37, 3) := by decide +kernel
theorem dX5_firstHour_35 : decode cX5_firstHour 35 = .ok (.iload_n 2, 1) := by decide +kernel
theorem dX5_firstHour_36 : decode cX5_firstHour 36 = .ok (.invokevirtual 236, 3) := by decide +kernel
theorem dX5_firstHour_39 : decode cX5_firstHour 39 = .ok (.ifCond .eq 5, 3) := by decide +kernel
theorem dX5_firstHour_42 : decode cX5_firstHour 42 = .ok (.iload_n 2, 1) := by decide +kernel
theorem dX5_firstHour_43 : decode cX5_firstHour 43 = .ok (.ireturn, 1) := by decide +kernel
theorem dX5_firstHour_44 : decode cX5_firstHour 44 = .ok (.iinc 2 1, 3) := by decide +kernel
theorem dX5_firstHour_47 : decode cX5_firstHour 47 = .ok (.goto (-35), 3) := by decide +kernel
theorem dX5_firstHour_50 : decode cX5_firstHour 50 = .ok (.new 117, 3) := by decide +kernel
theorem dX5_firstHour_53 : decode cX5_firstHour 53 = .ok (.dup, 1) := by decide +kernel
theorem dX5_firstHour_54 : decode cX5_firstHour 54 = .ok (.ldc 239, 2) := by decide +kernel
theorem dX5_firstHour_56 : decode cX5_firstHour 56 = .ok (.invokespecial 121, 3) := by decide +kernel
theorem dX5_firstHour_59 : decode cX5_firstHour 59 = .ok (.athrow, 1) := by decide +kernel
theorem dX5_pass_0 : decode cX5_pass 0 = .ok (.iload_n 1, 1) := by decide +kernel
theorem dX5_pass_1 : decode cX5_pass 1 = .ok (.iconst 1, 1) := by decide +kernel
theorem dX5_pass_2 : decode cX5_pass 2 = .ok (.if_icmp .lt 21, 3) := by decide +kernel
theorem dX5_pass_5 : decode cX5_pass 5 = .ok (.iload_n 1, 1) := by decide +kernel
theorem dX5_pass_6 : decode cX5_pass 6 = .ok (.bipush 24, 2) := by decide +kernel
theorem dX5_pass_8 : decode cX5_pass 8 = .ok (.if_icmp .gt 15, 3) := by decide +kernel
theorem dX5_pass_11 : decode cX5_pass 11 = .ok (.iload_n 1, 1) := by decide +kernel
theorem dX5_pass_12 : decode cX5_pass 12 = .ok (.sipush 999, 3) := by decide +kernel
theorem dX5_pass_15 : decode cX5_pass 15 = .ok (.aload_n 0, 1) := by decide +kernel
theorem dX5_pass_16 : decode cX5_pass 16 = .ok (.getfield 124, 3) := by decide +kernel
theorem dX5_pass_19 : decode cX5_pass 19 = .ok (.isub, 1) := by decide +kernel
theorem dX5_pass_20 : decode cX5_pass 20 = .ok (.if_icmp .le 13, 3) := by decide +kernel
theorem dX5_pass_23 : decode cX5_pass 23 = .ok (.new 41, 3) := by decide +kernel
theorem dX5_pass_26 : decode cX5_pass 26 = .ok (.dup, 1) := by decide +kernel
theorem dX5_pass_27 : decode cX5_pass 27 = .ok (.ldc 241, 2) := by decide +kernel
theorem dX5_pass_29 : decode cX5_pass 29 = .ok (.invokespecial 45, 3) := by decide +kernel
theorem dX5_pass_32 : decode cX5_pass 32 = .ok (.athrow, 1) := by decide +kernel
theorem dX5_pass_33 : decode cX5_pass 33 = .ok (.iconst 0, 1) := by decide +kernel
theorem dX5_pass_34 : decode cX5_pass 34 = .ok (.istore_n 2, 1) := by decide +kernel
theorem dX5_pass_35 : decode cX5_pass 35 = .ok (.iconst 0, 1) := by decide +kernel
theorem dX5_pass_36 : decode cX5_pass 36 = .ok (.istore_n 3, 1) := by decide +kernel
theorem dX5_pass_37 : decode cX5_pass 37 = .ok (.iload_n 3, 1) := by decide +kernel
theorem dX5_pass_38 : decode cX5_pass 38 = .ok (.iload_n 1, 1) := by decide +kernel
theorem dX5_pass_39 : decode cX5_pass 39 = .ok (.if_icmp .ge 65, 3) := by decide +kernel
theorem dX5_pass_42 : decode cX5_pass 42 = .ok (.aload_n 0, 1) := by decide +kernel
theorem dX5_pass_43 : decode cX5_pass 43 = .ok (.dup, 1) := by decide +kernel
theorem dX5_pass_44 : decode cX5_pass 44 = .ok (.getfield 124, 3) := by decide +kernel
theorem dX5_pass_47 : decode cX5_pass 47 = .ok (.iconst 1, 1) := by decide +kernel
theorem dX5_pass_48 : decode cX5_pass 48 = .ok (.iadd, 1) := by decide +kernel
theorem dX5_pass_49 : decode cX5_pass 49 = .ok (.putfield 124, 3) := by decide +kernel
theorem dX5_pass_52 : decode cX5_pass 52 = .ok (.aload_n 0, 1) := by decide +kernel
theorem dX5_pass_53 : decode cX5_pass 53 = .ok (.getfield 15, 3) := by decide +kernel
theorem dX5_pass_56 : decode cX5_pass 56 = .ok (.aload_n 0, 1) := by decide +kernel
theorem dX5_pass_57 : decode cX5_pass 57 = .ok (.getfield 124, 3) := by decide +kernel
theorem dX5_pass_60 : decode cX5_pass 60 = .ok (.invokevirtual 243, 3) := by decide +kernel
theorem dX5_pass_63 : decode cX5_pass 63 = .ok (.iconst 0, 1) := by decide +kernel
theorem dX5_pass_64 : decode cX5_pass 64 = .ok (.istore 4, 2) := by decide +kernel
theorem dX5_pass_66 : decode cX5_pass 66 = .ok (.iload 4, 2) := by decide +kernel
theorem dX5_pass_68 : decode cX5_pass 68 = .ok (.iconst 3, 1) := by decide +kernel
theorem dX5_pass_69 : decode cX5_pass 69 = .ok (.if_icmp .ge 29, 3) := by decide +kernel
theorem dX5_pass_72 : decode cX5_pass 72 = .ok (.iload_n 2, 1) := by decide +kernel
theorem dX5_pass_73 : decode cX5_pass 73 = .ok (.aload_n 0, 1) := by decide +kernel
theorem dX5_pass_74 : decode cX5_pass 74 = .ok (.aload_n 0, 1) := by decide +kernel
theorem dX5_pass_75 : decode cX5_pass 75 = .ok (.getfield 37, 3) := by decide +kernel
theorem dX5_pass_78 : decode cX5_pass 78 = .ok (.iload 4, 2) := by decide +kernel
theorem dX5_pass_80 : decode cX5_pass 80 = .ok (.aload_n 0, 1) := by decide +kernel
theorem dX5_pass_81 : decode cX5_pass 81 = .ok (.getfield 124, 3) := by decide +kernel
theorem dX5_pass_84 : decode cX5_pass 84 = .ok (.invokevirtual 203, 3) := by decide +kernel
theorem dX5_pass_87 : decode cX5_pass 87 = .ok (.invokevirtual 246, 3) := by decide +kernel
theorem dX5_pass_90 : decode cX5_pass 90 = .ok (.iadd, 1) := by decide +kernel
theorem dX5_pass_91 : decode cX5_pass 91 = .ok (.istore_n 2, 1) := by decide +kernel
theorem dX5_pass_92 : decode cX5_pass 92 = .ok (.iinc 4 1, 3) := by decide +kernel
theorem dX5_pass_95 : decode cX5_pass 95 = .ok (.goto (-29), 3) := by decide +kernel
theorem dX5_pass_98 : decode cX5_pass 98 = .ok (.iinc 3 1, 3) := by decide +kernel
theorem dX5_pass_101 : decode cX5_pass 101 = .ok (.goto (-64), 3) := by decide +kernel
theorem dX5_pass_104 : decode cX5_pass 104 = .ok (.iload_n 2, 1) := by decide +kernel
theorem dX5_pass_105 : decode cX5_pass 105 = .ok (.ireturn, 1) := by decide +kernel
theorem dX5_now_0 : decode cX5_now 0 = .ok (.aload_n 0, 1) := by decide +kernel
theorem dX5_now_1 : decode cX5_now 1 = .ok (.getfield 124, 3) := by decide +kernel
theorem dX5_now_4 : decode cX5_now 4 = .ok (.ireturn, 1) := by decide +kernel
theorem dX5_weightLeft_0 : decode cX5_weightLeft 0 = .ok (.aload_n 0, 1) := by decide +kernel
theorem dX5_weightLeft_1 : decode cX5_weightLeft 1 = .ok (.getfield 249, 3) := by decide +kernel
theorem dX5_weightLeft_4 : decode cX5_weightLeft 4 = .ok (.lreturn, 1) := by decide +kernel
theorem dX5_requireStack_0 : decode cX5_requireStack 0 = .ok (.aload_n 0, 1) := by decide +kernel
theorem dX5_requireStack_1 : decode cX5_requireStack 1 = .ok (.getfield 21, 3) := by decide +kernel
theorem dX5_requireStack_4 : decode cX5_requireStack 4 = .ok (.iload_n 1, 1) := by decide +kernel
theorem dX5_requireStack_5 : decode cX5_requireStack 5 = .ok (.invokevirtual 255, 3) := by decide +kernel
theorem dX5_requireStack_8 : decode cX5_requireStack 8 = .ok (.ifCond .ne 14, 3) := by decide +kernel
theorem dX5_requireStack_11 : decode cX5_requireStack 11 = .ok (.new 258, 3) := by decide +kernel
theorem dX5_requireStack_14 : decode cX5_requireStack 14 = .ok (.dup, 1) := by decide +kernel
theorem dX5_requireStack_15 : decode cX5_requireStack 15 = .ok (.ldc_w 260, 3) := by decide +kernel
theorem dX5_requireStack_18 : decode cX5_requireStack 18 = .ok (.invokespecial 262, 3) := by decide +kernel
theorem dX5_requireStack_21 : decode cX5_requireStack 21 = .ok (.athrow, 1) := by decide +kernel
theorem dX5_requireStack_22 : decode cX5_requireStack 22 = .ok (.return_, 1) := by decide +kernel
theorem dX5_requireBox_0 : decode cX5_requireBox 0 = .ok (.aload_n 0, 1) := by decide +kernel
theorem dX5_requireBox_1 : decode cX5_requireBox 1 = .ok (.getfield 21, 3) := by decide +kernel
theorem dX5_requireBox_4 : decode cX5_requireBox 4 = .ok (.iload_n 1, 1) := by decide +kernel
theorem dX5_requireBox_5 : decode cX5_requireBox 5 = .ok (.invokevirtual 95, 3) := by decide +kernel
theorem dX5_requireBox_8 : decode cX5_requireBox 8 = .ok (.iconst (-1), 1) := by decide +kernel
theorem dX5_requireBox_9 : decode cX5_requireBox 9 = .ok (.if_icmp .ne 14, 3) := by decide +kernel
theorem dX5_requireBox_12 : decode cX5_requireBox 12 = .ok (.new 258, 3) := by decide +kernel
theorem dX5_requireBox_15 : decode cX5_requireBox 15 = .ok (.dup, 1) := by decide +kernel
theorem dX5_requireBox_16 : decode cX5_requireBox 16 = .ok (.ldc_w 263, 3) := by decide +kernel
theorem dX5_requireBox_19 : decode cX5_requireBox 19 = .ok (.invokespecial 262, 3) := by decide +kernel
theorem dX5_requireBox_22 : decode cX5_requireBox 22 = .ok (.athrow, 1) := by decide +kernel
theorem dX5_requireBox_23 : decode cX5_requireBox 23 = .ok (.return_, 1) := by decide +kernel
theorem dX5_requireLane_0 : decode cX5_requireLane 0 = .ok (.iload_n 1, 1) := by decide +kernel
theorem dX5_requireLane_1 : decode cX5_requireLane 1 = .ok (.ifCond .lt 8, 3) := by decide +kernel
theorem dX5_requireLane_4 : decode cX5_requireLane 4 = .ok (.iload_n 1, 1) := by decide +kernel
theorem dX5_requireLane_5 : decode cX5_requireLane 5 = .ok (.iconst 3, 1) := by decide +kernel
theorem dX5_requireLane_6 : decode cX5_requireLane 6 = .ok (.if_icmp .lt 14, 3) := by decide +kernel
theorem dX5_requireLane_9 : decode cX5_requireLane 9 = .ok (.new 258, 3) := by decide +kernel
theorem dX5_requireLane_12 : decode cX5_requireLane 12 = .ok (.dup, 1) := by decide +kernel
theorem dX5_requireLane_13 : decode cX5_requireLane 13 = .ok (.ldc_w 265, 3) := by decide +kernel
theorem dX5_requireLane_16 : decode cX5_requireLane 16 = .ok (.invokespecial 262, 3) := by decide +kernel
theorem dX5_requireLane_19 : decode cX5_requireLane 19 = .ok (.athrow, 1) := by decide +kernel
theorem dX5_requireLane_20 : decode cX5_requireLane 20 = .ok (.return_, 1) := by decide +kernel
theorem dX5_requireAppointment_0 : decode cX5_requireAppointment 0 = .ok (.iload_n 1, 1) := by decide +kernel
theorem dX5_requireAppointment_1 : decode cX5_requireAppointment 1 = .ok (.ifCond .lt 14, 3) := by decide +kernel
theorem dX5_requireAppointment_4 : decode cX5_requireAppointment 4 = .ok (.iload_n 1, 1) := by decide +kernel
theorem dX5_requireAppointment_5 : decode cX5_requireAppointment 5 = .ok (.aload_n 0, 1) := by decide +kernel
theorem dX5_requireAppointment_6 : decode cX5_requireAppointment 6 = .ok (.getfield 37, 3) := by decide +kernel
theorem dX5_requireAppointment_9 : decode cX5_requireAppointment 9 = .ok (.invokevirtual 208, 3) := by decide +kernel
theorem dX5_requireAppointment_12 : decode cX5_requireAppointment 12 = .ok (.if_icmp .lt 14, 3) := by decide +kernel
theorem dX5_requireAppointment_15 : decode cX5_requireAppointment 15 = .ok (.new 258, 3) := by decide +kernel
theorem dX5_requireAppointment_18 : decode cX5_requireAppointment 18 = .ok (.dup, 1) := by decide +kernel
theorem dX5_requireAppointment_19 : decode cX5_requireAppointment 19 = .ok (.ldc_w 267, 3) := by decide +kernel
theorem dX5_requireAppointment_22 : decode cX5_requireAppointment 22 = .ok (.invokespecial 262, 3) := by decide +kernel
theorem dX5_requireAppointment_25 : decode cX5_requireAppointment 25 = .ok (.athrow, 1) := by decide +kernel
theorem dX5_requireAppointment_26 : decode cX5_requireAppointment 26 = .ok (.return_, 1) := by decide +kernel
theorem dX5_requirePlan_0 : decode cX5_requirePlan 0 = .ok (.aload_n 0, 1) := by decide +kernel
theorem dX5_requirePlan_1 : decode cX5_requirePlan 1 = .ok (.iload_n 1, 1) := by decide +kernel
theorem dX5_requirePlan_2 : decode cX5_requirePlan 2 = .ok (.invokevirtual 98, 3) := by decide +kernel
theorem dX5_requirePlan_5 : decode cX5_requirePlan 5 = .ok (.aload_n 0, 1) := by decide +kernel
theorem dX5_requirePlan_6 : decode cX5_requirePlan 6 = .ok (.getfield 30, 3) := by decide +kernel
theorem dX5_requirePlan_9 : decode cX5_requirePlan 9 = .ok (.iload_n 1, 1) := by decide +kernel
theorem dX5_requirePlan_10 : decode cX5_requirePlan 10 = .ok (.invokevirtual 269, 3) := by decide +kernel
theorem dX5_requirePlan_13 : decode cX5_requirePlan 13 = .ok (.ifCond .ne 13, 3) := by decide +kernel
theorem dX5_requirePlan_16 : decode cX5_requirePlan 16 = .ok (.new 117, 3) := by decide +kernel
theorem dX5_requirePlan_19 : decode cX5_requirePlan 19 = .ok (.dup, 1) := by decide +kernel
theorem dX5_requirePlan_20 : decode cX5_requirePlan 20 = .ok (.ldc 176, 2) := by decide +kernel
theorem dX5_requirePlan_22 : decode cX5_requirePlan 22 = .ok (.invokespecial 121, 3) := by decide +kernel
theorem dX5_requirePlan_25 : decode cX5_requirePlan 25 = .ok (.athrow, 1) := by decide +kernel
theorem dX5_requirePlan_26 : decode cX5_requirePlan 26 = .ok (.return_, 1) := by decide +kernel
theorem dX5_requirePlannedMove_0 : decode cX5_requirePlannedMove 0 = .ok (.iload_n 1, 1) := by decide +kernel
theorem dX5_requirePlannedMove_1 : decode cX5_requirePlannedMove 1 = .ok (.ifCond .lt 14, 3) := by decide +kernel
theorem dX5_requirePlannedMove_4 : decode cX5_requirePlannedMove 4 = .ok (.iload_n 1, 1) := by decide +kernel
theorem dX5_requirePlannedMove_5 : decode cX5_requirePlannedMove 5 = .ok (.aload_n 0, 1) := by decide +kernel
theorem dX5_requirePlannedMove_6 : decode cX5_requirePlannedMove 6 = .ok (.getfield 30, 3) := by decide +kernel
theorem dX5_requirePlannedMove_9 : decode cX5_requirePlannedMove 9 = .ok (.invokevirtual 170, 3) := by decide +kernel
theorem dX5_requirePlannedMove_12 : decode cX5_requirePlannedMove 12 = .ok (.if_icmp .lt 14, 3) := by decide +kernel
theorem dX5_requirePlannedMove_15 : decode cX5_requirePlannedMove 15 = .ok (.new 117, 3) := by decide +kernel
theorem dX5_requirePlannedMove_18 : decode cX5_requirePlannedMove 18 = .ok (.dup, 1) := by decide +kernel
theorem dX5_requirePlannedMove_19 : decode cX5_requirePlannedMove 19 = .ok (.ldc_w 272, 3) := by decide +kernel
theorem dX5_requirePlannedMove_22 : decode cX5_requirePlannedMove 22 = .ok (.invokespecial 121, 3) := by decide +kernel
theorem dX5_requirePlannedMove_25 : decode cX5_requirePlannedMove 25 = .ok (.athrow, 1) := by decide +kernel
theorem dX5_requirePlannedMove_26 : decode cX5_requirePlannedMove 26 = .ok (.return_, 1) := by decide +kernel
theorem dX5_makeMove_0 : decode cX5_makeMove 0 = .ok (.aload_n 0, 1) := by decide +kernel
theorem dX5_makeMove_1 : decode cX5_makeMove 1 = .ok (.getfield 21, 3) := by decide +kernel
theorem dX5_makeMove_4 : decode cX5_makeMove 4 = .ok (.aload_n 0, 1) := by decide +kernel
theorem dX5_makeMove_5 : decode cX5_makeMove 5 = .ok (.getfield 21, 3) := by decide +kernel
theorem dX5_makeMove_8 : decode cX5_makeMove 8 = .ok (.iload_n 1, 1) := by decide +kernel
theorem dX5_makeMove_9 : decode cX5_makeMove 9 = .ok (.invokevirtual 95, 3) := by decide +kernel
theorem dX5_makeMove_12 : decode cX5_makeMove 12 = .ok (.iload_n 2, 1) := by decide +kernel
theorem dX5_makeMove_13 : decode cX5_makeMove 13 = .ok (.invokevirtual 274, 3) := by decide +kernel
theorem dX5_makeMove_16 : decode cX5_makeMove 16 = .ok (.aload_n 0, 1) := by decide +kernel
theorem dX5_makeMove_17 : decode cX5_makeMove 17 = .ok (.dup, 1) := by decide +kernel
theorem dX5_makeMove_18 : decode cX5_makeMove 18 = .ok (.getfield 164, 3) := by decide +kernel
theorem dX5_makeMove_21 : decode cX5_makeMove 21 = .ok (.iconst 1, 1) := by decide +kernel
theorem dX5_makeMove_22 : decode cX5_makeMove 22 = .ok (.iadd, 1) := by decide +kernel
theorem dX5_makeMove_23 : decode cX5_makeMove 23 = .ok (.putfield 164, 3) := by decide +kernel
theorem dX5_makeMove_26 : decode cX5_makeMove 26 = .ok (.return_, 1) := by decide +kernel
theorem dX5_makePlannedMoves_0 : decode cX5_makePlannedMoves 0 = .ok (.iconst 0, 1) := by decide +kernel
theorem dX5_makePlannedMoves_1 : decode cX5_makePlannedMoves 1 = .ok (.istore_n 1, 1) := by decide +kernel
theorem dX5_makePlannedMoves_2 : decode cX5_makePlannedMoves 2 = .ok (.iload_n 1, 1) := by decide +kernel
theorem dX5_makePlannedMoves_3 : decode cX5_makePlannedMoves 3 = .ok (.aload_n 0, 1) := by decide +kernel
theorem dX5_makePlannedMoves_4 : decode cX5_makePlannedMoves 4 = .ok (.getfield 30, 3) := by decide +kernel
theorem dX5_makePlannedMoves_7 : decode cX5_makePlannedMoves 7 = .ok (.invokevirtual 170, 3) := by decide +kernel
theorem dX5_makePlannedMoves_10 : decode cX5_makePlannedMoves 10 = .ok (.if_icmp .ge 29, 3) := by decide +kernel
theorem dX5_makePlannedMoves_13 : decode cX5_makePlannedMoves 13 = .ok (.aload_n 0, 1) := by decide +kernel
theorem dX5_makePlannedMoves_14 : decode cX5_makePlannedMoves 14 = .ok (.aload_n 0, 1) := by decide +kernel
theorem dX5_makePlannedMoves_15 : decode cX5_makePlannedMoves 15 = .ok (.getfield 30, 3) := by decide +kernel
theorem dX5_makePlannedMoves_18 : decode cX5_makePlannedMoves 18 = .ok (.iload_n 1, 1) := by decide +kernel
theorem dX5_makePlannedMoves_19 : decode cX5_makePlannedMoves 19 = .ok (.invokevirtual 181, 3) := by decide +kernel
theorem dX5_makePlannedMoves_22 : decode cX5_makePlannedMoves 22 = .ok (.aload_n 0, 1) := by decide +kernel
theorem dX5_makePlannedMoves_23 : decode cX5_makePlannedMoves 23 = .ok (.getfield 30, 3) := by decide +kernel
theorem dX5_makePlannedMoves_26 : decode cX5_makePlannedMoves 26 = .ok (.iload_n 1, 1) := by decide +kernel
theorem dX5_makePlannedMoves_27 : decode cX5_makePlannedMoves 27 = .ok (.invokevirtual 184, 3) := by decide +kernel
theorem dX5_makePlannedMoves_30 : decode cX5_makePlannedMoves 30 = .ok (.invokevirtual 161, 3) := by decide +kernel
theorem dX5_makePlannedMoves_33 : decode cX5_makePlannedMoves 33 = .ok (.iinc 1 1, 3) := by decide +kernel
theorem dX5_makePlannedMoves_36 : decode cX5_makePlannedMoves 36 = .ok (.goto (-34), 3) := by decide +kernel
theorem dX5_makePlannedMoves_39 : decode cX5_makePlannedMoves 39 = .ok (.return_, 1) := by decide +kernel
theorem dX5_giveBackIfHeld_0 : decode cX5_giveBackIfHeld 0 = .ok (.aload_n 0, 1) := by decide +kernel
theorem dX5_giveBackIfHeld_1 : decode cX5_giveBackIfHeld 1 = .ok (.getfield 37, 3) := by decide +kernel
theorem dX5_giveBackIfHeld_4 : decode cX5_giveBackIfHeld 4 = .ok (.iload_n 1, 1) := by decide +kernel
theorem dX5_giveBackIfHeld_5 : decode cX5_giveBackIfHeld 5 = .ok (.invokevirtual 200, 3) := by decide +kernel
theorem dX5_giveBackIfHeld_8 : decode cX5_giveBackIfHeld 8 = .ok (.istore_n 2, 1) := by decide +kernel
theorem dX5_giveBackIfHeld_9 : decode cX5_giveBackIfHeld 9 = .ok (.iload_n 2, 1) := by decide +kernel
theorem dX5_giveBackIfHeld_10 : decode cX5_giveBackIfHeld 10 = .ok (.iconst (-1), 1) := by decide +kernel
theorem dX5_giveBackIfHeld_11 : decode cX5_giveBackIfHeld 11 = .ok (.if_icmp .eq 22, 3) := by decide +kernel
theorem dX5_giveBackIfHeld_14 : decode cX5_giveBackIfHeld 14 = .ok (.aload_n 0, 1) := by decide +kernel
theorem dX5_giveBackIfHeld_15 : decode cX5_giveBackIfHeld 15 = .ok (.getfield 15, 3) := by decide +kernel
theorem dX5_giveBackIfHeld_18 : decode cX5_giveBackIfHeld 18 = .ok (.iload_n 1, 1) := by decide +kernel
theorem dX5_giveBackIfHeld_19 : decode cX5_giveBackIfHeld 19 = .ok (.aload_n 0, 1) := by decide +kernel
theorem dX5_giveBackIfHeld_20 : decode cX5_giveBackIfHeld 20 = .ok (.getfield 37, 3) := by decide +kernel
theorem dX5_giveBackIfHeld_23 : decode cX5_giveBackIfHeld 23 = .ok (.iload_n 2, 1) := by decide +kernel
theorem dX5_giveBackIfHeld_24 : decode cX5_giveBackIfHeld 24 = .ok (.invokevirtual 277, 3) := by decide +kernel
theorem dX5_giveBackIfHeld_27 : decode cX5_giveBackIfHeld 27 = .ok (.invokevirtual 195, 3) := by decide +kernel
theorem dX5_giveBackIfHeld_30 : decode cX5_giveBackIfHeld 30 = .ok (.ifCond .ne 5, 3) := by decide +kernel
theorem dX5_giveBackIfHeld_33 : decode cX5_giveBackIfHeld 33 = .ok (.iconst 0, 1) := by decide +kernel
theorem dX5_giveBackIfHeld_34 : decode cX5_giveBackIfHeld 34 = .ok (.ireturn, 1) := by decide +kernel
theorem dX5_giveBackIfHeld_35 : decode cX5_giveBackIfHeld 35 = .ok (.aload_n 0, 1) := by decide +kernel
theorem dX5_giveBackIfHeld_36 : decode cX5_giveBackIfHeld 36 = .ok (.getfield 37, 3) := by decide +kernel
theorem dX5_giveBackIfHeld_39 : decode cX5_giveBackIfHeld 39 = .ok (.iload_n 2, 1) := by decide +kernel
theorem dX5_giveBackIfHeld_40 : decode cX5_giveBackIfHeld 40 = .ok (.bipush 103, 2) := by decide +kernel
theorem dX5_giveBackIfHeld_42 : decode cX5_giveBackIfHeld 42 = .ok (.invokevirtual 224, 3) := by decide +kernel
theorem dX5_giveBackIfHeld_45 : decode cX5_giveBackIfHeld 45 = .ok (.iconst 1, 1) := by decide +kernel
theorem dX5_giveBackIfHeld_46 : decode cX5_giveBackIfHeld 46 = .ok (.ireturn, 1) := by decide +kernel
theorem dX5_serve_0 : decode cX5_serve 0 = .ok (.iload_n 1, 1) := by decide +kernel
theorem dX5_serve_1 : decode cX5_serve 1 = .ok (.iconst (-1), 1) := by decide +kernel
theorem dX5_serve_2 : decode cX5_serve 2 = .ok (.if_icmp .ne 5, 3) := by decide +kernel
theorem dX5_serve_5 : decode cX5_serve 5 = .ok (.iconst 0, 1) := by decide +kernel
theorem dX5_serve_6 : decode cX5_serve 6 = .ok (.ireturn, 1) := by decide +kernel
theorem dX5_serve_7 : decode cX5_serve 7 = .ok (.aload_n 0, 1) := by decide +kernel
theorem dX5_serve_8 : decode cX5_serve 8 = .ok (.getfield 37, 3) := by decide +kernel
theorem dX5_serve_11 : decode cX5_serve 11 = .ok (.iload_n 1, 1) := by decide +kernel
theorem dX5_serve_12 : decode cX5_serve 12 = .ok (.invokevirtual 280, 3) := by decide +kernel
theorem dX5_serve_15 : decode cX5_serve 15 = .ok (.istore_n 2, 1) := by decide +kernel
theorem dX5_serve_16 : decode cX5_serve 16 = .ok (.aload_n 0, 1) := by decide +kernel
theorem dX5_serve_17 : decode cX5_serve 17 = .ok (.getfield 15, 3) := by decide +kernel
theorem dX5_serve_20 : decode cX5_serve 20 = .ok (.iload_n 2, 1) := by decide +kernel
theorem dX5_serve_21 : decode cX5_serve 21 = .ok (.invokevirtual 137, 3) := by decide +kernel
theorem dX5_serve_24 : decode cX5_serve 24 = .ok (.ifCond .ne 14, 3) := by decide +kernel
theorem dX5_serve_27 : decode cX5_serve 27 = .ok (.aload_n 0, 1) := by decide +kernel
theorem dX5_serve_28 : decode cX5_serve 28 = .ok (.getfield 30, 3) := by decide +kernel
theorem dX5_serve_31 : decode cX5_serve 31 = .ok (.iload_n 2, 1) := by decide +kernel
theorem dX5_serve_32 : decode cX5_serve 32 = .ok (.invokevirtual 269, 3) := by decide +kernel
theorem dX5_serve_35 : decode cX5_serve 35 = .ok (.ifCond .ne 15, 3) := by decide +kernel
theorem dX5_serve_38 : decode cX5_serve 38 = .ok (.aload_n 0, 1) := by decide +kernel
theorem dX5_serve_39 : decode cX5_serve 39 = .ok (.getfield 37, 3) := by decide +kernel
theorem dX5_serve_42 : decode cX5_serve 42 = .ok (.iload_n 1, 1) := by decide +kernel
theorem dX5_serve_43 : decode cX5_serve 43 = .ok (.bipush 109, 2) := by decide +kernel
theorem dX5_serve_45 : decode cX5_serve 45 = .ok (.invokevirtual 224, 3) := by decide +kernel
theorem dX5_serve_48 : decode cX5_serve 48 = .ok (.iconst 0, 1) := by decide +kernel
theorem dX5_serve_49 : decode cX5_serve 49 = .ok (.ireturn, 1) := by decide +kernel
theorem dX5_serve_50 : decode cX5_serve 50 = .ok (.aload_n 0, 1) := by decide +kernel
theorem dX5_serve_51 : decode cX5_serve 51 = .ok (.invokevirtual 187, 3) := by decide +kernel
theorem dX5_serve_54 : decode cX5_serve 54 = .ok (.aload_n 0, 1) := by decide +kernel
theorem dX5_serve_55 : decode cX5_serve 55 = .ok (.getfield 21, 3) := by decide +kernel
theorem dX5_serve_58 : decode cX5_serve 58 = .ok (.aload_n 0, 1) := by decide +kernel
theorem dX5_serve_59 : decode cX5_serve 59 = .ok (.getfield 21, 3) := by decide +kernel
theorem dX5_serve_62 : decode cX5_serve 62 = .ok (.iload_n 2, 1) := by decide +kernel
theorem dX5_serve_63 : decode cX5_serve 63 = .ok (.invokevirtual 95, 3) := by decide +kernel
theorem dX5_serve_66 : decode cX5_serve 66 = .ok (.invokevirtual 283, 3) := by decide +kernel
theorem dX5_serve_69 : decode cX5_serve 69 = .ok (.aload_n 0, 1) := by decide +kernel
theorem dX5_serve_70 : decode cX5_serve 70 = .ok (.dup, 1) := by decide +kernel
theorem dX5_serve_71 : decode cX5_serve 71 = .ok (.getfield 249, 3) := by decide +kernel
theorem dX5_serve_74 : decode cX5_serve 74 = .ok (.aload_n 0, 1) := by decide +kernel
theorem dX5_serve_75 : decode cX5_serve 75 = .ok (.getfield 15, 3) := by decide +kernel
theorem dX5_serve_78 : decode cX5_serve 78 = .ok (.iload_n 2, 1) := by decide +kernel
theorem dX5_serve_79 : decode cX5_serve 79 = .ok (.invokevirtual 101, 3) := by decide +kernel
theorem dX5_serve_82 : decode cX5_serve 82 = .ok (.i2l, 1) := by decide +kernel
theorem dX5_serve_83 : decode cX5_serve 83 = .ok (.ladd, 1) := by decide +kernel
theorem dX5_serve_84 : decode cX5_serve 84 = .ok (.putfield 249, 3) := by decide +kernel
theorem dX5_serve_87 : decode cX5_serve 87 = .ok (.aload_n 0, 1) := by decide +kernel
theorem dX5_serve_88 : decode cX5_serve 88 = .ok (.getfield 37, 3) := by decide +kernel
theorem dX5_serve_91 : decode cX5_serve 91 = .ok (.iload_n 1, 1) := by decide +kernel
theorem dX5_serve_92 : decode cX5_serve 92 = .ok (.bipush 100, 2) := by decide +kernel
theorem dX5_serve_94 : decode cX5_serve 94 = .ok (.invokevirtual 224, 3) := by decide +kernel
theorem dX5_serve_97 : decode cX5_serve 97 = .ok (.iconst 1, 1) := by decide +kernel
theorem dX5_serve_98 : decode cX5_serve 98 = .ok (.ireturn, 1) := by decide +kernel
