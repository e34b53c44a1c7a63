theorem dX0_init_0 : decode cX0_init 0 = .ok (.aload_n 0, 1) := by decide +kernel
theorem dX0_init_1 : decode cX0_init 1 = .ok (.invokespecial 3, 3) := by decide +kernel
theorem dX0_init_4 : decode cX0_init 4 = .ok (.aload_n 0, 1) := by decide +kernel
theorem dX0_init_5 : decode cX0_init 5 = .ok (.bipush 20, 2) := by decide +kernel
theorem dX0_init_7 : decode cX0_init 7 = .ok (.newarray .int, 2) := by decide +kernel
theorem dX0_init_9 : decode cX0_init 9 = .ok (.putfield 9, 3) := by decide +kernel
theorem dX0_init_12 : decode cX0_init 12 = .ok (.aload_n 0, 1) := by decide +kernel
theorem dX0_init_13 : decode cX0_init 13 = .ok (.bipush 20, 2) := by decide +kernel
theorem dX0_init_15 : decode cX0_init 15 = .ok (.newarray .char, 2) := by decide +kernel
theorem dX0_init_17 : decode cX0_init 17 = .ok (.putfield 15, 3) := by decide +kernel
theorem dX0_init_20 : decode cX0_init 20 = .ok (.aload_n 0, 1) := by decide +kernel
theorem dX0_init_21 : decode cX0_init 21 = .ok (.bipush 20, 2) := by decide +kernel
theorem dX0_init_23 : decode cX0_init 23 = .ok (.newarray .int, 2) := by decide +kernel
theorem dX0_init_25 : decode cX0_init 25 = .ok (.putfield 19, 3) := by decide +kernel
theorem dX0_init_28 : decode cX0_init 28 = .ok (.return_, 1) := by decide +kernel
theorem dX0_come_0 : decode cX0_come 0 = .ok (.aload_n 0, 1) := by decide +kernel
theorem dX0_come_1 : decode cX0_come 1 = .ok (.getfield 22, 3) := by decide +kernel
theorem dX0_come_4 : decode cX0_come 4 = .ok (.ireturn, 1) := by decide +kernel
theorem dX0_register_0 : decode cX0_register 0 = .ok (.aload_n 0, 1) := by decide +kernel
theorem dX0_register_1 : decode cX0_register 1 = .ok (.getfield 22, 3) := by decide +kernel
theorem dX0_register_4 : decode cX0_register 4 = .ok (.bipush 20, 2) := by decide +kernel
theorem dX0_register_6 : decode cX0_register 6 = .ok (.if_icmp .lt 5, 3) := by decide +kernel
theorem dX0_register_9 : decode cX0_register 9 = .ok (.iconst (-1), 1) := by decide +kernel
theorem dX0_register_10 : decode cX0_register 10 = .ok (.ireturn, 1) := by decide +kernel
theorem dX0_register_11 : decode cX0_register 11 = .ok (.aload_n 0, 1) := by decide +kernel
theorem dX0_register_12 : decode cX0_register 12 = .ok (.getfield 22, 3) := by decide +kernel
theorem dX0_register_15 : decode cX0_register 15 = .ok (.istore_n 2, 1) := by decide +kernel
theorem dX0_register_16 : decode cX0_register 16 = .ok (.aload_n 0, 1) := by decide +kernel
theorem dX0_register_17 : decode cX0_register 17 = .ok (.dup, 1) := by decide +kernel
theorem dX0_register_18 : decode cX0_register 18 = .ok (.getfield 22, 3) := by decide +kernel
theorem dX0_register_21 : decode cX0_register 21 = .ok (.iconst 1, 1) := by decide +kernel
theorem dX0_register_22 : decode cX0_register 22 = .ok (.iadd, 1) := by decide +kernel
theorem dX0_register_23 : decode cX0_register 23 = .ok (.putfield 22, 3) := by decide +kernel
theorem dX0_register_26 : decode cX0_register 26 = .ok (.aload_n 0, 1) := by decide +kernel
theorem dX0_register_27 : decode cX0_register 27 = .ok (.getfield 9, 3) := by decide +kernel
theorem dX0_register_30 : decode cX0_register 30 = .ok (.iload_n 2, 1) := by decide +kernel
theorem dX0_register_31 : decode cX0_register 31 = .ok (.iload_n 1, 1) := by decide +kernel
theorem dX0_register_32 : decode cX0_register 32 = .ok (.iastore, 1) := by decide +kernel
theorem dX0_register_33 : decode cX0_register 33 = .ok (.aload_n 0, 1) := by decide +kernel
theorem dX0_register_34 : decode cX0_register 34 = .ok (.iload_n 2, 1) := by decide +kernel
theorem dX0_register_35 : decode cX0_register 35 = .ok (.invokevirtual 26, 3) := by decide +kernel
theorem dX0_register_38 : decode cX0_register 38 = .ok (.iload_n 2, 1) := by decide +kernel
theorem dX0_register_39 : decode cX0_register 39 = .ok (.ireturn, 1) := by decide +kernel
theorem dX0_weightOf_0 : decode cX0_weightOf 0 = .ok (.iload_n 1, 1) := by decide +kernel
theorem dX0_weightOf_1 : decode cX0_weightOf 1 = .ok (.ifCond .lt 20, 3) := by decide +kernel
theorem dX0_weightOf_4 : decode cX0_weightOf 4 = .ok (.iload_n 1, 1) := by decide +kernel
theorem dX0_weightOf_5 : decode cX0_weightOf 5 = .ok (.aload_n 0, 1) := by decide +kernel
theorem dX0_weightOf_6 : decode cX0_weightOf 6 = .ok (.getfield 22, 3) := by decide +kernel
theorem dX0_weightOf_9 : decode cX0_weightOf 9 = .ok (.if_icmp .ge 12, 3) := by decide +kernel
theorem dX0_weightOf_12 : decode cX0_weightOf 12 = .ok (.aload_n 0, 1) := by decide +kernel
theorem dX0_weightOf_13 : decode cX0_weightOf 13 = .ok (.getfield 9, 3) := by decide +kernel
theorem dX0_weightOf_16 : decode cX0_weightOf 16 = .ok (.iload_n 1, 1) := by decide +kernel
theorem dX0_weightOf_17 : decode cX0_weightOf 17 = .ok (.iaload, 1) := by decide +kernel
theorem dX0_weightOf_18 : decode cX0_weightOf 18 = .ok (.goto 4, 3) := by decide +kernel
theorem dX0_weightOf_21 : decode cX0_weightOf 21 = .ok (.iconst 0, 1) := by decide +kernel
theorem dX0_weightOf_22 : decode cX0_weightOf 22 = .ok (.ireturn, 1) := by decide +kernel
theorem dX0_holdKind_0 : decode cX0_holdKind 0 = .ok (.iload_n 1, 1) := by decide +kernel
theorem dX0_holdKind_1 : decode cX0_holdKind 1 = .ok (.ifCond .lt 20, 3) := by decide +kernel
theorem dX0_holdKind_4 : decode cX0_holdKind 4 = .ok (.iload_n 1, 1) := by decide +kernel
theorem dX0_holdKind_5 : decode cX0_holdKind 5 = .ok (.aload_n 0, 1) := by decide +kernel
theorem dX0_holdKind_6 : decode cX0_holdKind 6 = .ok (.getfield 22, 3) := by decide +kernel
theorem dX0_holdKind_9 : decode cX0_holdKind 9 = .ok (.if_icmp .ge 12, 3) := by decide +kernel
theorem dX0_holdKind_12 : decode cX0_holdKind 12 = .ok (.aload_n 0, 1) := by decide +kernel
theorem dX0_holdKind_13 : decode cX0_holdKind 13 = .ok (.getfield 15, 3) := by decide +kernel
theorem dX0_holdKind_16 : decode cX0_holdKind 16 = .ok (.iload_n 1, 1) := by decide +kernel
theorem dX0_holdKind_17 : decode cX0_holdKind 17 = .ok (.caload, 1) := by decide +kernel
theorem dX0_holdKind_18 : decode cX0_holdKind 18 = .ok (.goto 5, 3) := by decide +kernel
theorem dX0_holdKind_21 : decode cX0_holdKind 21 = .ok (.bipush 45, 2) := by decide +kernel
theorem dX0_holdKind_23 : decode cX0_holdKind 23 = .ok (.ireturn, 1) := by decide +kernel
theorem dX0_holdEnd_0 : decode cX0_holdEnd 0 = .ok (.iload_n 1, 1) := by decide +kernel
theorem dX0_holdEnd_1 : decode cX0_holdEnd 1 = .ok (.ifCond .lt 20, 3) := by decide +kernel
theorem dX0_holdEnd_4 : decode cX0_holdEnd 4 = .ok (.iload_n 1, 1) := by decide +kernel
theorem dX0_holdEnd_5 : decode cX0_holdEnd 5 = .ok (.aload_n 0, 1) := by decide +kernel
theorem dX0_holdEnd_6 : decode cX0_holdEnd 6 = .ok (.getfield 22, 3) := by decide +kernel
theorem dX0_holdEnd_9 : decode cX0_holdEnd 9 = .ok (.if_icmp .ge 12, 3) := by decide +kernel
theorem dX0_holdEnd_12 : decode cX0_holdEnd 12 = .ok (.aload_n 0, 1) := by decide +kernel
theorem dX0_holdEnd_13 : decode cX0_holdEnd 13 = .ok (.getfield 19, 3) := by decide +kernel
theorem dX0_holdEnd_16 : decode cX0_holdEnd 16 = .ok (.iload_n 1, 1) := by decide +kernel
theorem dX0_holdEnd_17 : decode cX0_holdEnd 17 = .ok (.iaload, 1) := by decide +kernel
theorem dX0_holdEnd_18 : decode cX0_holdEnd 18 = .ok (.goto 4, 3) := by decide +kernel
theorem dX0_holdEnd_21 : decode cX0_holdEnd 21 = .ok (.iconst 0, 1) := by decide +kernel
theorem dX0_holdEnd_22 : decode cX0_holdEnd 22 = .ok (.ireturn, 1) := by decide +kernel
theorem dX0_isHeld_0 : decode cX0_isHeld 0 = .ok (.aload_n 0, 1) := by decide +kernel
theorem dX0_isHeld_1 : decode cX0_isHeld 1 = .ok (.iload_n 1, 1) := by decide +kernel
theorem dX0_isHeld_2 : decode cX0_isHeld 2 = .ok (.invokevirtual 30, 3) := by decide +kernel
theorem dX0_isHeld_5 : decode cX0_isHeld 5 = .ok (.bipush 45, 2) := by decide +kernel
theorem dX0_isHeld_7 : decode cX0_isHeld 7 = .ok (.if_icmp .eq 7, 3) := by decide +kernel
theorem dX0_isHeld_10 : decode cX0_isHeld 10 = .ok (.iconst 1, 1) := by decide +kernel
theorem dX0_isHeld_11 : decode cX0_isHeld 11 = .ok (.goto 4, 3) := by decide +kernel
theorem dX0_isHeld_14 : decode cX0_isHeld 14 = .ok (.iconst 0, 1) := by decide +kernel
theorem dX0_isHeld_15 : decode cX0_isHeld 15 = .ok (.ireturn, 1) := by decide +kernel
theorem dX0_isPinned_0 : decode cX0_isPinned 0 = .ok (.aload_n 0, 1) := by decide +kernel
theorem dX0_isPinned_1 : decode cX0_isPinned 1 = .ok (.iload_n 1, 1) := by decide +kernel
theorem dX0_isPinned_2 : decode cX0_isPinned 2 = .ok (.invokevirtual 30, 3) := by decide +kernel
theorem dX0_isPinned_5 : decode cX0_isPinned 5 = .ok (.bipush 112, 2) := by decide +kernel
theorem dX0_isPinned_7 : decode cX0_isPinned 7 = .ok (.if_icmp .ne 7, 3) := by decide +kernel
theorem dX0_isPinned_10 : decode cX0_isPinned 10 = .ok (.iconst 1, 1) := by decide +kernel
theorem dX0_isPinned_11 : decode cX0_isPinned 11 = .ok (.goto 4, 3) := by decide +kernel
theorem dX0_isPinned_14 : decode cX0_isPinned 14 = .ok (.iconst 0, 1) := by decide +kernel
theorem dX0_isPinned_15 : decode cX0_isPinned 15 = .ok (.ireturn, 1) := by decide +kernel
theorem dX0_isHeldIn_0 : decode cX0_isHeldIn 0 = .ok (.aload_n 0, 1) := by decide +kernel
theorem dX0_isHeldIn_1 : decode cX0_isHeldIn 1 = .ok (.iload_n 1, 1) := by decide +kernel
theorem dX0_isHeldIn_2 : decode cX0_isHeldIn 2 = .ok (.invokevirtual 34, 3) := by decide +kernel
theorem dX0_isHeldIn_5 : decode cX0_isHeldIn 5 = .ok (.ifCond .eq 16, 3) := by decide +kernel
theorem dX0_isHeldIn_8 : decode cX0_isHeldIn 8 = .ok (.iload_n 2, 1) := by decide +kernel
theorem dX0_isHeldIn_9 : decode cX0_isHeldIn 9 = .ok (.aload_n 0, 1) := by decide +kernel
theorem dX0_isHeldIn_10 : decode cX0_isHeldIn 10 = .ok (.iload_n 1, 1) := by decide +kernel
theorem dX0_isHeldIn_11 : decode cX0_isHeldIn 11 = .ok (.invokevirtual 38, 3) := by decide +kernel
theorem dX0_isHeldIn_14 : decode cX0_isHeldIn 14 = .ok (.if_icmp .ge 7, 3) := by decide +kernel
theorem dX0_isHeldIn_17 : decode cX0_isHeldIn 17 = .ok (.iconst 1, 1) := by decide +kernel
theorem dX0_isHeldIn_18 : decode cX0_isHeldIn 18 = .ok (.goto 4, 3) := by decide +kernel
theorem dX0_isHeldIn_21 : decode cX0_isHeldIn 21 = .ok (.iconst 0, 1) := by decide +kernel
theorem dX0_isHeldIn_22 : decode cX0_isHeldIn 22 = .ok (.ireturn, 1) := by decide +kernel
theorem dX0_putHold_0 : decode cX0_putHold 0 = .ok (.iload_n 1, 1) := by decide +kernel
theorem dX0_putHold_1 : decode cX0_putHold 1 = .ok (.ifCond .lt 25, 3) := by decide +kernel
theorem dX0_putHold_4 : decode cX0_putHold 4 = .ok (.iload_n 1, 1) := by decide +kernel
theorem dX0_putHold_5 : decode cX0_putHold 5 = .ok (.aload_n 0, 1) := by decide +kernel
theorem dX0_putHold_6 : decode cX0_putHold 6 = .ok (.getfield 22, 3) := by decide +kernel
theorem dX0_putHold_9 : decode cX0_putHold 9 = .ok (.if_icmp .ge 17, 3) := by decide +kernel
theorem dX0_putHold_12 : decode cX0_putHold 12 = .ok (.aload_n 0, 1) := by decide +kernel
theorem dX0_putHold_13 : decode cX0_putHold 13 = .ok (.getfield 15, 3) := by decide +kernel
theorem dX0_putHold_16 : decode cX0_putHold 16 = .ok (.iload_n 1, 1) := by decide +kernel
theorem dX0_putHold_17 : decode cX0_putHold 17 = .ok (.iload_n 2, 1) := by decide +kernel
theorem dX0_putHold_18 : decode cX0_putHold 18 = .ok (.castore, 1) := by decide +kernel
theorem dX0_putHold_19 : decode cX0_putHold 19 = .ok (.aload_n 0, 1) := by decide +kernel
theorem dX0_putHold_20 : decode cX0_putHold 20 = .ok (.getfield 19, 3) := by decide +kernel
theorem dX0_putHold_23 : decode cX0_putHold 23 = .ok (.iload_n 1, 1) := by decide +kernel
theorem dX0_putHold_24 : decode cX0_putHold 24 = .ok (.iload_n 3, 1) := by decide +kernel
theorem dX0_putHold_25 : decode cX0_putHold 25 = .ok (.iastore, 1) := by decide +kernel
theorem dX0_putHold_26 : decode cX0_putHold 26 = .ok (.return_, 1) := by decide +kernel
theorem dX0_endHold_0 : decode cX0_endHold 0 = .ok (.aload_n 0, 1) := by decide +kernel
theorem dX0_endHold_1 : decode cX0_endHold 1 = .ok (.iload_n 1, 1) := by decide +kernel
theorem dX0_endHold_2 : decode cX0_endHold 2 = .ok (.bipush 45, 2) := by decide +kernel
theorem dX0_endHold_4 : decode cX0_endHold 4 = .ok (.iconst 0, 1) := by decide +kernel
theorem dX0_endHold_5 : decode cX0_endHold 5 = .ok (.invokevirtual 42, 3) := by decide +kernel
theorem dX0_endHold_8 : decode cX0_endHold 8 = .ok (.return_, 1) := by decide +kernel
theorem dX0_endHoldsOf_0 : decode cX0_endHoldsOf 0 = .ok (.iconst 0, 1) := by decide +kernel
theorem dX0_endHoldsOf_1 : decode cX0_endHoldsOf 1 = .ok (.istore_n 2, 1) := by decide +kernel
theorem dX0_endHoldsOf_2 : decode cX0_endHoldsOf 2 = .ok (.iload_n 2, 1) := by decide +kernel
theorem dX0_endHoldsOf_3 : decode cX0_endHoldsOf 3 = .ok (.aload_n 0, 1) := by decide +kernel
theorem dX0_endHoldsOf_4 : decode cX0_endHoldsOf 4 = .ok (.getfield 22, 3) := by decide +kernel
theorem dX0_endHoldsOf_7 : decode cX0_endHoldsOf 7 = .ok (.if_icmp .ge 31, 3) := by decide +kernel
theorem dX0_endHoldsOf_10 : decode cX0_endHoldsOf 10 = .ok (.aload_n 0, 1) := by decide +kernel
theorem dX0_endHoldsOf_11 : decode cX0_endHoldsOf 11 = .ok (.iload_n 2, 1) := by decide +kernel
theorem dX0_endHoldsOf_12 : decode cX0_endHoldsOf 12 = .ok (.invokevirtual 34, 3) := by decide +kernel
theorem dX0_endHoldsOf_15 : decode cX0_endHoldsOf 15 = .ok (.ifCond .eq 17, 3) := by decide +kernel
theorem dX0_endHoldsOf_18 : decode cX0_endHoldsOf 18 = .ok (.aload_n 0, 1) := by decide +kernel
theorem dX0_endHoldsOf_19 : decode cX0_endHoldsOf 19 = .ok (.iload_n 2, 1) := by decide +kernel
theorem dX0_endHoldsOf_20 : decode cX0_endHoldsOf 20 = .ok (.invokevirtual 38, 3) := by decide +kernel
theorem dX0_endHoldsOf_23 : decode cX0_endHoldsOf 23 = .ok (.iload_n 1, 1) := by decide +kernel
theorem dX0_endHoldsOf_24 : decode cX0_endHoldsOf 24 = .ok (.if_icmp .ne 8, 3) := by decide +kernel
theorem dX0_endHoldsOf_27 : decode cX0_endHoldsOf 27 = .ok (.aload_n 0, 1) := by decide +kernel
theorem dX0_endHoldsOf_28 : decode cX0_endHoldsOf 28 = .ok (.iload_n 2, 1) := by decide +kernel
theorem dX0_endHoldsOf_29 : decode cX0_endHoldsOf 29 = .ok (.invokevirtual 26, 3) := by decide +kernel
theorem dX0_endHoldsOf_32 : decode cX0_endHoldsOf 32 = .ok (.iinc 2 1, 3) := by decide +kernel
theorem dX0_endHoldsOf_35 : decode cX0_endHoldsOf 35 = .ok (.goto (-33), 3) := by decide +kernel
theorem dX0_endHoldsOf_38 : decode cX0_endHoldsOf 38 = .ok (.return_, 1) := by decide +kernel
theorem dX1_init_0 : decode cX1_init 0 = .ok (.aload_n 0, 1) := by decide +kernel
theorem dX1_init_1 : decode cX1_init 1 = .ok (.invokespecial 3, 3) := by decide +kernel
theorem dX1_init_4 : decode cX1_init 4 = .ok (.aload_n 0, 1) := by decide +kernel
theorem dX1_init_5 : decode cX1_init 5 = .ok (.bipush 30, 2) := by decide +kernel
theorem dX1_init_7 : decode cX1_init 7 = .ok (.newarray .int, 2) := by decide +kernel
theorem dX1_init_9 : decode cX1_init 9 = .ok (.putfield 9, 3) := by decide +kernel
theorem dX1_init_12 : decode cX1_init 12 = .ok (.aload_n 0, 1) := by decide +kernel
theorem dX1_init_13 : decode cX1_init 13 = .ok (.bipush 30, 2) := by decide +kernel
theorem dX1_init_15 : decode cX1_init 15 = .ok (.newarray .int, 2) := by decide +kernel
theorem dX1_init_17 : decode cX1_init 17 = .ok (.putfield 15, 3) := by decide +kernel
theorem dX1_init_20 : decode cX1_init 20 = .ok (.aload_n 0, 1) := by decide +kernel
theorem dX1_init_21 : decode cX1_init 21 = .ok (.bipush 30, 2) := by decide +kernel
theorem dX1_init_23 : decode cX1_init 23 = .ok (.newarray .int, 2) := by decide +kernel
theorem dX1_init_25 : decode cX1_init 25 = .ok (.putfield 18, 3) := by decide +kernel
theorem dX1_init_28 : decode cX1_init 28 = .ok (.aload_n 0, 1) := by decide +kernel
theorem dX1_init_29 : decode cX1_init 29 = .ok (.bipush 30, 2) := by decide +kernel
theorem dX1_init_31 : decode cX1_init 31 = .ok (.newarray .char, 2) := by decide +kernel
theorem dX1_init_33 : decode cX1_init 33 = .ok (.putfield 21, 3) := by decide +kernel
theorem dX1_init_36 : decode cX1_init 36 = .ok (.return_, 1) := by decide +kernel
theorem dX1_count_0 : decode cX1_count 0 = .ok (.aload_n 0, 1) := by decide +kernel
theorem dX1_count_1 : decode cX1_count 1 = .ok (.getfield 25, 3) := by decide +kernel
theorem dX1_count_4 : decode cX1_count 4 = .ok (.ireturn, 1) := by decide +kernel
theorem dX1_register_0 : decode cX1_register 0 = .ok (.aload_n 0, 1) := by decide +kernel
theorem dX1_register_1 : decode cX1_register 1 = .ok (.getfield 25, 3) := by decide +kernel
theorem dX1_register_4 : decode cX1_register 4 = .ok (.bipush 30, 2) := by decide +kernel
theorem dX1_register_6 : decode cX1_register 6 = .ok (.if_icmp .lt 5, 3) := by decide +kernel
theorem dX1_register_9 : decode cX1_register 9 = .ok (.iconst (-1), 1) := by decide +kernel
theorem dX1_register_10 : decode cX1_register 10 = .ok (.ireturn, 1) := by decide +kernel
theorem dX1_register_11 : decode cX1_register 11 = .ok (.aload_n 0, 1) := by decide +kernel
theorem dX1_register_12 : decode cX1_register 12 = .ok (.getfield 25, 3) := by decide +kernel
theorem dX1_register_15 : decode cX1_register 15 = .ok (.istore 4, 2) := by decide +kernel
theorem dX1_register_17 : decode cX1_register 17 = .ok (.aload_n 0, 1) := by decide +kernel
theorem dX1_register_18 : decode cX1_register 18 = .ok (.dup, 1) := by decide +kernel
theorem dX1_register_19 : decode cX1_register 19 = .ok (.getfield 25, 3) := by decide +kernel
theorem dX1_register_22 : decode cX1_register 22 = .ok (.iconst 1, 1) := by decide +kernel
theorem dX1_register_23 : decode cX1_register 23 = .ok (.iadd, 1) := by decide +kernel
theorem dX1_register_24 : decode cX1_register 24 = .ok (.putfield 25, 3) := by decide +kernel
theorem dX1_register_27 : decode cX1_register 27 = .ok (.aload_n 0, 1) := by decide +kernel
theorem dX1_register_28 : decode cX1_register 28 = .ok (.getfield 9, 3) := by decide +kernel
theorem dX1_register_31 : decode cX1_register 31 = .ok (.iload 4, 2) := by decide +kernel
theorem dX1_register_33 : decode cX1_register 33 = .ok (.iload_n 1, 1) := by decide +kernel
theorem dX1_register_34 : decode cX1_register 34 = .ok (.iastore, 1) := by decide +kernel
theorem dX1_register_35 : decode cX1_register 35 = .ok (.aload_n 0, 1) := by decide +kernel
theorem dX1_register_36 : decode cX1_register 36 = .ok (.getfield 15, 3) := by decide +kernel
theorem dX1_register_39 : decode cX1_register 39 = .ok (.iload 4, 2) := by decide +kernel
theorem dX1_register_41 : decode cX1_register 41 = .ok (.iload_n 2, 1) := by decide +kernel
theorem dX1_register_42 : decode cX1_register 42 = .ok (.iastore, 1) := by decide +kernel
theorem dX1_register_43 : decode cX1_register 43 = .ok (.aload_n 0, 1) := by decide +kernel
theorem dX1_register_44 : decode cX1_register 44 = .ok (.getfield 18, 3) := by decide +kernel
theorem dX1_register_47 : decode cX1_register 47 = .ok (.iload 4, 2) := by decide +kernel
theorem dX1_register_49 : decode cX1_register 49 = .ok (.iload_n 3, 1) := by decide +kernel
theorem dX1_register_50 : decode cX1_register 50 = .ok (.iastore, 1) := by decide +kernel
theorem dX1_register_51 : decode cX1_register 51 = .ok (.aload_n 0, 1) := by decide +kernel
theorem dX1_register_52 : decode cX1_register 52 = .ok (.getfield 21, 3) := by decide +kernel
theorem dX1_register_55 : decode cX1_register 55 = .ok (.iload 4, 2) := by decide +kernel
theorem dX1_register_57 : decode cX1_register 57 = .ok (.bipush 98, 2) := by decide +kernel
theorem dX1_register_59 : decode cX1_register 59 = .ok (.castore, 1) := by decide +kernel
theorem dX1_register_60 : decode cX1_register 60 = .ok (.iload 4, 2) := by decide +kernel
theorem dX1_register_62 : decode cX1_register 62 = .ok (.ireturn, 1) := by decide +kernel
theorem dX1_has_0 : decode cX1_has 0 = .ok (.iload_n 1, 1) := by decide +kernel
theorem dX1_has_1 : decode cX1_has 1 = .ok (.ifCond .lt 15, 3) := by decide +kernel
theorem dX1_has_4 : decode cX1_has 4 = .ok (.iload_n 1, 1) := by decide +kernel
theorem dX1_has_5 : decode cX1_has 5 = .ok (.aload_n 0, 1) := by decide +kernel
theorem dX1_has_6 : decode cX1_has 6 = .ok (.getfield 25, 3) := by decide +kernel
theorem dX1_has_9 : decode cX1_has 9 = .ok (.if_icmp .ge 7, 3) := by decide +kernel
theorem dX1_has_12 : decode cX1_has 12 = .ok (.iconst 1, 1) := by decide +kernel
theorem dX1_has_13 : decode cX1_has 13 = .ok (.goto 4, 3) := by decide +kernel
theorem dX1_has_16 : decode cX1_has 16 = .ok (.iconst 0, 1) := by decide +kernel
theorem dX1_has_17 : decode cX1_has 17 = .ok (.ireturn, 1) := by decide +kernel
theorem dX1_boxOf_0 : decode cX1_boxOf 0 = .ok (.aload_n 0, 1) := by decide +kernel
theorem dX1_boxOf_1 : decode cX1_boxOf 1 = .ok (.iload_n 1, 1) := by decide +kernel
theorem dX1_boxOf_2 : decode cX1_boxOf 2 = .ok (.invokevirtual 29, 3) := by decide +kernel
theorem dX1_boxOf_5 : decode cX1_boxOf 5 = .ok (.ifCond .eq 12, 3) := by decide +kernel
theorem dX1_boxOf_8 : decode cX1_boxOf 8 = .ok (.aload_n 0, 1) := by decide +kernel
theorem dX1_boxOf_9 : decode cX1_boxOf 9 = .ok (.getfield 9, 3) := by decide +kernel
theorem dX1_boxOf_12 : decode cX1_boxOf 12 = .ok (.iload_n 1, 1) := by decide +kernel
theorem dX1_boxOf_13 : decode cX1_boxOf 13 = .ok (.iaload, 1) := by decide +kernel
theorem dX1_boxOf_14 : decode cX1_boxOf 14 = .ok (.goto 4, 3) := by decide +kernel
theorem dX1_boxOf_17 : decode cX1_boxOf 17 = .ok (.iconst (-1), 1) := by decide +kernel
theorem dX1_boxOf_18 : decode cX1_boxOf 18 = .ok (.ireturn, 1) := by decide +kernel
theorem dX1_hourOf_0 : decode cX1_hourOf 0 = .ok (.aload_n 0, 1) := by decide +kernel
theorem dX1_hourOf_1 : decode cX1_hourOf 1 = .ok (.iload_n 1, 1) := by decide +kernel
theorem dX1_hourOf_2 : decode cX1_hourOf 2 = .ok (.invokevirtual 29, 3) := by decide +kernel
theorem dX1_hourOf_5 : decode cX1_hourOf 5 = .ok (.ifCond .eq 12, 3) := by decide +kernel
theorem dX1_hourOf_8 : decode cX1_hourOf 8 = .ok (.aload_n 0, 1) := by decide +kernel
theorem dX1_hourOf_9 : decode cX1_hourOf 9 = .ok (.getfield 15, 3) := by decide +kernel
theorem dX1_hourOf_12 : decode cX1_hourOf 12 = .ok (.iload_n 1, 1) := by decide +kernel
theorem dX1_hourOf_13 : decode cX1_hourOf 13 = .ok (.iaload, 1) := by decide +kernel
theorem dX1_hourOf_14 : decode cX1_hourOf 14 = .ok (.goto 4, 3) := by decide +kernel
theorem dX1_hourOf_17 : decode cX1_hourOf 17 = .ok (.iconst (-1), 1) := by decide +kernel
theorem dX1_hourOf_18 : decode cX1_hourOf 18 = .ok (.ireturn, 1) := by decide +kernel
theorem dX1_state_0 : decode cX1_state 0 = .ok (.aload_n 0, 1) := by decide +kernel
theorem dX1_state_1 : decode cX1_state 1 = .ok (.iload_n 1, 1) := by decide +kernel
theorem dX1_state_2 : decode cX1_state 2 = .ok (.invokevirtual 29, 3) := by decide +kernel
theorem dX1_state_5 : decode cX1_state 5 = .ok (.ifCond .eq 12, 3) := by decide +kernel
theorem dX1_state_8 : decode cX1_state 8 = .ok (.aload_n 0, 1) := by decide +kernel
theorem dX1_state_9 : decode cX1_state 9 = .ok (.getfield 21, 3) := by decide +kernel
theorem dX1_state_12 : decode cX1_state 12 = .ok (.iload_n 1, 1) := by decide +kernel
theorem dX1_state_13 : decode cX1_state 13 = .ok (.caload, 1) := by decide +kernel
theorem dX1_state_14 : decode cX1_state 14 = .ok (.goto 5, 3) := by decide +kernel
theorem dX1_state_17 : decode cX1_state 17 = .ok (.bipush 99, 2) := by decide +kernel
theorem dX1_state_19 : decode cX1_state 19 = .ok (.ireturn, 1) := by decide +kernel
theorem dX1_turn_0 : decode cX1_turn 0 = .ok (.aload_n 0, 1) := by decide +kernel
theorem dX1_turn_1 : decode cX1_turn 1 = .ok (.iload_n 1, 1) := by decide +kernel
theorem dX1_turn_2 : decode cX1_turn 2 = .ok (.invokevirtual 29, 3) := by decide +kernel
theorem dX1_turn_5 : decode cX1_turn 5 = .ok (.ifCond .eq 10, 3) := by decide +kernel
theorem dX1_turn_8 : decode cX1_turn 8 = .ok (.aload_n 0, 1) := by decide +kernel
theorem dX1_turn_9 : decode cX1_turn 9 = .ok (.getfield 21, 3) := by decide +kernel
theorem dX1_turn_12 : decode cX1_turn 12 = .ok (.iload_n 1, 1) := by decide +kernel
theorem dX1_turn_13 : decode cX1_turn 13 = .ok (.iload_n 2, 1) := by decide +kernel
theorem dX1_turn_14 : decode cX1_turn 14 = .ok (.castore, 1) := by decide +kernel
theorem dX1_turn_15 : decode cX1_turn 15 = .ok (.return_, 1) := by decide +kernel
theorem dX1_bookedFor_0 : decode cX1_bookedFor 0 = .ok (.iconst 0, 1) := by decide +kernel
theorem dX1_bookedFor_1 : decode cX1_bookedFor 1 = .ok (.istore_n 2, 1) := by decide +kernel
theorem dX1_bookedFor_2 : decode cX1_bookedFor 2 = .ok (.iload_n 2, 1) := by decide +kernel
theorem dX1_bookedFor_3 : decode cX1_bookedFor 3 = .ok (.aload_n 0, 1) := by decide +kernel
theorem dX1_bookedFor_4 : decode cX1_bookedFor 4 = .ok (.getfield 25, 3) := by decide +kernel
theorem dX1_bookedFor_7 : decode cX1_bookedFor 7 = .ok (.if_icmp .ge 32, 3) := by decide +kernel
theorem dX1_bookedFor_10 : decode cX1_bookedFor 10 = .ok (.aload_n 0, 1) := by decide +kernel
theorem dX1_bookedFor_11 : decode cX1_bookedFor 11 = .ok (.getfield 21, 3) := by decide +kernel
theorem dX1_bookedFor_14 : decode cX1_bookedFor 14 = .ok (.iload_n 2, 1) := by decide +kernel
theorem dX1_bookedFor_15 : decode cX1_bookedFor 15 = .ok (.caload, 1) := by decide +kernel
theorem dX1_bookedFor_16 : decode cX1_bookedFor 16 = .ok (.bipush 98, 2) := by decide +kernel
theorem dX1_bookedFor_18 : decode cX1_bookedFor 18 = .ok (.if_icmp .ne 15, 3) := by decide +kernel
theorem dX1_bookedFor_21 : decode cX1_bookedFor 21 = .ok (.aload_n 0, 1) := by decide +kernel
theorem dX1_bookedFor_22 : decode cX1_bookedFor 22 = .ok (.getfield 9, 3) := by decide +kernel
theorem dX1_bookedFor_25 : decode cX1_bookedFor 25 = .ok (.iload_n 2, 1) := by decide +kernel
theorem dX1_bookedFor_26 : decode cX1_bookedFor 26 = .ok (.iaload, 1) := by decide +kernel
theorem dX1_bookedFor_27 : decode cX1_bookedFor 27 = .ok (.iload_n 1, 1) := by decide +kernel
theorem dX1_bookedFor_28 : decode cX1_bookedFor 28 = .ok (.if_icmp .ne 5, 3) := by decide +kernel
theorem dX1_bookedFor_31 : decode cX1_bookedFor 31 = .ok (.iload_n 2, 1) := by decide +kernel
theorem dX1_bookedFor_32 : decode cX1_bookedFor 32 = .ok (.ireturn, 1) := by decide +kernel
theorem dX1_bookedFor_33 : decode cX1_bookedFor 33 = .ok (.iinc 2 1, 3) := by decide +kernel
theorem dX1_bookedFor_36 : decode cX1_bookedFor 36 = .ok (.goto (-34), 3) := by decide +kernel
theorem dX1_bookedFor_39 : decode cX1_bookedFor 39 = .ok (.iconst (-1), 1) := by decide +kernel
theorem dX1_bookedFor_40 : decode cX1_bookedFor 40 = .ok (.ireturn, 1) := by decide +kernel
theorem dX1_bookedAt_0 : decode cX1_bookedAt 0 = .ok (.iconst 0, 1) := by decide +kernel
theorem dX1_bookedAt_1 : decode cX1_bookedAt 1 = .ok (.istore_n 3, 1) := by decide +kernel
theorem dX1_bookedAt_2 : decode cX1_bookedAt 2 = .ok (.iload_n 3, 1) := by decide +kernel
theorem dX1_bookedAt_3 : decode cX1_bookedAt 3 = .ok (.aload_n 0, 1) := by decide +kernel
theorem dX1_bookedAt_4 : decode cX1_bookedAt 4 = .ok (.getfield 25, 3) := by decide +kernel
theorem dX1_bookedAt_7 : decode cX1_bookedAt 7 = .ok (.if_icmp .ge 42, 3) := by decide +kernel
theorem dX1_bookedAt_10 : decode cX1_bookedAt 10 = .ok (.aload_n 0, 1) := by decide +kernel
theorem dX1_bookedAt_11 : decode cX1_bookedAt 11 = .ok (.getfield 21, 3) := by decide +kernel
theorem dX1_bookedAt_14 : decode cX1_bookedAt 14 = .ok (.iload_n 3, 1) := by decide +kernel
theorem dX1_bookedAt_15 : decode cX1_bookedAt 15 = .ok (.caload, 1) := by decide +kernel
theorem dX1_bookedAt_16 : decode cX1_bookedAt 16 = .ok (.bipush 98, 2) := by decide +kernel
theorem dX1_bookedAt_18 : decode cX1_bookedAt 18 = .ok (.if_icmp .ne 25, 3) := by decide +kernel
theorem dX1_bookedAt_21 : decode cX1_bookedAt 21 = .ok (.aload_n 0, 1) := by decide +kernel
theorem dX1_bookedAt_22 : decode cX1_bookedAt 22 = .ok (.getfield 18, 3) := by decide +kernel
theorem dX1_bookedAt_25 : decode cX1_bookedAt 25 = .ok (.iload_n 3, 1) := by decide +kernel
theorem dX1_bookedAt_26 : decode cX1_bookedAt 26 = .ok (.iaload, 1) := by decide +kernel
theorem dX1_bookedAt_27 : decode cX1_bookedAt 27 = .ok (.iload_n 1, 1) := by decide +kernel
theorem dX1_bookedAt_28 : decode cX1_bookedAt 28 = .ok (.if_icmp .ne 15, 3) := by decide +kernel
theorem dX1_bookedAt_31 : decode cX1_bookedAt 31 = .ok (.aload_n 0, 1) := by decide +kernel
theorem dX1_bookedAt_32 : decode cX1_bookedAt 32 = .ok (.getfield 15, 3) := by decide +kernel
theorem dX1_bookedAt_35 : decode cX1_bookedAt 35 = .ok (.iload_n 3, 1) := by decide +kernel
theorem dX1_bookedAt_36 : decode cX1_bookedAt 36 = .ok (.iaload, 1) := by decide +kernel
theorem dX1_bookedAt_37 : decode cX1_bookedAt 37 = .ok (.iload_n 2, 1) := by decide +kernel
theorem dX1_bookedAt_38 : decode cX1_bookedAt 38 = .ok (.if_icmp .ne 5, 3) := by decide +kernel
theorem dX1_bookedAt_41 : decode cX1_bookedAt 41 = .ok (.iload_n 3, 1) := by decide +kernel
theorem dX1_bookedAt_42 : decode cX1_bookedAt 42 = .ok (.ireturn, 1) := by decide +kernel
theorem dX1_bookedAt_43 : decode cX1_bookedAt 43 = .ok (.iinc 3 1, 3) := by decide +kernel
theorem dX1_bookedAt_46 : decode cX1_bookedAt 46 = .ok (.goto (-44), 3) := by decide +kernel
theorem dX1_bookedAt_49 : decode cX1_bookedAt 49 = .ok (.iconst (-1), 1) := by decide +kernel
theorem dX1_bookedAt_50 : decode cX1_bookedAt 50 = .ok (.ireturn, 1) := by decide +kernel
theorem dX1_hasFreeLane_0 : decode cX1_hasFreeLane 0 = .ok (.iconst 0, 1) := by decide +kernel
theorem dX1_hasFreeLane_1 : decode cX1_hasFreeLane 1 = .ok (.istore_n 2, 1) := by decide +kernel
theorem dX1_hasFreeLane_2 : decode cX1_hasFreeLane 2 = .ok (.iload_n 2, 1) := by decide +kernel
theorem dX1_hasFreeLane_3 : decode cX1_hasFreeLane 3 = .ok (.iconst 3, 1) := by decide +kernel
theorem dX1_hasFreeLane_4 : decode cX1_hasFreeLane 4 = .ok (.if_icmp .ge 21, 3) := by decide +kernel
theorem dX1_hasFreeLane_7 : decode cX1_hasFreeLane 7 = .ok (.aload_n 0, 1) := by decide +kernel
theorem dX1_hasFreeLane_8 : decode cX1_hasFreeLane 8 = .ok (.iload_n 2, 1) := by decide +kernel
theorem dX1_hasFreeLane_9 : decode cX1_hasFreeLane 9 = .ok (.iload_n 1, 1) := by decide +kernel
theorem dX1_hasFreeLane_10 : decode cX1_hasFreeLane 10 = .ok (.invokevirtual 33, 3) := by decide +kernel
theorem dX1_hasFreeLane_13 : decode cX1_hasFreeLane 13 = .ok (.iconst (-1), 1) := by decide +kernel
theorem dX1_hasFreeLane_14 : decode cX1_hasFreeLane 14 = .ok (.if_icmp .ne 5, 3) := by decide +kernel
theorem dX1_hasFreeLane_17 : decode cX1_hasFreeLane 17 = .ok (.iconst 1, 1) := by decide +kernel
theorem dX1_hasFreeLane_18 : decode cX1_hasFreeLane 18 = .ok (.ireturn, 1) := by decide +kernel
theorem dX1_hasFreeLane_19 : decode cX1_hasFreeLane 19 = .ok (.iinc 2 1, 3) := by decide +kernel
theorem dX1_hasFreeLane_22 : decode cX1_hasFreeLane 22 = .ok (.goto (-20), 3) := by decide +kernel
theorem dX1_hasFreeLane_25 : decode cX1_hasFreeLane 25 = .ok (.iconst 0, 1) := by decide +kernel
theorem dX1_hasFreeLane_26 : decode cX1_hasFreeLane 26 = .ok (.ireturn, 1) := by decide +kernel
theorem dX1_countIn_0 : decode cX1_countIn 0 = .ok (.iconst 0, 1) := by decide +kernel
theorem dX1_countIn_1 : decode cX1_countIn 1 = .ok (.istore_n 2, 1) := by decide +kernel
theorem dX1_countIn_2 : decode cX1_countIn 2 = .ok (.iconst 0, 1) := by decide +kernel
theorem dX1_countIn_3 : decode cX1_countIn 3 = .ok (.istore_n 3, 1) := by decide +kernel
theorem dX1_countIn_4 : decode cX1_countIn 4 = .ok (.iload_n 3, 1) := by decide +kernel
theorem dX1_countIn_5 : decode cX1_countIn 5 = .ok (.aload_n 0, 1) := by decide +kernel
theorem dX1_countIn_6 : decode cX1_countIn 6 = .ok (.getfield 25, 3) := by decide +kernel
theorem dX1_countIn_9 : decode cX1_countIn 9 = .ok (.if_icmp .ge 22, 3) := by decide +kernel
theorem dX1_countIn_12 : decode cX1_countIn 12 = .ok (.aload_n 0, 1) := by decide +kernel
theorem dX1_countIn_13 : decode cX1_countIn 13 = .ok (.getfield 21, 3) := by decide +kernel
theorem dX1_countIn_16 : decode cX1_countIn 16 = .ok (.iload_n 3, 1) := by decide +kernel
theorem dX1_countIn_17 : decode cX1_countIn 17 = .ok (.caload, 1) := by decide +kernel
theorem dX1_countIn_18 : decode cX1_countIn 18 = .ok (.iload_n 1, 1) := by decide +kernel
theorem dX1_countIn_19 : decode cX1_countIn 19 = .ok (.if_icmp .ne 6, 3) := by decide +kernel
theorem dX1_countIn_22 : decode cX1_countIn 22 = .ok (.iinc 2 1, 3) := by decide +kernel
theorem dX1_countIn_25 : decode cX1_countIn 25 = .ok (.iinc 3 1, 3) := by decide +kernel
theorem dX1_countIn_28 : decode cX1_countIn 28 = .ok (.goto (-24), 3) := by decide +kernel
theorem dX1_countIn_31 : decode cX1_countIn 31 = .ok (.iload_n 2, 1) := by decide +kernel
theorem dX1_countIn_32 : decode cX1_countIn 32 = .ok (.ireturn, 1) := by decide +kernel
theorem dX2_init_0 : decode cX2_init 0 = .ok (.aload_n 0, 1) := by decide +kernel
theorem dX2_init_1 : decode cX2_init 1 = .ok (.invokespecial 1, 3) := by decide +kernel
theorem dX2_init_4 : decode cX2_init 4 = .ok (.aload_n 0, 1) := by decide +kernel
theorem dX2_init_5 : decode cX2_init 5 = .ok (.sipush 1024, 3) := by decide +kernel
theorem dX2_init_8 : decode cX2_init 8 = .ok (.newarray .long, 2) := by decide +kernel
theorem dX2_init_10 : decode cX2_init 10 = .ok (.putfield 9, 3) := by decide +kernel
theorem dX2_init_13 : decode cX2_init 13 = .ok (.return_, 1) := by decide +kernel
theorem dX2_isEmpty_0 : decode cX2_isEmpty 0 = .ok (.aload_n 0, 1) := by decide +kernel
theorem dX2_isEmpty_1 : decode cX2_isEmpty 1 = .ok (.getfield 13, 3) := by decide +kernel
theorem dX2_isEmpty_4 : decode cX2_isEmpty 4 = .ok (.ifCond .ne 7, 3) := by decide +kernel
theorem dX2_isEmpty_7 : decode cX2_isEmpty 7 = .ok (.iconst 1, 1) := by decide +kernel
theorem dX2_isEmpty_8 : decode cX2_isEmpty 8 = .ok (.goto 4, 3) := by decide +kernel
theorem dX2_isEmpty_11 : decode cX2_isEmpty 11 = .ok (.iconst 0, 1) := by decide +kernel
theorem dX2_isEmpty_12 : decode cX2_isEmpty 12 = .ok (.ireturn, 1) := by decide +kernel
theorem dX2_clear_0 : decode cX2_clear 0 = .ok (.aload_n 0, 1) := by decide +kernel
theorem dX2_clear_1 : decode cX2_clear 1 = .ok (.iconst 0, 1) := by decide +kernel
theorem dX2_clear_2 : decode cX2_clear 2 = .ok (.putfield 13, 3) := by decide +kernel
theorem dX2_clear_5 : decode cX2_clear 5 = .ok (.return_, 1) := by decide +kernel
theorem dX2_add_0 : decode cX2_add 0 = .ok (.aload_n 0, 1) := by decide +kernel
theorem dX2_add_1 : decode cX2_add 1 = .ok (.getfield 13, 3) := by decide +kernel
theorem dX2_add_4 : decode cX2_add 4 = .ok (.sipush 1024, 3) := by decide +kernel
theorem dX2_add_7 : decode cX2_add 7 = .ok (.if_icmp .lt 4, 3) := by decide +kernel
theorem dX2_add_10 : decode cX2_add 10 = .ok (.return_, 1) := by decide +kernel
theorem dX2_add_11 : decode cX2_add 11 = .ok (.aload_n 0, 1) := by decide +kernel
theorem dX2_add_12 : decode cX2_add 12 = .ok (.getfield 13, 3) := by decide +kernel
theorem dX2_add_15 : decode cX2_add 15 = .ok (.istore_n 3, 1) := by decide +kernel
theorem dX2_add_16 : decode cX2_add 16 = .ok (.aload_n 0, 1) := by decide +kernel
theorem dX2_add_17 : decode cX2_add 17 = .ok (.dup, 1) := by decide +kernel
theorem dX2_add_18 : decode cX2_add 18 = .ok (.getfield 13, 3) := by decide +kernel
theorem dX2_add_21 : decode cX2_add 21 = .ok (.iconst 1, 1) := by decide +kernel
theorem dX2_add_22 : decode cX2_add 22 = .ok (.iadd, 1) := by decide +kernel
theorem dX2_add_23 : decode cX2_add 23 = .ok (.putfield 13, 3) := by decide +kernel
theorem dX2_add_26 : decode cX2_add 26 = .ok (.iload_n 3, 1) := by decide +kernel
theorem dX2_add_27 : decode cX2_add 27 = .ok (.ifCond .le 43, 3) := by decide +kernel
theorem dX2_add_30 : decode cX2_add 30 = .ok (.aload_n 0, 1) := by decide +kernel
theorem dX2_add_31 : decode cX2_add 31 = .ok (.getfield 9, 3) := by decide +kernel
theorem dX2_add_34 : decode cX2_add 34 = .ok (.iload_n 3, 1) := by decide +kernel
theorem dX2_add_35 : decode cX2_add 35 = .ok (.iconst 1, 1) := by decide +kernel
theorem dX2_add_36 : decode cX2_add 36 = .ok (.isub, 1) := by decide +kernel
theorem dX2_add_37 : decode cX2_add 37 = .ok (.iconst 2, 1) := by decide +kernel
theorem dX2_add_38 : decode cX2_add 38 = .ok (.idiv, 1) := by decide +kernel
theorem dX2_add_39 : decode cX2_add 39 = .ok (.laload, 1) := by decide +kernel
theorem dX2_add_40 : decode cX2_add 40 = .ok (.lload_n 1, 1) := by decide +kernel
theorem dX2_add_41 : decode cX2_add 41 = .ok (.lcmp, 1) := by decide +kernel
theorem dX2_add_42 : decode cX2_add 42 = .ok (.ifCond .le 28, 3) := by decide +kernel
theorem dX2_add_45 : decode cX2_add 45 = .ok (.aload_n 0, 1) := by decide +kernel
theorem dX2_add_46 : decode cX2_add 46 = .ok (.getfield 9, 3) := by decide +kernel
theorem dX2_add_49 : decode cX2_add 49 = .ok (.iload_n 3, 1) := by decide +kernel
theorem dX2_add_50 : decode cX2_add 50 = .ok (.aload_n 0, 1) := by decide +kernel
theorem dX2_add_51 : decode cX2_add 51 = .ok (.getfield 9, 3) := by decide +kernel
theorem dX2_add_54 : decode cX2_add 54 = .ok (.iload_n 3, 1) := by decide +kernel
theorem dX2_add_55 : decode cX2_add 55 = .ok (.iconst 1, 1) := by decide +kernel
theorem dX2_add_56 : decode cX2_add 56 = .ok (.isub, 1) := by decide +kernel
theorem dX2_add_57 : decode cX2_add 57 = .ok (.iconst 2, 1) := by decide +kernel
theorem dX2_add_58 : decode cX2_add 58 = .ok (.idiv, 1) := by decide +kernel
theorem dX2_add_59 : decode cX2_add 59 = .ok (.laload, 1) := by decide +kernel
theorem dX2_add_60 : decode cX2_add 60 = .ok (.lastore, 1) := by decide +kernel
theorem dX2_add_61 : decode cX2_add 61 = .ok (.iload_n 3, 1) := by decide +kernel
theorem dX2_add_62 : decode cX2_add 62 = .ok (.iconst 1, 1) := by decide +kernel
theorem dX2_add_63 : decode cX2_add 63 = .ok (.isub, 1) := by decide +kernel
theorem dX2_add_64 : decode cX2_add 64 = .ok (.iconst 2, 1) := by decide +kernel
theorem dX2_add_65 : decode cX2_add 65 = .ok (.idiv, 1) := by decide +kernel
theorem dX2_add_66 : decode cX2_add 66 = .ok (.istore_n 3, 1) := by decide +kernel
theorem dX2_add_67 : decode cX2_add 67 = .ok (.goto (-41), 3) := by decide +kernel
theorem dX2_add_70 : decode cX2_add 70 = .ok (.aload_n 0, 1) := by decide +kernel
theorem dX2_add_71 : decode cX2_add 71 = .ok (.getfield 9, 3) := by decide +kernel
theorem dX2_add_74 : decode cX2_add 74 = .ok (.iload_n 3, 1) := by decide +kernel
theorem dX2_add_75 : decode cX2_add 75 = .ok (.lload_n 1, 1) := by decide +kernel
theorem dX2_add_76 : decode cX2_add 76 = .ok (.lastore, 1) := by decide +kernel
theorem dX2_add_77 : decode cX2_add 77 = .ok (.return_, 1) := by decide +kernel
theorem dX2_takeFirst_0 : decode cX2_takeFirst 0 = .ok (.aload_n 0, 1) := by decide +kernel
theorem dX2_takeFirst_1 : decode cX2_takeFirst 1 = .ok (.getfield 13, 3) := by decide +kernel
theorem dX2_takeFirst_4 : decode cX2_takeFirst 4 = .ok (.ifCond .ne 5, 3) := by decide +kernel
theorem dX2_takeFirst_7 : decode cX2_takeFirst 7 = .ok (.lconst 0, 1) := by decide +kernel
theorem dX2_takeFirst_8 : decode cX2_takeFirst 8 = .ok (.lreturn, 1) := by decide +kernel
theorem dX2_takeFirst_9 : decode cX2_takeFirst 9 = .ok (.aload_n 0, 1) := by decide +kernel
theorem dX2_takeFirst_10 : decode cX2_takeFirst 10 = .ok (.getfield 9, 3) := by decide +kernel
theorem dX2_takeFirst_13 : decode cX2_takeFirst 13 = .ok (.iconst 0, 1) := by decide +kernel
theorem dX2_takeFirst_14 : decode cX2_takeFirst 14 = .ok (.laload, 1) := by decide +kernel
theorem dX2_takeFirst_15 : decode cX2_takeFirst 15 = .ok (.lstore_n 1, 1) := by decide +kernel
theorem dX2_takeFirst_16 : decode cX2_takeFirst 16 = .ok (.aload_n 0, 1) := by decide +kernel
theorem dX2_takeFirst_17 : decode cX2_takeFirst 17 = .ok (.dup, 1) := by decide +kernel
theorem dX2_takeFirst_18 : decode cX2_takeFirst 18 = .ok (.getfield 13, 3) := by decide +kernel
theorem dX2_takeFirst_21 : decode cX2_takeFirst 21 = .ok (.iconst 1, 1) := by decide +kernel
theorem dX2_takeFirst_22 : decode cX2_takeFirst 22 = .ok (.isub, 1) := by decide +kernel
theorem dX2_takeFirst_23 : decode cX2_takeFirst 23 = .ok (.putfield 13, 3) := by decide +kernel
theorem dX2_takeFirst_26 : decode cX2_takeFirst 26 = .ok (.aload_n 0, 1) := by decide +kernel
theorem dX2_takeFirst_27 : decode cX2_takeFirst 27 = .ok (.aload_n 0, 1) := by decide +kernel
theorem dX2_takeFirst_28 : decode cX2_takeFirst 28 = .ok (.getfield 9, 3) := by decide +kernel
theorem dX2_takeFirst_31 : decode cX2_takeFirst 31 = .ok (.aload_n 0, 1) := by decide +kernel
theorem dX2_takeFirst_32 : decode cX2_takeFirst 32 = .ok (.getfield 13, 3) := by decide +kernel
theorem dX2_takeFirst_35 : decode cX2_takeFirst 35 = .ok (.laload, 1) := by decide +kernel
theorem dX2_takeFirst_36 : decode cX2_takeFirst 36 = .ok (.invokevirtual 17, 3) := by decide +kernel
theorem dX2_takeFirst_39 : decode cX2_takeFirst 39 = .ok (.lload_n 1, 1) := by decide +kernel
theorem dX2_takeFirst_40 : decode cX2_takeFirst 40 = .ok (.lreturn, 1) := by decide +kernel
theorem dX2_sinkFromTop_0 : decode cX2_sinkFromTop 0 = .ok (.iconst 0, 1) := by decide +kernel
theorem dX2_sinkFromTop_1 : decode cX2_sinkFromTop 1 = .ok (.istore_n 3, 1) := by decide +kernel
theorem dX2_sinkFromTop_2 : decode cX2_sinkFromTop 2 = .ok (.iconst 1, 1) := by decide +kernel
theorem dX2_sinkFromTop_3 : decode cX2_sinkFromTop 3 = .ok (.istore 4, 2) := by decide +kernel
theorem dX2_sinkFromTop_5 : decode cX2_sinkFromTop 5 = .ok (.iload 4, 2) := by decide +kernel
theorem dX2_sinkFromTop_7 : decode cX2_sinkFromTop 7 = .ok (.aload_n 0, 1) := by decide +kernel
theorem dX2_sinkFromTop_8 : decode cX2_sinkFromTop 8 = .ok (.getfield 13, 3) := by decide +kernel
theorem dX2_sinkFromTop_11 : decode cX2_sinkFromTop 11 = .ok (.if_icmp .ge 78, 3) := by decide +kernel
theorem dX2_sinkFromTop_14 : decode cX2_sinkFromTop 14 = .ok (.iload 4, 2) := by decide +kernel
theorem dX2_sinkFromTop_16 : decode cX2_sinkFromTop 16 = .ok (.iconst 1, 1) := by decide +kernel
theorem dX2_sinkFromTop_17 : decode cX2_sinkFromTop 17 = .ok (.iadd, 1) := by decide +kernel
theorem dX2_sinkFromTop_18 : decode cX2_sinkFromTop 18 = .ok (.aload_n 0, 1) := by decide +kernel
theorem dX2_sinkFromTop_19 : decode cX2_sinkFromTop 19 = .ok (.getfield 13, 3) := by decide +kernel
theorem dX2_sinkFromTop_22 : decode cX2_sinkFromTop 22 = .ok (.if_icmp .ge 26, 3) := by decide +kernel
theorem dX2_sinkFromTop_25 : decode cX2_sinkFromTop 25 = .ok (.aload_n 0, 1) := by decide +kernel
theorem dX2_sinkFromTop_26 : decode cX2_sinkFromTop 26 = .ok (.getfield 9, 3) := by decide +kernel
theorem dX2_sinkFromTop_29 : decode cX2_sinkFromTop 29 = .ok (.iload 4, 2) := by decide +kernel
theorem dX2_sinkFromTop_31 : decode cX2_sinkFromTop 31 = .ok (.iconst 1, 1) := by decide +kernel
theorem dX2_sinkFromTop_32 : decode cX2_sinkFromTop 32 = .ok (.iadd, 1) := by decide +kernel
theorem dX2_sinkFromTop_33 : decode cX2_sinkFromTop 33 = .ok (.laload, 1) := by decide +kernel
theorem dX2_sinkFromTop_34 : decode cX2_sinkFromTop 34 = .ok (.aload_n 0, 1) := by decide +kernel
theorem dX2_sinkFromTop_35 : decode cX2_sinkFromTop 35 = .ok (.getfield 9, 3) := by decide +kernel
theorem dX2_sinkFromTop_38 : decode cX2_sinkFromTop 38 = .ok (.iload 4, 2) := by decide +kernel
theorem dX2_sinkFromTop_40 : decode cX2_sinkFromTop 40 = .ok (.laload, 1) := by decide +kernel
theorem dX2_sinkFromTop_41 : decode cX2_sinkFromTop 41 = .ok (.lcmp, 1) := by decide +kernel
theorem dX2_sinkFromTop_42 : decode cX2_sinkFromTop 42 = .ok (.ifCond .ge 6, 3) := by decide +kernel
theorem dX2_sinkFromTop_45 : decode cX2_sinkFromTop 45 = .ok (.iinc 4 1, 3) := by decide +kernel
theorem dX2_sinkFromTop_48 : decode cX2_sinkFromTop 48 = .ok (.aload_n 0, 1) := by decide +kernel
theorem dX2_sinkFromTop_49 : decode cX2_sinkFromTop 49 = .ok (.getfield 9, 3) := by decide +kernel
theorem dX2_sinkFromTop_52 : decode cX2_sinkFromTop 52 = .ok (.iload 4, 2) := by decide +kernel
theorem dX2_sinkFromTop_54 : decode cX2_sinkFromTop 54 = .ok (.laload, 1) := by decide +kernel
theorem dX2_sinkFromTop_55 : decode cX2_sinkFromTop 55 = .ok (.lload_n 1, 1) := by decide +kernel
theorem dX2_sinkFromTop_56 : decode cX2_sinkFromTop 56 = .ok (.lcmp, 1) := by decide +kernel
theorem dX2_sinkFromTop_57 : decode cX2_sinkFromTop 57 = .ok (.ifCond .lt 6, 3) := by decide +kernel
theorem dX2_sinkFromTop_60 : decode cX2_sinkFromTop 60 = .ok (.goto 29, 3) := by decide +kernel
theorem dX2_sinkFromTop_63 : decode cX2_sinkFromTop 63 = .ok (.aload_n 0, 1) := by decide +kernel
theorem dX2_sinkFromTop_64 : decode cX2_sinkFromTop 64 = .ok (.getfield 9, 3) := by decide +kernel
theorem dX2_sinkFromTop_67 : decode cX2_sinkFromTop 67 = .ok (.iload_n 3, 1) := by decide +kernel
theorem dX2_sinkFromTop_68 : decode cX2_sinkFromTop 68 = .ok (.aload_n 0, 1) := by decide +kernel
theorem dX2_sinkFromTop_69 : decode cX2_sinkFromTop 69 = .ok (.getfield 9, 3) := by decide +kernel
theorem dX2_sinkFromTop_72 : decode cX2_sinkFromTop 72 = .ok (.iload 4, 2) := by decide +kernel
theorem dX2_sinkFromTop_74 : decode cX2_sinkFromTop 74 = .ok (.laload, 1) := by decide +kernel
theorem dX2_sinkFromTop_75 : decode cX2_sinkFromTop 75 = .ok (.lastore, 1) := by decide +kernel
theorem dX2_sinkFromTop_76 : decode cX2_sinkFromTop 76 = .ok (.iload 4, 2) := by decide +kernel
theorem dX2_sinkFromTop_78 : decode cX2_sinkFromTop 78 = .ok (.istore_n 3, 1) := by decide +kernel
theorem dX2_sinkFromTop_79 : decode cX2_sinkFromTop 79 = .ok (.iconst 2, 1) := by decide +kernel
theorem dX2_sinkFromTop_80 : decode cX2_sinkFromTop 80 = .ok (.iload_n 3, 1) := by decide +kernel
theorem dX2_sinkFromTop_81 : decode cX2_sinkFromTop 81 = .ok (.imul, 1) := by decide +kernel
theorem dX2_sinkFromTop_82 : decode cX2_sinkFromTop 82 = .ok (.iconst 1, 1) := by decide +kernel
theorem dX2_sinkFromTop_83 : decode cX2_sinkFromTop 83 = .ok (.iadd, 1) := by decide +kernel
theorem dX2_sinkFromTop_84 : decode cX2_sinkFromTop 84 = .ok (.istore 4, 2) := by decide +kernel
theorem dX2_sinkFromTop_86 : decode cX2_sinkFromTop 86 = .ok (.goto (-81), 3) := by decide +kernel
theorem dX2_sinkFromTop_89 : decode cX2_sinkFromTop 89 = .ok (.aload_n 0, 1) := by decide +kernel
theorem dX2_sinkFromTop_90 : decode cX2_sinkFromTop 90 = .ok (.getfield 9, 3) := by decide +kernel
theorem dX2_sinkFromTop_93 : decode cX2_sinkFromTop 93 = .ok (.iload_n 3, 1) := by decide +kernel
theorem dX2_sinkFromTop_94 : decode cX2_sinkFromTop 94 = .ok (.lload_n 1, 1) := by decide +kernel
theorem dX2_sinkFromTop_95 : decode cX2_sinkFromTop 95 = .ok (.lastore, 1) := by decide +kernel
theorem dX2_sinkFromTop_96 : decode cX2_sinkFromTop 96 = .ok (.return_, 1) := by decide +kernel
theorem dX3_init_0 : decode cX3_init 0 = .ok (.aload_n 0, 1) := by decide +kernel
theorem dX3_init_1 : decode cX3_init 1 = .ok (.invokespecial 5, 3) := by decide +kernel
theorem dX3_init_4 : decode cX3_init 4 = .ok (.aload_n 0, 1) := by decide +kernel
theorem dX3_init_5 : decode cX3_init 5 = .ok (.new 11, 3) := by decide +kernel
theorem dX3_init_8 : decode cX3_init 8 = .ok (.dup, 1) := by decide +kernel
theorem dX3_init_9 : decode cX3_init 9 = .ok (.invokespecial 13, 3) := by decide +kernel
theorem dX3_init_12 : decode cX3_init 12 = .ok (.putfield 14, 3) := by decide +kernel
theorem dX3_init_15 : decode cX3_init 15 = .ok (.aload_n 0, 1) := by decide +kernel
theorem dX3_init_16 : decode cX3_init 16 = .ok (.aload_n 1, 1) := by decide +kernel
theorem dX3_init_17 : decode cX3_init 17 = .ok (.putfield 18, 3) := by decide +kernel
theorem dX3_init_20 : decode cX3_init 20 = .ok (.aload_n 0, 1) := by decide +kernel
theorem dX3_init_21 : decode cX3_init 21 = .ok (.aload_n 2, 1) := by decide +kernel
theorem dX3_init_22 : decode cX3_init 22 = .ok (.putfield 22, 3) := by decide +kernel
theorem dX3_init_25 : decode cX3_init 25 = .ok (.return_, 1) := by decide +kernel
theorem dX3_find_0 : decode cX3_find 0 = .ok (.aload_n 0, 1) := by decide +kernel
theorem dX3_find_1 : decode cX3_find 1 = .ok (.getfield 18, 3) := by decide +kernel
theorem dX3_find_4 : decode cX3_find 4 = .ok (.iload_n 1, 1) := by decide +kernel
theorem dX3_find_5 : decode cX3_find 5 = .ok (.invokevirtual 25, 3) := by decide +kernel
theorem dX3_find_8 : decode cX3_find 8 = .ok (.istore_n 2, 1) := by decide +kernel
theorem dX3_find_9 : decode cX3_find 9 = .ok (.aload_n 0, 1) := by decide +kernel
theorem dX3_find_10 : decode cX3_find 10 = .ok (.getfield 14, 3) := by decide +kernel
theorem dX3_find_13 : decode cX3_find 13 = .ok (.invokevirtual 31, 3) := by decide +kernel
theorem dX3_find_16 : decode cX3_find 16 = .ok (.aload_n 0, 1) := by decide +kernel
theorem dX3_find_17 : decode cX3_find 17 = .ok (.getfield 14, 3) := by decide +kernel
theorem dX3_find_20 : decode cX3_find 20 = .ok (.iload_n 2, 1) := by decide +kernel
theorem dX3_find_21 : decode cX3_find 21 = .ok (.invokestatic 34, 3) := by decide +kernel
theorem dX3_find_24 : decode cX3_find 24 = .ok (.invokevirtual 38, 3) := by decide +kernel
theorem dX3_find_27 : decode cX3_find 27 = .ok (.iconst 0, 1) := by decide +kernel
theorem dX3_find_28 : decode cX3_find 28 = .ok (.istore_n 3, 1) := by decide +kernel
theorem dX3_find_29 : decode cX3_find 29 = .ok (.iload_n 3, 1) := by decide +kernel
theorem dX3_find_30 : decode cX3_find 30 = .ok (.sipush 1024, 3) := by decide +kernel
theorem dX3_find_33 : decode cX3_find 33 = .ok (.if_icmp .ge 65, 3) := by decide +kernel
theorem dX3_find_36 : decode cX3_find 36 = .ok (.aload_n 0, 1) := by decide +kernel
theorem dX3_find_37 : decode cX3_find 37 = .ok (.getfield 14, 3) := by decide +kernel
theorem dX3_find_40 : decode cX3_find 40 = .ok (.invokevirtual 42, 3) := by decide +kernel
theorem dX3_find_43 : decode cX3_find 43 = .ok (.ifCond .ne 55, 3) := by decide +kernel
theorem dX3_find_46 : decode cX3_find 46 = .ok (.aload_n 0, 1) := by decide +kernel
theorem dX3_find_47 : decode cX3_find 47 = .ok (.getfield 14, 3) := by decide +kernel
theorem dX3_find_50 : decode cX3_find 50 = .ok (.invokevirtual 46, 3) := by decide +kernel
theorem dX3_find_53 : decode cX3_find 53 = .ok (.lstore 4, 2) := by decide +kernel
theorem dX3_find_55 : decode cX3_find 55 = .ok (.lload 4, 2) := by decide +kernel
theorem dX3_find_57 : decode cX3_find 57 = .ok (.invokestatic 50, 3) := by decide +kernel
theorem dX3_find_60 : decode cX3_find 60 = .ok (.lload 4, 2) := by decide +kernel
theorem dX3_find_62 : decode cX3_find 62 = .ok (.invokestatic 54, 3) := by decide +kernel
theorem dX3_find_65 : decode cX3_find 65 = .ok (.if_icmp .ne 11, 3) := by decide +kernel
theorem dX3_find_68 : decode cX3_find 68 = .ok (.aload_n 0, 1) := by decide +kernel
theorem dX3_find_69 : decode cX3_find 69 = .ok (.lload 4, 2) := by decide +kernel
theorem dX3_find_71 : decode cX3_find 71 = .ok (.putfield 57, 3) := by decide +kernel
theorem dX3_find_74 : decode cX3_find 74 = .ok (.iconst 1, 1) := by decide +kernel
theorem dX3_find_75 : decode cX3_find 75 = .ok (.ireturn, 1) := by decide +kernel
theorem dX3_find_76 : decode cX3_find 76 = .ok (.aload_n 0, 1) := by decide +kernel
theorem dX3_find_77 : decode cX3_find 77 = .ok (.lload 4, 2) := by decide +kernel
theorem dX3_find_79 : decode cX3_find 79 = .ok (.invokevirtual 61, 3) := by decide +kernel
theorem dX3_find_82 : decode cX3_find 82 = .ok (.aload_n 0, 1) := by decide +kernel
theorem dX3_find_83 : decode cX3_find 83 = .ok (.lload 4, 2) := by decide +kernel
theorem dX3_find_85 : decode cX3_find 85 = .ok (.iload_n 1, 1) := by decide +kernel
theorem dX3_find_86 : decode cX3_find 86 = .ok (.iload_n 2, 1) := by decide +kernel
theorem dX3_find_87 : decode cX3_find 87 = .ok (.iconst 1, 1) := by decide +kernel
theorem dX3_find_88 : decode cX3_find 88 = .ok (.iadd, 1) := by decide +kernel
theorem dX3_find_89 : decode cX3_find 89 = .ok (.invokevirtual 64, 3) := by decide +kernel
theorem dX3_find_92 : decode cX3_find 92 = .ok (.iinc 3 1, 3) := by decide +kernel
theorem dX3_find_95 : decode cX3_find 95 = .ok (.goto (-66), 3) := by decide +kernel
theorem dX3_find_98 : decode cX3_find 98 = .ok (.iconst 0, 1) := by decide +kernel
theorem dX3_find_99 : decode cX3_find 99 = .ok (.ireturn, 1) := by decide +kernel
theorem dX3_length_0 : decode cX3_length 0 = .ok (.aload_n 0, 1) := by decide +kernel
theorem dX3_length_1 : decode cX3_length 1 = .ok (.getfield 57, 3) := by decide +kernel
theorem dX3_length_4 : decode cX3_length 4 = .ok (.invokestatic 54, 3) := by decide +kernel
theorem dX3_length_7 : decode cX3_length 7 = .ok (.ireturn, 1) := by decide +kernel
theorem dX3_boxMoved_0 : decode cX3_boxMoved 0 = .ok (.aload_n 0, 1) := by decide +kernel
theorem dX3_boxMoved_1 : decode cX3_boxMoved 1 = .ok (.getfield 57, 3) := by decide +kernel
theorem dX3_boxMoved_4 : decode cX3_boxMoved 4 = .ok (.iload_n 1, 1) := by decide +kernel
theorem dX3_boxMoved_5 : decode cX3_boxMoved 5 = .ok (.invokestatic 68, 3) := by decide +kernel
theorem dX3_boxMoved_8 : decode cX3_boxMoved 8 = .ok (.iconst 2, 1) := by decide +kernel
theorem dX3_boxMoved_9 : decode cX3_boxMoved 9 = .ok (.ishr, 1) := by decide +kernel
theorem dX3_boxMoved_10 : decode cX3_boxMoved 10 = .ok (.ireturn, 1) := by decide +kernel
theorem dX3_stackReached_0 : decode cX3_stackReached 0 = .ok (.aload_n 0, 1) := by decide +kernel
theorem dX3_stackReached_1 : decode cX3_stackReached 1 = .ok (.getfield 57, 3) := by decide +kernel
theorem dX3_stackReached_4 : decode cX3_stackReached 4 = .ok (.iload_n 1, 1) := by decide +kernel
theorem dX3_stackReached_5 : decode cX3_stackReached 5 = .ok (.invokestatic 68, 3) := by decide +kernel
theorem dX3_stackReached_8 : decode cX3_stackReached 8 = .ok (.iconst 3, 1) := by decide +kernel
theorem dX3_stackReached_9 : decode cX3_stackReached 9 = .ok (.iand, 1) := by decide +kernel
theorem dX3_stackReached_10 : decode cX3_stackReached 10 = .ok (.ireturn, 1) := by decide +kernel
theorem dX3_lengthByTrying_0 : decode cX3_lengthByTrying 0 = .ok (.aload_n 0, 1) := by decide +kernel
theorem dX3_lengthByTrying_1 : decode cX3_lengthByTrying 1 = .ok (.getfield 22, 3) := by decide +kernel
theorem dX3_lengthByTrying_4 : decode cX3_lengthByTrying 4 = .ok (.aload_n 0, 1) := by decide +kernel
theorem dX3_lengthByTrying_5 : decode cX3_lengthByTrying 5 = .ok (.getfield 18, 3) := by decide +kernel
theorem dX3_lengthByTrying_8 : decode cX3_lengthByTrying 8 = .ok (.invokevirtual 72, 3) := by decide +kernel
theorem dX3_lengthByTrying_11 : decode cX3_lengthByTrying 11 = .ok (.aload_n 0, 1) := by decide +kernel
theorem dX3_lengthByTrying_12 : decode cX3_lengthByTrying 12 = .ok (.getfield 22, 3) := by decide +kernel
theorem dX3_lengthByTrying_15 : decode cX3_lengthByTrying 15 = .ok (.iload_n 1, 1) := by decide +kernel
theorem dX3_lengthByTrying_16 : decode cX3_lengthByTrying 16 = .ok (.aload_n 0, 1) := by decide +kernel
theorem dX3_lengthByTrying_17 : decode cX3_lengthByTrying 17 = .ok (.getfield 22, 3) := by decide +kernel
theorem dX3_lengthByTrying_20 : decode cX3_lengthByTrying 20 = .ok (.iload_n 1, 1) := by decide +kernel
theorem dX3_lengthByTrying_21 : decode cX3_lengthByTrying 21 = .ok (.invokevirtual 25, 3) := by decide +kernel
theorem dX3_lengthByTrying_24 : decode cX3_lengthByTrying 24 = .ok (.iconst 1, 1) := by decide +kernel
theorem dX3_lengthByTrying_25 : decode cX3_lengthByTrying 25 = .ok (.iadd, 1) := by decide +kernel
theorem dX3_lengthByTrying_26 : decode cX3_lengthByTrying 26 = .ok (.invokestatic 76, 3) := by decide +kernel
theorem dX3_lengthByTrying_29 : decode cX3_lengthByTrying 29 = .ok (.ireturn, 1) := by decide +kernel
theorem dX3_fewestMoves_0 : decode cX3_fewestMoves 0 = .ok (.aload_n 0, 1) := by decide +kernel
theorem dX3_fewestMoves_1 : decode cX3_fewestMoves 1 = .ok (.iload_n 1, 1) := by decide +kernel
theorem dX3_fewestMoves_2 : decode cX3_fewestMoves 2 = .ok (.invokevirtual 25, 3) := by decide +kernel
theorem dX3_fewestMoves_5 : decode cX3_fewestMoves 5 = .ok (.istore_n 3, 1) := by decide +kernel
theorem dX3_fewestMoves_6 : decode cX3_fewestMoves 6 = .ok (.iload_n 3, 1) := by decide +kernel
theorem dX3_fewestMoves_7 : decode cX3_fewestMoves 7 = .ok (.ifCond .ne 5, 3) := by decide +kernel
theorem dX3_fewestMoves_10 : decode cX3_fewestMoves 10 = .ok (.iconst 0, 1) := by decide +kernel
theorem dX3_fewestMoves_11 : decode cX3_fewestMoves 11 = .ok (.ireturn, 1) := by decide +kernel
theorem dX3_fewestMoves_12 : decode cX3_fewestMoves 12 = .ok (.iload_n 3, 1) := by decide +kernel
theorem dX3_fewestMoves_13 : decode cX3_fewestMoves 13 = .ok (.iload_n 2, 1) := by decide +kernel
theorem dX3_fewestMoves_14 : decode cX3_fewestMoves 14 = .ok (.if_icmp .le 5, 3) := by decide +kernel
theorem dX3_fewestMoves_17 : decode cX3_fewestMoves 17 = .ok (.iconst (-1), 1) := by decide +kernel
theorem dX3_fewestMoves_18 : decode cX3_fewestMoves 18 = .ok (.ireturn, 1) := by decide +kernel
theorem dX3_fewestMoves_19 : decode cX3_fewestMoves 19 = .ok (.iconst (-1), 1) := by decide +kernel
theorem dX3_fewestMoves_20 : decode cX3_fewestMoves 20 = .ok (.istore 4, 2) := by decide +kernel
theorem dX3_fewestMoves_22 : decode cX3_fewestMoves 22 = .ok (.iconst 0, 1) := by decide +kernel
theorem dX3_fewestMoves_23 : decode cX3_fewestMoves 23 = .ok (.istore 5, 2) := by decide +kernel
theorem dX3_fewestMoves_25 : decode cX3_fewestMoves 25 = .ok (.iload 5, 2) := by decide +kernel
theorem dX3_fewestMoves_27 : decode cX3_fewestMoves 27 = .ok (.aload_n 0, 1) := by decide +kernel
theorem dX3_fewestMoves_28 : decode cX3_fewestMoves 28 = .ok (.invokevirtual 80, 3) := by decide +kernel
theorem dX3_fewestMoves_31 : decode cX3_fewestMoves 31 = .ok (.if_icmp .ge 104, 3) := by decide +kernel
theorem dX3_fewestMoves_34 : decode cX3_fewestMoves 34 = .ok (.aload_n 0, 1) := by decide +kernel
theorem dX3_fewestMoves_35 : decode cX3_fewestMoves 35 = .ok (.iload 5, 2) := by decide +kernel
theorem dX3_fewestMoves_37 : decode cX3_fewestMoves 37 = .ok (.invokevirtual 84, 3) := by decide +kernel
theorem dX3_fewestMoves_40 : decode cX3_fewestMoves 40 = .ok (.istore 6, 2) := by decide +kernel
theorem dX3_fewestMoves_42 : decode cX3_fewestMoves 42 = .ok (.iconst 0, 1) := by decide +kernel
theorem dX3_fewestMoves_43 : decode cX3_fewestMoves 43 = .ok (.istore 7, 2) := by decide +kernel
theorem dX3_fewestMoves_45 : decode cX3_fewestMoves 45 = .ok (.iload 7, 2) := by decide +kernel
theorem dX3_fewestMoves_47 : decode cX3_fewestMoves 47 = .ok (.aload_n 0, 1) := by decide +kernel
theorem dX3_fewestMoves_48 : decode cX3_fewestMoves 48 = .ok (.invokevirtual 80, 3) := by decide +kernel
theorem dX3_fewestMoves_51 : decode cX3_fewestMoves 51 = .ok (.if_icmp .ge 78, 3) := by decide +kernel
theorem dX3_fewestMoves_54 : decode cX3_fewestMoves 54 = .ok (.aload_n 0, 1) := by decide +kernel
theorem dX3_fewestMoves_55 : decode cX3_fewestMoves 55 = .ok (.iload 6, 2) := by decide +kernel
theorem dX3_fewestMoves_57 : decode cX3_fewestMoves 57 = .ok (.iload 7, 2) := by decide +kernel
theorem dX3_fewestMoves_59 : decode cX3_fewestMoves 59 = .ok (.invokevirtual 87, 3) := by decide +kernel
theorem dX3_fewestMoves_62 : decode cX3_fewestMoves 62 = .ok (.bipush 45, 2) := by decide +kernel
theorem dX3_fewestMoves_64 : decode cX3_fewestMoves 64 = .ok (.if_icmp .eq 6, 3) := by decide +kernel
theorem dX3_fewestMoves_67 : decode cX3_fewestMoves 67 = .ok (.goto 56, 3) := by decide +kernel
theorem dX3_fewestMoves_70 : decode cX3_fewestMoves 70 = .ok (.aload_n 0, 1) := by decide +kernel
theorem dX3_fewestMoves_71 : decode cX3_fewestMoves 71 = .ok (.iload 5, 2) := by decide +kernel
theorem dX3_fewestMoves_73 : decode cX3_fewestMoves 73 = .ok (.iload 7, 2) := by decide +kernel
theorem dX3_fewestMoves_75 : decode cX3_fewestMoves 75 = .ok (.invokevirtual 91, 3) := by decide +kernel
theorem dX3_fewestMoves_78 : decode cX3_fewestMoves 78 = .ok (.aload_n 0, 1) := by decide +kernel
theorem dX3_fewestMoves_79 : decode cX3_fewestMoves 79 = .ok (.iload_n 1, 1) := by decide +kernel
theorem dX3_fewestMoves_80 : decode cX3_fewestMoves 80 = .ok (.iload_n 2, 1) := by decide +kernel
theorem dX3_fewestMoves_81 : decode cX3_fewestMoves 81 = .ok (.iconst 1, 1) := by decide +kernel
theorem dX3_fewestMoves_82 : decode cX3_fewestMoves 82 = .ok (.isub, 1) := by decide +kernel
theorem dX3_fewestMoves_83 : decode cX3_fewestMoves 83 = .ok (.invokestatic 76, 3) := by decide +kernel
theorem dX3_fewestMoves_86 : decode cX3_fewestMoves 86 = .ok (.istore 8, 2) := by decide +kernel
theorem dX3_fewestMoves_88 : decode cX3_fewestMoves 88 = .ok (.aload_n 0, 1) := by decide +kernel
theorem dX3_fewestMoves_89 : decode cX3_fewestMoves 89 = .ok (.iload 7, 2) := by decide +kernel
theorem dX3_fewestMoves_91 : decode cX3_fewestMoves 91 = .ok (.iload 5, 2) := by decide +kernel
theorem dX3_fewestMoves_93 : decode cX3_fewestMoves 93 = .ok (.invokevirtual 91, 3) := by decide +kernel
theorem dX3_fewestMoves_96 : decode cX3_fewestMoves 96 = .ok (.iload 8, 2) := by decide +kernel
theorem dX3_fewestMoves_98 : decode cX3_fewestMoves 98 = .ok (.iconst (-1), 1) := by decide +kernel
theorem dX3_fewestMoves_99 : decode cX3_fewestMoves 99 = .ok (.if_icmp .eq 24, 3) := by decide +kernel
theorem dX3_fewestMoves_102 : decode cX3_fewestMoves 102 = .ok (.iload 4, 2) := by decide +kernel
theorem dX3_fewestMoves_104 : decode cX3_fewestMoves 104 = .ok (.iconst (-1), 1) := by decide +kernel
theorem dX3_fewestMoves_105 : decode cX3_fewestMoves 105 = .ok (.if_icmp .eq 12, 3) := by decide +kernel
theorem dX3_fewestMoves_108 : decode cX3_fewestMoves 108 = .ok (.iload 8, 2) := by decide +kernel
theorem dX3_fewestMoves_110 : decode cX3_fewestMoves 110 = .ok (.iconst 1, 1) := by decide +kernel
theorem dX3_fewestMoves_111 : decode cX3_fewestMoves 111 = .ok (.iadd, 1) := by decide +kernel
theorem dX3_fewestMoves_112 : decode cX3_fewestMoves 112 = .ok (.iload 4, 2) := by decide +kernel
theorem dX3_fewestMoves_114 : decode cX3_fewestMoves 114 = .ok (.if_icmp .ge 9, 3) := by decide +kernel
theorem dX3_fewestMoves_117 : decode cX3_fewestMoves 117 = .ok (.iload 8, 2) := by decide +kernel
theorem dX3_fewestMoves_119 : decode cX3_fewestMoves 119 = .ok (.iconst 1, 1) := by decide +kernel
theorem dX3_fewestMoves_120 : decode cX3_fewestMoves 120 = .ok (.iadd, 1) := by decide +kernel
theorem dX3_fewestMoves_121 : decode cX3_fewestMoves 121 = .ok (.istore 4, 2) := by decide +kernel
theorem dX3_fewestMoves_123 : decode cX3_fewestMoves 123 = .ok (.iinc 7 1, 3) := by decide +kernel
theorem dX3_fewestMoves_126 : decode cX3_fewestMoves 126 = .ok (.goto (-81), 3) := by decide +kernel
theorem dX3_fewestMoves_129 : decode cX3_fewestMoves 129 = .ok (.iinc 5 1, 3) := by decide +kernel
theorem dX3_fewestMoves_132 : decode cX3_fewestMoves 132 = .ok (.goto (-107), 3) := by decide +kernel
theorem dX3_fewestMoves_135 : decode cX3_fewestMoves 135 = .ok (.iload 4, 2) := by decide +kernel
theorem dX3_fewestMoves_137 : decode cX3_fewestMoves 137 = .ok (.ireturn, 1) := by decide +kernel
theorem dX3_layOut_0 : decode cX3_layOut 0 = .ok (.aload_n 0, 1) := by decide +kernel
theorem dX3_layOut_1 : decode cX3_layOut 1 = .ok (.getfield 22, 3) := by decide +kernel
theorem dX3_layOut_4 : decode cX3_layOut 4 = .ok (.aload_n 0, 1) := by decide +kernel
theorem dX3_layOut_5 : decode cX3_layOut 5 = .ok (.getfield 18, 3) := by decide +kernel
theorem dX3_layOut_8 : decode cX3_layOut 8 = .ok (.invokevirtual 72, 3) := by decide +kernel
theorem dX3_layOut_11 : decode cX3_layOut 11 = .ok (.iconst 0, 1) := by decide +kernel
theorem dX3_layOut_12 : decode cX3_layOut 12 = .ok (.istore_n 3, 1) := by decide +kernel
theorem dX3_layOut_13 : decode cX3_layOut 13 = .ok (.iload_n 3, 1) := by decide +kernel
theorem dX3_layOut_14 : decode cX3_layOut 14 = .ok (.lload_n 1, 1) := by decide +kernel
theorem dX3_layOut_15 : decode cX3_layOut 15 = .ok (.invokestatic 54, 3) := by decide +kernel
theorem dX3_layOut_18 : decode cX3_layOut 18 = .ok (.if_icmp .ge 38, 3) := by decide +kernel
theorem dX3_layOut_21 : decode cX3_layOut 21 = .ok (.lload_n 1, 1) := by decide +kernel
theorem dX3_layOut_22 : decode cX3_layOut 22 = .ok (.iload_n 3, 1) := by decide +kernel
theorem dX3_layOut_23 : decode cX3_layOut 23 = .ok (.invokestatic 68, 3) := by decide +kernel
theorem dX3_layOut_26 : decode cX3_layOut 26 = .ok (.istore 4, 2) := by decide +kernel
theorem dX3_layOut_28 : decode cX3_layOut 28 = .ok (.aload_n 0, 1) := by decide +kernel
theorem dX3_layOut_29 : decode cX3_layOut 29 = .ok (.getfield 22, 3) := by decide +kernel
theorem dX3_layOut_32 : decode cX3_layOut 32 = .ok (.aload_n 0, 1) := by decide +kernel
theorem dX3_layOut_33 : decode cX3_layOut 33 = .ok (.getfield 22, 3) := by decide +kernel
theorem dX3_layOut_36 : decode cX3_layOut 36 = .ok (.iload 4, 2) := by decide +kernel
theorem dX3_layOut_38 : decode cX3_layOut 38 = .ok (.iconst 2, 1) := by decide +kernel
theorem dX3_layOut_39 : decode cX3_layOut 39 = .ok (.ishr, 1) := by decide +kernel
theorem dX3_layOut_40 : decode cX3_layOut 40 = .ok (.invokevirtual 95, 3) := by decide +kernel
theorem dX3_layOut_43 : decode cX3_layOut 43 = .ok (.iload 4, 2) := by decide +kernel
theorem dX3_layOut_45 : decode cX3_layOut 45 = .ok (.iconst 3, 1) := by decide +kernel
theorem dX3_layOut_46 : decode cX3_layOut 46 = .ok (.iand, 1) := by decide +kernel
theorem dX3_layOut_47 : decode cX3_layOut 47 = .ok (.invokevirtual 91, 3) := by decide +kernel
theorem dX3_layOut_50 : decode cX3_layOut 50 = .ok (.iinc 3 1, 3) := by decide +kernel
theorem dX3_layOut_53 : decode cX3_layOut 53 = .ok (.goto (-40), 3) := by decide +kernel
theorem dX3_layOut_56 : decode cX3_layOut 56 = .ok (.return_, 1) := by decide +kernel
theorem dX3_addNextMoves_0 : decode cX3_addNextMoves 0 = .ok (.aload_n 0, 1) := by decide +kernel
theorem dX3_addNextMoves_1 : decode cX3_addNextMoves 1 = .ok (.getfield 22, 3) := by decide +kernel
theorem dX3_addNextMoves_4 : decode cX3_addNextMoves 4 = .ok (.iload_n 3, 1) := by decide +kernel
theorem dX3_addNextMoves_5 : decode cX3_addNextMoves 5 = .ok (.invokevirtual 95, 3) := by decide +kernel
theorem dX3_addNextMoves_8 : decode cX3_addNextMoves 8 = .ok (.istore 5, 2) := by decide +kernel
theorem dX3_addNextMoves_10 : decode cX3_addNextMoves 10 = .ok (.iconst 0, 1) := by decide +kernel
theorem dX3_addNextMoves_11 : decode cX3_addNextMoves 11 = .ok (.istore 6, 2) := by decide +kernel
theorem dX3_addNextMoves_13 : decode cX3_addNextMoves 13 = .ok (.iload 6, 2) := by decide +kernel
theorem dX3_addNextMoves_15 : decode cX3_addNextMoves 15 = .ok (.aload_n 0, 1) := by decide +kernel
theorem dX3_addNextMoves_16 : decode cX3_addNextMoves 16 = .ok (.getfield 22, 3) := by decide +kernel
theorem dX3_addNextMoves_19 : decode cX3_addNextMoves 19 = .ok (.invokevirtual 80, 3) := by decide +kernel
theorem dX3_addNextMoves_22 : decode cX3_addNextMoves 22 = .ok (.if_icmp .ge 97, 3) := by decide +kernel
theorem dX3_addNextMoves_25 : decode cX3_addNextMoves 25 = .ok (.aload_n 0, 1) := by decide +kernel
theorem dX3_addNextMoves_26 : decode cX3_addNextMoves 26 = .ok (.getfield 22, 3) := by decide +kernel
theorem dX3_addNextMoves_29 : decode cX3_addNextMoves 29 = .ok (.iload 6, 2) := by decide +kernel
theorem dX3_addNextMoves_31 : decode cX3_addNextMoves 31 = .ok (.invokevirtual 84, 3) := by decide +kernel
theorem dX3_addNextMoves_34 : decode cX3_addNextMoves 34 = .ok (.istore 7, 2) := by decide +kernel
theorem dX3_addNextMoves_36 : decode cX3_addNextMoves 36 = .ok (.iconst 0, 1) := by decide +kernel
theorem dX3_addNextMoves_37 : decode cX3_addNextMoves 37 = .ok (.istore 8, 2) := by decide +kernel
theorem dX3_addNextMoves_39 : decode cX3_addNextMoves 39 = .ok (.iload 8, 2) := by decide +kernel
theorem dX3_addNextMoves_41 : decode cX3_addNextMoves 41 = .ok (.aload_n 0, 1) := by decide +kernel
theorem dX3_addNextMoves_42 : decode cX3_addNextMoves 42 = .ok (.getfield 22, 3) := by decide +kernel
theorem dX3_addNextMoves_45 : decode cX3_addNextMoves 45 = .ok (.invokevirtual 80, 3) := by decide +kernel
theorem dX3_addNextMoves_48 : decode cX3_addNextMoves 48 = .ok (.if_icmp .ge 65, 3) := by decide +kernel
theorem dX3_addNextMoves_51 : decode cX3_addNextMoves 51 = .ok (.lload_n 1, 1) := by decide +kernel
theorem dX3_addNextMoves_52 : decode cX3_addNextMoves 52 = .ok (.invokestatic 50, 3) := by decide +kernel
theorem dX3_addNextMoves_55 : decode cX3_addNextMoves 55 = .ok (.iload 6, 2) := by decide +kernel
theorem dX3_addNextMoves_57 : decode cX3_addNextMoves 57 = .ok (.iload 8, 2) := by decide +kernel
theorem dX3_addNextMoves_59 : decode cX3_addNextMoves 59 = .ok (.iload 5, 2) := by decide +kernel
theorem dX3_addNextMoves_61 : decode cX3_addNextMoves 61 = .ok (.invokestatic 98, 3) := by decide +kernel
theorem dX3_addNextMoves_64 : decode cX3_addNextMoves 64 = .ok (.iadd, 1) := by decide +kernel
theorem dX3_addNextMoves_65 : decode cX3_addNextMoves 65 = .ok (.istore 9, 2) := by decide +kernel
theorem dX3_addNextMoves_67 : decode cX3_addNextMoves 67 = .ok (.iload 9, 2) := by decide +kernel
theorem dX3_addNextMoves_69 : decode cX3_addNextMoves 69 = .ok (.iload 4, 2) := by decide +kernel
theorem dX3_addNextMoves_71 : decode cX3_addNextMoves 71 = .ok (.if_icmp .gt 36, 3) := by decide +kernel
theorem dX3_addNextMoves_74 : decode cX3_addNextMoves 74 = .ok (.aload_n 0, 1) := by decide +kernel
theorem dX3_addNextMoves_75 : decode cX3_addNextMoves 75 = .ok (.getfield 22, 3) := by decide +kernel
theorem dX3_addNextMoves_78 : decode cX3_addNextMoves 78 = .ok (.iload 7, 2) := by decide +kernel
theorem dX3_addNextMoves_80 : decode cX3_addNextMoves 80 = .ok (.iload 8, 2) := by decide +kernel
theorem dX3_addNextMoves_82 : decode cX3_addNextMoves 82 = .ok (.invokevirtual 87, 3) := by decide +kernel
theorem dX3_addNextMoves_85 : decode cX3_addNextMoves 85 = .ok (.bipush 45, 2) := by decide +kernel
theorem dX3_addNextMoves_87 : decode cX3_addNextMoves 87 = .ok (.if_icmp .ne 20, 3) := by decide +kernel
theorem dX3_addNextMoves_90 : decode cX3_addNextMoves 90 = .ok (.aload_n 0, 1) := by decide +kernel
theorem dX3_addNextMoves_91 : decode cX3_addNextMoves 91 = .ok (.getfield 14, 3) := by decide +kernel
theorem dX3_addNextMoves_94 : decode cX3_addNextMoves 94 = .ok (.lload_n 1, 1) := by decide +kernel
theorem dX3_addNextMoves_95 : decode cX3_addNextMoves 95 = .ok (.iload 9, 2) := by decide +kernel
theorem dX3_addNextMoves_97 : decode cX3_addNextMoves 97 = .ok (.iload 7, 2) := by decide +kernel
theorem dX3_addNextMoves_99 : decode cX3_addNextMoves 99 = .ok (.iload 8, 2) := by decide +kernel
theorem dX3_addNextMoves_101 : decode cX3_addNextMoves 101 = .ok (.invokestatic 102, 3) := by decide +kernel
theorem dX3_addNextMoves_104 : decode cX3_addNextMoves 104 = .ok (.invokevirtual 38, 3) := by decide +kernel
theorem dX3_addNextMoves_107 : decode cX3_addNextMoves 107 = .ok (.iinc 8 1, 3) := by decide +kernel
theorem dX3_addNextMoves_110 : decode cX3_addNextMoves 110 = .ok (.goto (-71), 3) := by decide +kernel
theorem dX3_addNextMoves_113 : decode cX3_addNextMoves 113 = .ok (.iinc 6 1, 3) := by decide +kernel
theorem dX3_addNextMoves_116 : decode cX3_addNextMoves 116 = .ok (.goto (-103), 3) := by decide +kernel
theorem dX3_addNextMoves_119 : decode cX3_addNextMoves 119 = .ok (.return_, 1) := by decide +kernel
theorem dX3_extraNeed_0 : decode cX3_extraNeed 0 = .ok (.iload_n 0, 1) := by decide +kernel
theorem dX3_extraNeed_1 : decode cX3_extraNeed 1 = .ok (.iload_n 2, 1) := by decide +kernel
theorem dX3_extraNeed_2 : decode cX3_extraNeed 2 = .ok (.if_icmp .ne 5, 3) := by decide +kernel
theorem dX3_extraNeed_5 : decode cX3_extraNeed 5 = .ok (.iconst 0, 1) := by decide +kernel
theorem dX3_extraNeed_6 : decode cX3_extraNeed 6 = .ok (.ireturn, 1) := by decide +kernel
theorem dX3_extraNeed_7 : decode cX3_extraNeed 7 = .ok (.iload_n 1, 1) := by decide +kernel
theorem dX3_extraNeed_8 : decode cX3_extraNeed 8 = .ok (.iload_n 2, 1) := by decide +kernel
theorem dX3_extraNeed_9 : decode cX3_extraNeed 9 = .ok (.if_icmp .ne 7, 3) := by decide +kernel
theorem dX3_extraNeed_12 : decode cX3_extraNeed 12 = .ok (.iconst 2, 1) := by decide +kernel
theorem dX3_extraNeed_13 : decode cX3_extraNeed 13 = .ok (.goto 4, 3) := by decide +kernel
theorem dX3_extraNeed_16 : decode cX3_extraNeed 16 = .ok (.iconst 1, 1) := by decide +kernel
theorem dX3_extraNeed_17 : decode cX3_extraNeed 17 = .ok (.ireturn, 1) := by decide +kernel
theorem dX3_begunWith_0 : decode cX3_begunWith 0 = .ok (.iload_n 0, 1) := by decide +kernel
theorem dX3_begunWith_1 : decode cX3_begunWith 1 = .ok (.i2l, 1) := by decide +kernel
theorem dX3_begunWith_2 : decode cX3_begunWith 2 = .ok (.bipush 31, 2) := by decide +kernel
theorem dX3_begunWith_4 : decode cX3_begunWith 4 = .ok (.lshl, 1) := by decide +kernel
theorem dX3_begunWith_5 : decode cX3_begunWith 5 = .ok (.lreturn, 1) := by decide +kernel
theorem dX3_goneOn_0 : decode cX3_goneOn 0 = .ok (.lload_n 0, 1) := by decide +kernel
theorem dX3_goneOn_1 : decode cX3_goneOn 1 = .ok (.invokestatic 54, 3) := by decide +kernel
theorem dX3_goneOn_4 : decode cX3_goneOn 4 = .ok (.istore 5, 2) := by decide +kernel
theorem dX3_goneOn_6 : decode cX3_goneOn 6 = .ok (.iload_n 3, 1) := by decide +kernel
theorem dX3_goneOn_7 : decode cX3_goneOn 7 = .ok (.i2l, 1) := by decide +kernel
theorem dX3_goneOn_8 : decode cX3_goneOn 8 = .ok (.iconst 2, 1) := by decide +kernel
theorem dX3_goneOn_9 : decode cX3_goneOn 9 = .ok (.lshl, 1) := by decide +kernel
theorem dX3_goneOn_10 : decode cX3_goneOn 10 = .ok (.iload 4, 2) := by decide +kernel
theorem dX3_goneOn_12 : decode cX3_goneOn 12 = .ok (.i2l, 1) := by decide +kernel
theorem dX3_goneOn_13 : decode cX3_goneOn 13 = .ok (.lor, 1) := by decide +kernel
theorem dX3_goneOn_14 : decode cX3_goneOn 14 = .ok (.lstore 6, 2) := by decide +kernel
theorem dX3_goneOn_16 : decode cX3_goneOn 16 = .ok (.lload_n 0, 1) := by decide +kernel
theorem dX3_goneOn_17 : decode cX3_goneOn 17 = .ok (.lload_n 0, 1) := by decide +kernel
theorem dX3_goneOn_18 : decode cX3_goneOn 18 = .ok (.invokestatic 50, 3) := by decide +kernel
theorem dX3_goneOn_21 : decode cX3_goneOn 21 = .ok (.invokestatic 34, 3) := by decide +kernel
theorem dX3_goneOn_24 : decode cX3_goneOn 24 = .ok (.lsub, 1) := by decide +kernel
theorem dX3_goneOn_25 : decode cX3_goneOn 25 = .ok (.iload 5, 2) := by decide +kernel
theorem dX3_goneOn_27 : decode cX3_goneOn 27 = .ok (.i2l, 1) := by decide +kernel
theorem dX3_goneOn_28 : decode cX3_goneOn 28 = .ok (.lsub, 1) := by decide +kernel
theorem dX3_goneOn_29 : decode cX3_goneOn 29 = .ok (.lstore 8, 2) := by decide +kernel
theorem dX3_goneOn_31 : decode cX3_goneOn 31 = .ok (.iload_n 2, 1) := by decide +kernel
theorem dX3_goneOn_32 : decode cX3_goneOn 32 = .ok (.invokestatic 34, 3) := by decide +kernel
theorem dX3_goneOn_35 : decode cX3_goneOn 35 = .ok (.lload 8, 2) := by decide +kernel
theorem dX3_goneOn_37 : decode cX3_goneOn 37 = .ok (.lor, 1) := by decide +kernel
theorem dX3_goneOn_38 : decode cX3_goneOn 38 = .ok (.lload 6, 2) := by decide +kernel
theorem dX3_goneOn_40 : decode cX3_goneOn 40 = .ok (.iload 5, 2) := by decide +kernel
theorem dX3_goneOn_42 : decode cX3_goneOn 42 = .ok (.invokestatic 106, 3) := by decide +kernel
theorem dX3_goneOn_45 : decode cX3_goneOn 45 = .ok (.lshl, 1) := by decide +kernel
theorem dX3_goneOn_46 : decode cX3_goneOn 46 = .ok (.lor, 1) := by decide +kernel
theorem dX3_goneOn_47 : decode cX3_goneOn 47 = .ok (.iload 5, 2) := by decide +kernel
theorem dX3_goneOn_49 : decode cX3_goneOn 49 = .ok (.iconst 1, 1) := by decide +kernel
theorem dX3_goneOn_50 : decode cX3_goneOn 50 = .ok (.iadd, 1) := by decide +kernel
theorem dX3_goneOn_51 : decode cX3_goneOn 51 = .ok (.i2l, 1) := by decide +kernel
theorem dX3_goneOn_52 : decode cX3_goneOn 52 = .ok (.lor, 1) := by decide +kernel
theorem dX3_goneOn_53 : decode cX3_goneOn 53 = .ok (.lreturn, 1) := by decide +kernel
theorem dX3_needOf_0 : decode cX3_needOf 0 = .ok (.lload_n 0, 1) := by decide +kernel
theorem dX3_needOf_1 : decode cX3_needOf 1 = .ok (.bipush 31, 2) := by decide +kernel
theorem dX3_needOf_3 : decode cX3_needOf 3 = .ok (.lshr, 1) := by decide +kernel
theorem dX3_needOf_4 : decode cX3_needOf 4 = .ok (.l2i, 1) := by decide +kernel
theorem dX3_needOf_5 : decode cX3_needOf 5 = .ok (.ireturn, 1) := by decide +kernel
theorem dX3_lengthOf_0 : decode cX3_lengthOf 0 = .ok (.lload_n 0, 1) := by decide +kernel
theorem dX3_lengthOf_1 : decode cX3_lengthOf 1 = .ok (.l2i, 1) := by decide +kernel
theorem dX3_lengthOf_2 : decode cX3_lengthOf 2 = .ok (.bipush 7, 2) := by decide +kernel
theorem dX3_lengthOf_4 : decode cX3_lengthOf 4 = .ok (.iand, 1) := by decide +kernel
theorem dX3_lengthOf_5 : decode cX3_lengthOf 5 = .ok (.ireturn, 1) := by decide +kernel
theorem dX3_moveOf_0 : decode cX3_moveOf 0 = .ok (.lload_n 0, 1) := by decide +kernel
theorem dX3_moveOf_1 : decode cX3_moveOf 1 = .ok (.iload_n 2, 1) := by decide +kernel
theorem dX3_moveOf_2 : decode cX3_moveOf 2 = .ok (.invokestatic 106, 3) := by decide +kernel
theorem dX3_moveOf_5 : decode cX3_moveOf 5 = .ok (.lshr, 1) := by decide +kernel
theorem dX3_moveOf_6 : decode cX3_moveOf 6 = .ok (.l2i, 1) := by decide +kernel
theorem dX3_moveOf_7 : decode cX3_moveOf 7 = .ok (.bipush 127, 2) := by decide +kernel
theorem dX3_moveOf_9 : decode cX3_moveOf 9 = .ok (.iand, 1) := by decide +kernel
theorem dX3_moveOf_10 : decode cX3_moveOf 10 = .ok (.ireturn, 1) := by decide +kernel
theorem dX3_shiftOf_0 : decode cX3_shiftOf 0 = .ok (.iconst 3, 1) := by decide +kernel
theorem dX3_shiftOf_1 : decode cX3_shiftOf 1 = .ok (.iconst 3, 1) := by decide +kernel
theorem dX3_shiftOf_2 : decode cX3_shiftOf 2 = .ok (.iload_n 0, 1) := by decide +kernel
theorem dX3_shiftOf_3 : decode cX3_shiftOf 3 = .ok (.isub, 1) := by decide +kernel
theorem dX3_shiftOf_4 : decode cX3_shiftOf 4 = .ok (.bipush 7, 2) := by decide +kernel
theorem dX3_shiftOf_6 : decode cX3_shiftOf 6 = .ok (.imul, 1) := by decide +kernel
theorem dX3_shiftOf_7 : decode cX3_shiftOf 7 = .ok (.iadd, 1) := by decide +kernel
theorem dX3_shiftOf_8 : decode cX3_shiftOf 8 = .ok (.ireturn, 1) := by decide +kernel
theorem dX4_init_0 : decode cX4_init 0 = .ok (.aload_n 0, 1) := by decide +kernel
theorem dX4_init_1 : decode cX4_init 1 = .ok (.invokespecial 3, 3) := by decide +kernel
theorem dX4_init_4 : decode cX4_init 4 = .ok (.aload_n 0, 1) := by decide +kernel
theorem dX4_init_5 : decode cX4_init 5 = .ok (.iconst 4, 1) := by decide +kernel
theorem dX4_init_6 : decode cX4_init 6 = .ok (.newarray .int, 2) := by decide +kernel
theorem dX4_init_8 : decode cX4_init 8 = .ok (.putfield 9, 3) := by decide +kernel
theorem dX4_init_11 : decode cX4_init 11 = .ok (.aload_n 0, 1) := by decide +kernel
theorem dX4_init_12 : decode cX4_init 12 = .ok (.iconst 4, 1) := by decide +kernel
theorem dX4_init_13 : decode cX4_init 13 = .ok (.newarray .int, 2) := by decide +kernel
theorem dX4_init_15 : decode cX4_init 15 = .ok (.putfield 15, 3) := by decide +kernel
theorem dX4_init_18 : decode cX4_init 18 = .ok (.aload_n 0, 1) := by decide +kernel
theorem dX4_init_19 : decode cX4_init 19 = .ok (.bipush 16, 2) := by decide +kernel
theorem dX4_init_21 : decode cX4_init 21 = .ok (.newarray .int, 2) := by decide +kernel
theorem dX4_init_23 : decode cX4_init 23 = .ok (.putfield 18, 3) := by decide +kernel
theorem dX4_init_26 : decode cX4_init 26 = .ok (.aload_n 0, 1) := by decide +kernel
theorem dX4_init_27 : decode cX4_init 27 = .ok (.bipush 20, 2) := by decide +kernel
theorem dX4_init_29 : decode cX4_init 29 = .ok (.newarray .int, 2) := by decide +kernel
theorem dX4_init_31 : decode cX4_init 31 = .ok (.putfield 21, 3) := by decide +kernel
theorem dX4_init_34 : decode cX4_init 34 = .ok (.aload_n 0, 1) := by decide +kernel
theorem dX4_init_35 : decode cX4_init 35 = .ok (.aload_n 1, 1) := by decide +kernel
theorem dX4_init_36 : decode cX4_init 36 = .ok (.putfield 24, 3) := by decide +kernel
theorem dX4_init_39 : decode cX4_init 39 = .ok (.iconst 0, 1) := by decide +kernel
theorem dX4_init_40 : decode cX4_init 40 = .ok (.istore_n 2, 1) := by decide +kernel
theorem dX4_init_41 : decode cX4_init 41 = .ok (.iload_n 2, 1) := by decide +kernel
theorem dX4_init_42 : decode cX4_init 42 = .ok (.bipush 20, 2) := by decide +kernel
theorem dX4_init_44 : decode cX4_init 44 = .ok (.if_icmp .ge 16, 3) := by decide +kernel
theorem dX4_init_47 : decode cX4_init 47 = .ok (.aload_n 0, 1) := by decide +kernel
theorem dX4_init_48 : decode cX4_init 48 = .ok (.getfield 21, 3) := by decide +kernel
theorem dX4_init_51 : decode cX4_init 51 = .ok (.iload_n 2, 1) := by decide +kernel
theorem dX4_init_52 : decode cX4_init 52 = .ok (.iconst (-1), 1) := by decide +kernel
theorem dX4_init_53 : decode cX4_init 53 = .ok (.iastore, 1) := by decide +kernel
theorem dX4_init_54 : decode cX4_init 54 = .ok (.iinc 2 1, 3) := by decide +kernel
theorem dX4_init_57 : decode cX4_init 57 = .ok (.goto (-16), 3) := by decide +kernel
theorem dX4_init_60 : decode cX4_init 60 = .ok (.return_, 1) := by decide +kernel
theorem dX4_copyFrom_0 : decode cX4_copyFrom 0 = .ok (.aload_n 1, 1) := by decide +kernel
theorem dX4_copyFrom_1 : decode cX4_copyFrom 1 = .ok (.getfield 9, 3) := by decide +kernel
theorem dX4_copyFrom_4 : decode cX4_copyFrom 4 = .ok (.iconst 0, 1) := by decide +kernel
theorem dX4_copyFrom_5 : decode cX4_copyFrom 5 = .ok (.aload_n 0, 1) := by decide +kernel
theorem dX4_copyFrom_6 : decode cX4_copyFrom 6 = .ok (.getfield 9, 3) := by decide +kernel
theorem dX4_copyFrom_9 : decode cX4_copyFrom 9 = .ok (.iconst 0, 1) := by decide +kernel
theorem dX4_copyFrom_10 : decode cX4_copyFrom 10 = .ok (.iconst 4, 1) := by decide +kernel
theorem dX4_copyFrom_11 : decode cX4_copyFrom 11 = .ok (.invokestatic 28, 3) := by decide +kernel
theorem dX4_copyFrom_14 : decode cX4_copyFrom 14 = .ok (.aload_n 1, 1) := by decide +kernel
theorem dX4_copyFrom_15 : decode cX4_copyFrom 15 = .ok (.getfield 15, 3) := by decide +kernel
theorem dX4_copyFrom_18 : decode cX4_copyFrom 18 = .ok (.iconst 0, 1) := by decide +kernel
theorem dX4_copyFrom_19 : decode cX4_copyFrom 19 = .ok (.aload_n 0, 1) := by decide +kernel
theorem dX4_copyFrom_20 : decode cX4_copyFrom 20 = .ok (.getfield 15, 3) := by decide +kernel
theorem dX4_copyFrom_23 : decode cX4_copyFrom 23 = .ok (.iconst 0, 1) := by decide +kernel
theorem dX4_copyFrom_24 : decode cX4_copyFrom 24 = .ok (.iconst 4, 1) := by decide +kernel
theorem dX4_copyFrom_25 : decode cX4_copyFrom 25 = .ok (.invokestatic 28, 3) := by decide +kernel
theorem dX4_copyFrom_28 : decode cX4_copyFrom 28 = .ok (.aload_n 1, 1) := by decide +kernel
theorem dX4_copyFrom_29 : decode cX4_copyFrom 29 = .ok (.getfield 18, 3) := by decide +kernel
theorem dX4_copyFrom_32 : decode cX4_copyFrom 32 = .ok (.iconst 0, 1) := by decide +kernel
theorem dX4_copyFrom_33 : decode cX4_copyFrom 33 = .ok (.aload_n 0, 1) := by decide +kernel
theorem dX4_copyFrom_34 : decode cX4_copyFrom 34 = .ok (.getfield 18, 3) := by decide +kernel
theorem dX4_copyFrom_37 : decode cX4_copyFrom 37 = .ok (.iconst 0, 1) := by decide +kernel
theorem dX4_copyFrom_38 : decode cX4_copyFrom 38 = .ok (.bipush 16, 2) := by decide +kernel
theorem dX4_copyFrom_40 : decode cX4_copyFrom 40 = .ok (.invokestatic 28, 3) := by decide +kernel
theorem dX4_copyFrom_43 : decode cX4_copyFrom 43 = .ok (.aload_n 1, 1) := by decide +kernel
theorem dX4_copyFrom_44 : decode cX4_copyFrom 44 = .ok (.getfield 21, 3) := by decide +kernel
theorem dX4_copyFrom_47 : decode cX4_copyFrom 47 = .ok (.iconst 0, 1) := by decide +kernel
theorem dX4_copyFrom_48 : decode cX4_copyFrom 48 = .ok (.aload_n 0, 1) := by decide +kernel
theorem dX4_copyFrom_49 : decode cX4_copyFrom 49 = .ok (.getfield 21, 3) := by decide +kernel
theorem dX4_copyFrom_52 : decode cX4_copyFrom 52 = .ok (.iconst 0, 1) := by decide +kernel
theorem dX4_copyFrom_53 : decode cX4_copyFrom 53 = .ok (.bipush 20, 2) := by decide +kernel
theorem dX4_copyFrom_55 : decode cX4_copyFrom 55 = .ok (.invokestatic 28, 3) := by decide +kernel
theorem dX4_copyFrom_58 : decode cX4_copyFrom 58 = .ok (.aload_n 0, 1) := by decide +kernel
theorem dX4_copyFrom_59 : decode cX4_copyFrom 59 = .ok (.aload_n 1, 1) := by decide +kernel
theorem dX4_copyFrom_60 : decode cX4_copyFrom 60 = .ok (.getfield 34, 3) := by decide +kernel
theorem dX4_copyFrom_63 : decode cX4_copyFrom 63 = .ok (.putfield 34, 3) := by decide +kernel
theorem dX4_copyFrom_66 : decode cX4_copyFrom 66 = .ok (.aload_n 0, 1) := by decide +kernel
theorem dX4_copyFrom_67 : decode cX4_copyFrom 67 = .ok (.aload_n 1, 1) := by decide +kernel
theorem dX4_copyFrom_68 : decode cX4_copyFrom 68 = .ok (.getfield 38, 3) := by decide +kernel
theorem dX4_copyFrom_71 : decode cX4_copyFrom 71 = .ok (.putfield 38, 3) := by decide +kernel
theorem dX4_copyFrom_74 : decode cX4_copyFrom 74 = .ok (.return_, 1) := by decide +kernel
theorem dX4_openStack_0 : decode cX4_openStack 0 = .ok (.aload_n 0, 1) := by decide +kernel
theorem dX4_openStack_1 : decode cX4_openStack 1 = .ok (.getfield 34, 3) := by decide +kernel
theorem dX4_openStack_4 : decode cX4_openStack 4 = .ok (.iconst 4, 1) := by decide +kernel
theorem dX4_openStack_5 : decode cX4_openStack 5 = .ok (.if_icmp .lt 5, 3) := by decide +kernel
theorem dX4_openStack_8 : decode cX4_openStack 8 = .ok (.iconst (-1), 1) := by decide +kernel
theorem dX4_openStack_9 : decode cX4_openStack 9 = .ok (.ireturn, 1) := by decide +kernel
theorem dX4_openStack_10 : decode cX4_openStack 10 = .ok (.aload_n 0, 1) := by decide +kernel
theorem dX4_openStack_11 : decode cX4_openStack 11 = .ok (.getfield 34, 3) := by decide +kernel
theorem dX4_openStack_14 : decode cX4_openStack 14 = .ok (.istore_n 2, 1) := by decide +kernel
theorem dX4_openStack_15 : decode cX4_openStack 15 = .ok (.aload_n 0, 1) := by decide +kernel
theorem dX4_openStack_16 : decode cX4_openStack 16 = .ok (.dup, 1) := by decide +kernel
theorem dX4_openStack_17 : decode cX4_openStack 17 = .ok (.getfield 34, 3) := by decide +kernel
theorem dX4_openStack_20 : decode cX4_openStack 20 = .ok (.iconst 1, 1) := by decide +kernel
theorem dX4_openStack_21 : decode cX4_openStack 21 = .ok (.iadd, 1) := by decide +kernel
theorem dX4_openStack_22 : decode cX4_openStack 22 = .ok (.putfield 34, 3) := by decide +kernel
theorem dX4_openStack_25 : decode cX4_openStack 25 = .ok (.aload_n 0, 1) := by decide +kernel
theorem dX4_openStack_26 : decode cX4_openStack 26 = .ok (.getfield 9, 3) := by decide +kernel
theorem dX4_openStack_29 : decode cX4_openStack 29 = .ok (.iload_n 2, 1) := by decide +kernel
theorem dX4_openStack_30 : decode cX4_openStack 30 = .ok (.iload_n 1, 1) := by decide +kernel
theorem dX4_openStack_31 : decode cX4_openStack 31 = .ok (.iastore, 1) := by decide +kernel
theorem dX4_openStack_32 : decode cX4_openStack 32 = .ok (.iload_n 2, 1) := by decide +kernel
theorem dX4_openStack_33 : decode cX4_openStack 33 = .ok (.ireturn, 1) := by decide +kernel
theorem dX4_stackCount_0 : decode cX4_stackCount 0 = .ok (.aload_n 0, 1) := by decide +kernel
theorem dX4_stackCount_1 : decode cX4_stackCount 1 = .ok (.getfield 34, 3) := by decide +kernel
theorem dX4_stackCount_4 : decode cX4_stackCount 4 = .ok (.ireturn, 1) := by decide +kernel
theorem dX4_boxCount_0 : decode cX4_boxCount 0 = .ok (.aload_n 0, 1) := by decide +kernel
theorem dX4_boxCount_1 : decode cX4_boxCount 1 = .ok (.getfield 38, 3) := by decide +kernel
theorem dX4_boxCount_4 : decode cX4_boxCount 4 = .ok (.ireturn, 1) := by decide +kernel
theorem dX4_hasStack_0 : decode cX4_hasStack 0 = .ok (.iload_n 1, 1) := by decide +kernel
theorem dX4_hasStack_1 : decode cX4_hasStack 1 = .ok (.ifCond .lt 15, 3) := by decide +kernel
theorem dX4_hasStack_4 : decode cX4_hasStack 4 = .ok (.iload_n 1, 1) := by decide +kernel
theorem dX4_hasStack_5 : decode cX4_hasStack 5 = .ok (.aload_n 0, 1) := by decide +kernel
theorem dX4_hasStack_6 : decode cX4_hasStack 6 = .ok (.getfield 34, 3) := by decide +kernel
theorem dX4_hasStack_9 : decode cX4_hasStack 9 = .ok (.if_icmp .ge 7, 3) := by decide +kernel
theorem dX4_hasStack_12 : decode cX4_hasStack 12 = .ok (.iconst 1, 1) := by decide +kernel
theorem dX4_hasStack_13 : decode cX4_hasStack 13 = .ok (.goto 4, 3) := by decide +kernel
theorem dX4_hasStack_16 : decode cX4_hasStack 16 = .ok (.iconst 0, 1) := by decide +kernel
theorem dX4_hasStack_17 : decode cX4_hasStack 17 = .ok (.ireturn, 1) := by decide +kernel
theorem dX4_heightOf_0 : decode cX4_heightOf 0 = .ok (.iload_n 1, 1) := by decide +kernel
theorem dX4_heightOf_1 : decode cX4_heightOf 1 = .ok (.ifCond .lt 20, 3) := by decide +kernel
theorem dX4_heightOf_4 : decode cX4_heightOf 4 = .ok (.iload_n 1, 1) := by decide +kernel
theorem dX4_heightOf_5 : decode cX4_heightOf 5 = .ok (.aload_n 0, 1) := by decide +kernel
theorem dX4_heightOf_6 : decode cX4_heightOf 6 = .ok (.getfield 34, 3) := by decide +kernel
theorem dX4_heightOf_9 : decode cX4_heightOf 9 = .ok (.if_icmp .ge 12, 3) := by decide +kernel
theorem dX4_heightOf_12 : decode cX4_heightOf 12 = .ok (.aload_n 0, 1) := by decide +kernel
theorem dX4_heightOf_13 : decode cX4_heightOf 13 = .ok (.getfield 15, 3) := by decide +kernel
theorem dX4_heightOf_16 : decode cX4_heightOf 16 = .ok (.iload_n 1, 1) := by decide +kernel
theorem dX4_heightOf_17 : decode cX4_heightOf 17 = .ok (.iaload, 1) := by decide +kernel
theorem dX4_heightOf_18 : decode cX4_heightOf 18 = .ok (.goto 4, 3) := by decide +kernel
theorem dX4_heightOf_21 : decode cX4_heightOf 21 = .ok (.iconst 0, 1) := by decide +kernel
theorem dX4_heightOf_22 : decode cX4_heightOf 22 = .ok (.ireturn, 1) := by decide +kernel
theorem dX4_isFull_0 : decode cX4_isFull 0 = .ok (.iload_n 1, 1) := by decide +kernel
theorem dX4_isFull_1 : decode cX4_isFull 1 = .ok (.ifCond .lt 26, 3) := by decide +kernel
theorem dX4_isFull_4 : decode cX4_isFull 4 = .ok (.iload_n 1, 1) := by decide +kernel
theorem dX4_isFull_5 : decode cX4_isFull 5 = .ok (.aload_n 0, 1) := by decide +kernel
theorem dX4_isFull_6 : decode cX4_isFull 6 = .ok (.getfield 34, 3) := by decide +kernel
theorem dX4_isFull_9 : decode cX4_isFull 9 = .ok (.if_icmp .ge 18, 3) := by decide +kernel
theorem dX4_isFull_12 : decode cX4_isFull 12 = .ok (.aload_n 0, 1) := by decide +kernel
theorem dX4_isFull_13 : decode cX4_isFull 13 = .ok (.getfield 15, 3) := by decide +kernel
theorem dX4_isFull_16 : decode cX4_isFull 16 = .ok (.iload_n 1, 1) := by decide +kernel
theorem dX4_isFull_17 : decode cX4_isFull 17 = .ok (.iaload, 1) := by decide +kernel
theorem dX4_isFull_18 : decode cX4_isFull 18 = .ok (.aload_n 0, 1) := by decide +kernel
theorem dX4_isFull_19 : decode cX4_isFull 19 = .ok (.getfield 9, 3) := by decide +kernel
theorem dX4_isFull_22 : decode cX4_isFull 22 = .ok (.iload_n 1, 1) := by decide +kernel
theorem dX4_isFull_23 : decode cX4_isFull 23 = .ok (.iaload, 1) := by decide +kernel
theorem dX4_isFull_24 : decode cX4_isFull 24 = .ok (.if_icmp .lt 7, 3) := by decide +kernel
theorem dX4_isFull_27 : decode cX4_isFull 27 = .ok (.iconst 1, 1) := by decide +kernel
theorem dX4_isFull_28 : decode cX4_isFull 28 = .ok (.goto 4, 3) := by decide +kernel
theorem dX4_isFull_31 : decode cX4_isFull 31 = .ok (.iconst 0, 1) := by decide +kernel
theorem dX4_isFull_32 : decode cX4_isFull 32 = .ok (.ireturn, 1) := by decide +kernel
theorem dX4_bears_0 : decode cX4_bears 0 = .ok (.aload_n 0, 1) := by decide +kernel
theorem dX4_bears_1 : decode cX4_bears 1 = .ok (.iload_n 1, 1) := by decide +kernel
theorem dX4_bears_2 : decode cX4_bears 2 = .ok (.invokevirtual 41, 3) := by decide +kernel
theorem dX4_bears_5 : decode cX4_bears 5 = .ok (.istore_n 3, 1) := by decide +kernel
theorem dX4_bears_6 : decode cX4_bears 6 = .ok (.iload_n 3, 1) := by decide +kernel
theorem dX4_bears_7 : decode cX4_bears 7 = .ok (.iconst (-1), 1) := by decide +kernel
theorem dX4_bears_8 : decode cX4_bears 8 = .ok (.if_icmp .eq 15, 3) := by decide +kernel
theorem dX4_bears_11 : decode cX4_bears 11 = .ok (.aload_n 0, 1) := by decide +kernel
theorem dX4_bears_12 : decode cX4_bears 12 = .ok (.getfield 24, 3) := by decide +kernel
theorem dX4_bears_15 : decode cX4_bears 15 = .ok (.iload_n 3, 1) := by decide +kernel
theorem dX4_bears_16 : decode cX4_bears 16 = .ok (.invokevirtual 45, 3) := by decide +kernel
theorem dX4_bears_19 : decode cX4_bears 19 = .ok (.iload_n 2, 1) := by decide +kernel
theorem dX4_bears_20 : decode cX4_bears 20 = .ok (.if_icmp .lt 7, 3) := by decide +kernel
theorem dX4_bears_23 : decode cX4_bears 23 = .ok (.iconst 1, 1) := by decide +kernel
theorem dX4_bears_24 : decode cX4_bears 24 = .ok (.goto 4, 3) := by decide +kernel
theorem dX4_bears_27 : decode cX4_bears 27 = .ok (.iconst 0, 1) := by decide +kernel
theorem dX4_bears_28 : decode cX4_bears 28 = .ok (.ireturn, 1) := by decide +kernel
theorem dX4_stackWith_0 : decode cX4_stackWith 0 = .ok (.iload_n 1, 1) := by decide +kernel
theorem dX4_stackWith_1 : decode cX4_stackWith 1 = .ok (.ifCond .lt 18, 3) := by decide +kernel
theorem dX4_stackWith_4 : decode cX4_stackWith 4 = .ok (.iload_n 1, 1) := by decide +kernel
theorem dX4_stackWith_5 : decode cX4_stackWith 5 = .ok (.bipush 20, 2) := by decide +kernel
theorem dX4_stackWith_7 : decode cX4_stackWith 7 = .ok (.if_icmp .ge 12, 3) := by decide +kernel
theorem dX4_stackWith_10 : decode cX4_stackWith 10 = .ok (.aload_n 0, 1) := by decide +kernel
theorem dX4_stackWith_11 : decode cX4_stackWith 11 = .ok (.getfield 21, 3) := by decide +kernel
theorem dX4_stackWith_14 : decode cX4_stackWith 14 = .ok (.iload_n 1, 1) := by decide +kernel
theorem dX4_stackWith_15 : decode cX4_stackWith 15 = .ok (.iaload, 1) := by decide +kernel
theorem dX4_stackWith_16 : decode cX4_stackWith 16 = .ok (.goto 4, 3) := by decide +kernel
theorem dX4_stackWith_19 : decode cX4_stackWith 19 = .ok (.iconst (-1), 1) := by decide +kernel
theorem dX4_stackWith_20 : decode cX4_stackWith 20 = .ok (.ireturn, 1) := by decide +kernel
theorem dX4_boxOn_0 : decode cX4_boxOn 0 = .ok (.iload_n 2, 1) := by decide +kernel
theorem dX4_boxOn_1 : decode cX4_boxOn 1 = .ok (.ifCond .lt 12, 3) := by decide +kernel
theorem dX4_boxOn_4 : decode cX4_boxOn 4 = .ok (.iload_n 2, 1) := by decide +kernel
theorem dX4_boxOn_5 : decode cX4_boxOn 5 = .ok (.aload_n 0, 1) := by decide +kernel
theorem dX4_boxOn_6 : decode cX4_boxOn 6 = .ok (.iload_n 1, 1) := by decide +kernel
theorem dX4_boxOn_7 : decode cX4_boxOn 7 = .ok (.invokevirtual 50, 3) := by decide +kernel
theorem dX4_boxOn_10 : decode cX4_boxOn 10 = .ok (.if_icmp .lt 5, 3) := by decide +kernel
theorem dX4_boxOn_13 : decode cX4_boxOn 13 = .ok (.iconst (-1), 1) := by decide +kernel
theorem dX4_boxOn_14 : decode cX4_boxOn 14 = .ok (.ireturn, 1) := by decide +kernel
theorem dX4_boxOn_15 : decode cX4_boxOn 15 = .ok (.aload_n 0, 1) := by decide +kernel
theorem dX4_boxOn_16 : decode cX4_boxOn 16 = .ok (.getfield 18, 3) := by decide +kernel
theorem dX4_boxOn_19 : decode cX4_boxOn 19 = .ok (.iload_n 1, 1) := by decide +kernel
theorem dX4_boxOn_20 : decode cX4_boxOn 20 = .ok (.iconst 4, 1) := by decide +kernel
theorem dX4_boxOn_21 : decode cX4_boxOn 21 = .ok (.imul, 1) := by decide +kernel
theorem dX4_boxOn_22 : decode cX4_boxOn 22 = .ok (.iload_n 2, 1) := by decide +kernel
theorem dX4_boxOn_23 : decode cX4_boxOn 23 = .ok (.iadd, 1) := by decide +kernel
theorem dX4_boxOn_24 : decode cX4_boxOn 24 = .ok (.iaload, 1) := by decide +kernel
theorem dX4_boxOn_25 : decode cX4_boxOn 25 = .ok (.ireturn, 1) := by decide +kernel
theorem dX4_topOf_0 : decode cX4_topOf 0 = .ok (.iload_n 1, 1) := by decide +kernel
theorem dX4_topOf_1 : decode cX4_topOf 1 = .ok (.ifCond .lt 20, 3) := by decide +kernel
theorem dX4_topOf_4 : decode cX4_topOf 4 = .ok (.iload_n 1, 1) := by decide +kernel
theorem dX4_topOf_5 : decode cX4_topOf 5 = .ok (.aload_n 0, 1) := by decide +kernel
theorem dX4_topOf_6 : decode cX4_topOf 6 = .ok (.getfield 34, 3) := by decide +kernel
theorem dX4_topOf_9 : decode cX4_topOf 9 = .ok (.if_icmp .ge 12, 3) := by decide +kernel
theorem dX4_topOf_12 : decode cX4_topOf 12 = .ok (.aload_n 0, 1) := by decide +kernel
theorem dX4_topOf_13 : decode cX4_topOf 13 = .ok (.getfield 15, 3) := by decide +kernel
theorem dX4_topOf_16 : decode cX4_topOf 16 = .ok (.iload_n 1, 1) := by decide +kernel
theorem dX4_topOf_17 : decode cX4_topOf 17 = .ok (.iaload, 1) := by decide +kernel
theorem dX4_topOf_18 : decode cX4_topOf 18 = .ok (.ifCond .ne 5, 3) := by decide +kernel
theorem dX4_topOf_21 : decode cX4_topOf 21 = .ok (.iconst (-1), 1) := by decide +kernel
theorem dX4_topOf_22 : decode cX4_topOf 22 = .ok (.ireturn, 1) := by decide +kernel
theorem dX4_topOf_23 : decode cX4_topOf 23 = .ok (.aload_n 0, 1) := by decide +kernel
theorem dX4_topOf_24 : decode cX4_topOf 24 = .ok (.getfield 18, 3) := by decide +kernel
theorem dX4_topOf_27 : decode cX4_topOf 27 = .ok (.iload_n 1, 1) := by decide +kernel
theorem dX4_topOf_28 : decode cX4_topOf 28 = .ok (.iconst 4, 1) := by decide +kernel
theorem dX4_topOf_29 : decode cX4_topOf 29 = .ok (.imul, 1) := by decide +kernel
theorem dX4_topOf_30 : decode cX4_topOf 30 = .ok (.aload_n 0, 1) := by decide +kernel
theorem dX4_topOf_31 : decode cX4_topOf 31 = .ok (.getfield 15, 3) := by decide +kernel
theorem dX4_topOf_34 : decode cX4_topOf 34 = .ok (.iload_n 1, 1) := by decide +kernel
theorem dX4_topOf_35 : decode cX4_topOf 35 = .ok (.iaload, 1) := by decide +kernel
theorem dX4_topOf_36 : decode cX4_topOf 36 = .ok (.iadd, 1) := by decide +kernel
theorem dX4_topOf_37 : decode cX4_topOf 37 = .ok (.iconst 1, 1) := by decide +kernel
theorem dX4_topOf_38 : decode cX4_topOf 38 = .ok (.isub, 1) := by decide +kernel
theorem dX4_topOf_39 : decode cX4_topOf 39 = .ok (.iaload, 1) := by decide +kernel
theorem dX4_topOf_40 : decode cX4_topOf 40 = .ok (.ireturn, 1) := by decide +kernel
theorem dX4_boxesUnder_0 : decode cX4_boxesUnder 0 = .ok (.aload_n 0, 1) := by decide +kernel
theorem dX4_boxesUnder_1 : decode cX4_boxesUnder 1 = .ok (.iload_n 1, 1) := by decide +kernel
theorem dX4_boxesUnder_2 : decode cX4_boxesUnder 2 = .ok (.invokevirtual 53, 3) := by decide +kernel
theorem dX4_boxesUnder_5 : decode cX4_boxesUnder 5 = .ok (.istore_n 2, 1) := by decide +kernel
theorem dX4_boxesUnder_6 : decode cX4_boxesUnder 6 = .ok (.iconst 0, 1) := by decide +kernel
theorem dX4_boxesUnder_7 : decode cX4_boxesUnder 7 = .ok (.istore_n 3, 1) := by decide +kernel
theorem dX4_boxesUnder_8 : decode cX4_boxesUnder 8 = .ok (.iload_n 3, 1) := by decide +kernel
theorem dX4_boxesUnder_9 : decode cX4_boxesUnder 9 = .ok (.aload_n 0, 1) := by decide +kernel
theorem dX4_boxesUnder_10 : decode cX4_boxesUnder 10 = .ok (.iload_n 2, 1) := by decide +kernel
theorem dX4_boxesUnder_11 : decode cX4_boxesUnder 11 = .ok (.invokevirtual 50, 3) := by decide +kernel
theorem dX4_boxesUnder_14 : decode cX4_boxesUnder 14 = .ok (.if_icmp .ge 19, 3) := by decide +kernel
theorem dX4_boxesUnder_17 : decode cX4_boxesUnder 17 = .ok (.aload_n 0, 1) := by decide +kernel
theorem dX4_boxesUnder_18 : decode cX4_boxesUnder 18 = .ok (.iload_n 2, 1) := by decide +kernel
theorem dX4_boxesUnder_19 : decode cX4_boxesUnder 19 = .ok (.iload_n 3, 1) := by decide +kernel
theorem dX4_boxesUnder_20 : decode cX4_boxesUnder 20 = .ok (.invokevirtual 56, 3) := by decide +kernel
theorem dX4_boxesUnder_23 : decode cX4_boxesUnder 23 = .ok (.iload_n 1, 1) := by decide +kernel
theorem dX4_boxesUnder_24 : decode cX4_boxesUnder 24 = .ok (.if_icmp .eq 9, 3) := by decide +kernel
theorem dX4_boxesUnder_27 : decode cX4_boxesUnder 27 = .ok (.iinc 3 1, 3) := by decide +kernel
theorem dX4_boxesUnder_30 : decode cX4_boxesUnder 30 = .ok (.goto (-22), 3) := by decide +kernel
theorem dX4_boxesUnder_33 : decode cX4_boxesUnder 33 = .ok (.iload_n 3, 1) := by decide +kernel
theorem dX4_boxesUnder_34 : decode cX4_boxesUnder 34 = .ok (.ireturn, 1) := by decide +kernel
theorem dX4_boxesOver_0 : decode cX4_boxesOver 0 = .ok (.aload_n 0, 1) := by decide +kernel
theorem dX4_boxesOver_1 : decode cX4_boxesOver 1 = .ok (.iload_n 1, 1) := by decide +kernel
theorem dX4_boxesOver_2 : decode cX4_boxesOver 2 = .ok (.invokevirtual 53, 3) := by decide +kernel
theorem dX4_boxesOver_5 : decode cX4_boxesOver 5 = .ok (.istore_n 2, 1) := by decide +kernel
theorem dX4_boxesOver_6 : decode cX4_boxesOver 6 = .ok (.iload_n 2, 1) := by decide +kernel
theorem dX4_boxesOver_7 : decode cX4_boxesOver 7 = .ok (.iconst (-1), 1) := by decide +kernel
theorem dX4_boxesOver_8 : decode cX4_boxesOver 8 = .ok (.if_icmp .ne 7, 3) := by decide +kernel
theorem dX4_boxesOver_11 : decode cX4_boxesOver 11 = .ok (.iconst 0, 1) := by decide +kernel
theorem dX4_boxesOver_12 : decode cX4_boxesOver 12 = .ok (.goto 16, 3) := by decide +kernel
theorem dX4_boxesOver_15 : decode cX4_boxesOver 15 = .ok (.aload_n 0, 1) := by decide +kernel
theorem dX4_boxesOver_16 : decode cX4_boxesOver 16 = .ok (.iload_n 2, 1) := by decide +kernel
theorem dX4_boxesOver_17 : decode cX4_boxesOver 17 = .ok (.invokevirtual 50, 3) := by decide +kernel
theorem dX4_boxesOver_20 : decode cX4_boxesOver 20 = .ok (.iconst 1, 1) := by decide +kernel
theorem dX4_boxesOver_21 : decode cX4_boxesOver 21 = .ok (.isub, 1) := by decide +kernel
theorem dX4_boxesOver_22 : decode cX4_boxesOver 22 = .ok (.aload_n 0, 1) := by decide +kernel
theorem dX4_boxesOver_23 : decode cX4_boxesOver 23 = .ok (.iload_n 1, 1) := by decide +kernel
theorem dX4_boxesOver_24 : decode cX4_boxesOver 24 = .ok (.invokevirtual 60, 3) := by decide +kernel
theorem dX4_boxesOver_27 : decode cX4_boxesOver 27 = .ok (.isub, 1) := by decide +kernel
theorem dX4_boxesOver_28 : decode cX4_boxesOver 28 = .ok (.ireturn, 1) := by decide +kernel
theorem dX4_pinnedOver_0 : decode cX4_pinnedOver 0 = .ok (.aload_n 0, 1) := by decide +kernel
theorem dX4_pinnedOver_1 : decode cX4_pinnedOver 1 = .ok (.iload_n 1, 1) := by decide +kernel
theorem dX4_pinnedOver_2 : decode cX4_pinnedOver 2 = .ok (.invokevirtual 53, 3) := by decide +kernel
theorem dX4_pinnedOver_5 : decode cX4_pinnedOver 5 = .ok (.istore_n 2, 1) := by decide +kernel
theorem dX4_pinnedOver_6 : decode cX4_pinnedOver 6 = .ok (.iconst 0, 1) := by decide +kernel
theorem dX4_pinnedOver_7 : decode cX4_pinnedOver 7 = .ok (.istore_n 3, 1) := by decide +kernel
theorem dX4_pinnedOver_8 : decode cX4_pinnedOver 8 = .ok (.aload_n 0, 1) := by decide +kernel
theorem dX4_pinnedOver_9 : decode cX4_pinnedOver 9 = .ok (.iload_n 1, 1) := by decide +kernel
theorem dX4_pinnedOver_10 : decode cX4_pinnedOver 10 = .ok (.invokevirtual 60, 3) := by decide +kernel
theorem dX4_pinnedOver_13 : decode cX4_pinnedOver 13 = .ok (.iconst 1, 1) := by decide +kernel
theorem dX4_pinnedOver_14 : decode cX4_pinnedOver 14 = .ok (.iadd, 1) := by decide +kernel
theorem dX4_pinnedOver_15 : decode cX4_pinnedOver 15 = .ok (.istore 4, 2) := by decide +kernel
theorem dX4_pinnedOver_17 : decode cX4_pinnedOver 17 = .ok (.iload 4, 2) := by decide +kernel
theorem dX4_pinnedOver_19 : decode cX4_pinnedOver 19 = .ok (.aload_n 0, 1) := by decide +kernel
theorem dX4_pinnedOver_20 : decode cX4_pinnedOver 20 = .ok (.iload_n 2, 1) := by decide +kernel
theorem dX4_pinnedOver_21 : decode cX4_pinnedOver 21 = .ok (.invokevirtual 50, 3) := by decide +kernel
theorem dX4_pinnedOver_24 : decode cX4_pinnedOver 24 = .ok (.if_icmp .ge 29, 3) := by decide +kernel
theorem dX4_pinnedOver_27 : decode cX4_pinnedOver 27 = .ok (.aload_n 0, 1) := by decide +kernel
theorem dX4_pinnedOver_28 : decode cX4_pinnedOver 28 = .ok (.getfield 24, 3) := by decide +kernel
theorem dX4_pinnedOver_31 : decode cX4_pinnedOver 31 = .ok (.aload_n 0, 1) := by decide +kernel
theorem dX4_pinnedOver_32 : decode cX4_pinnedOver 32 = .ok (.iload_n 2, 1) := by decide +kernel
theorem dX4_pinnedOver_33 : decode cX4_pinnedOver 33 = .ok (.iload 4, 2) := by decide +kernel
theorem dX4_pinnedOver_35 : decode cX4_pinnedOver 35 = .ok (.invokevirtual 56, 3) := by decide +kernel
theorem dX4_pinnedOver_38 : decode cX4_pinnedOver 38 = .ok (.invokevirtual 63, 3) := by decide +kernel
theorem dX4_pinnedOver_41 : decode cX4_pinnedOver 41 = .ok (.ifCond .eq 6, 3) := by decide +kernel
theorem dX4_pinnedOver_44 : decode cX4_pinnedOver 44 = .ok (.iinc 3 1, 3) := by decide +kernel
theorem dX4_pinnedOver_47 : decode cX4_pinnedOver 47 = .ok (.iinc 4 1, 3) := by decide +kernel
theorem dX4_pinnedOver_50 : decode cX4_pinnedOver 50 = .ok (.goto (-33), 3) := by decide +kernel
theorem dX4_pinnedOver_53 : decode cX4_pinnedOver 53 = .ok (.iload_n 3, 1) := by decide +kernel
theorem dX4_pinnedOver_54 : decode cX4_pinnedOver 54 = .ok (.ireturn, 1) := by decide +kernel
theorem dX4_reasonAgainst_0 : decode cX4_reasonAgainst 0 = .ok (.aload_n 0, 1) := by decide +kernel
theorem dX4_reasonAgainst_1 : decode cX4_reasonAgainst 1 = .ok (.iload_n 1, 1) := by decide +kernel
theorem dX4_reasonAgainst_2 : decode cX4_reasonAgainst 2 = .ok (.invokevirtual 53, 3) := by decide +kernel
theorem dX4_reasonAgainst_5 : decode cX4_reasonAgainst 5 = .ok (.istore_n 3, 1) := by decide +kernel
theorem dX4_reasonAgainst_6 : decode cX4_reasonAgainst 6 = .ok (.iload_n 3, 1) := by decide +kernel
theorem dX4_reasonAgainst_7 : decode cX4_reasonAgainst 7 = .ok (.iconst (-1), 1) := by decide +kernel
theorem dX4_reasonAgainst_8 : decode cX4_reasonAgainst 8 = .ok (.if_icmp .eq 12, 3) := by decide +kernel
theorem dX4_reasonAgainst_11 : decode cX4_reasonAgainst 11 = .ok (.aload_n 0, 1) := by decide +kernel
theorem dX4_reasonAgainst_12 : decode cX4_reasonAgainst 12 = .ok (.iload_n 3, 1) := by decide +kernel
theorem dX4_reasonAgainst_13 : decode cX4_reasonAgainst 13 = .ok (.invokevirtual 41, 3) := by decide +kernel
theorem dX4_reasonAgainst_16 : decode cX4_reasonAgainst 16 = .ok (.iload_n 1, 1) := by decide +kernel
theorem dX4_reasonAgainst_17 : decode cX4_reasonAgainst 17 = .ok (.if_icmp .eq 6, 3) := by decide +kernel
theorem dX4_reasonAgainst_20 : decode cX4_reasonAgainst 20 = .ok (.bipush 116, 2) := by decide +kernel
theorem dX4_reasonAgainst_22 : decode cX4_reasonAgainst 22 = .ok (.ireturn, 1) := by decide +kernel
theorem dX4_reasonAgainst_23 : decode cX4_reasonAgainst 23 = .ok (.aload_n 0, 1) := by decide +kernel
theorem dX4_reasonAgainst_24 : decode cX4_reasonAgainst 24 = .ok (.getfield 24, 3) := by decide +kernel
theorem dX4_reasonAgainst_27 : decode cX4_reasonAgainst 27 = .ok (.iload_n 1, 1) := by decide +kernel
theorem dX4_reasonAgainst_28 : decode cX4_reasonAgainst 28 = .ok (.invokevirtual 63, 3) := by decide +kernel
theorem dX4_reasonAgainst_31 : decode cX4_reasonAgainst 31 = .ok (.ifCond .eq 6, 3) := by decide +kernel
theorem dX4_reasonAgainst_34 : decode cX4_reasonAgainst 34 = .ok (.bipush 112, 2) := by decide +kernel
theorem dX4_reasonAgainst_36 : decode cX4_reasonAgainst 36 = .ok (.ireturn, 1) := by decide +kernel
theorem dX4_reasonAgainst_37 : decode cX4_reasonAgainst 37 = .ok (.iload_n 3, 1) := by decide +kernel
theorem dX4_reasonAgainst_38 : decode cX4_reasonAgainst 38 = .ok (.iload_n 2, 1) := by decide +kernel
theorem dX4_reasonAgainst_39 : decode cX4_reasonAgainst 39 = .ok (.if_icmp .ne 6, 3) := by decide +kernel
theorem dX4_reasonAgainst_42 : decode cX4_reasonAgainst 42 = .ok (.bipush 115, 2) := by decide +kernel
theorem dX4_reasonAgainst_44 : decode cX4_reasonAgainst 44 = .ok (.ireturn, 1) := by decide +kernel
theorem dX4_reasonAgainst_45 : decode cX4_reasonAgainst 45 = .ok (.aload_n 0, 1) := by decide +kernel
theorem dX4_reasonAgainst_46 : decode cX4_reasonAgainst 46 = .ok (.iload_n 2, 1) := by decide +kernel
theorem dX4_reasonAgainst_47 : decode cX4_reasonAgainst 47 = .ok (.invokevirtual 67, 3) := by decide +kernel
theorem dX4_reasonAgainst_50 : decode cX4_reasonAgainst 50 = .ok (.ifCond .eq 6, 3) := by decide +kernel
theorem dX4_reasonAgainst_53 : decode cX4_reasonAgainst 53 = .ok (.bipush 102, 2) := by decide +kernel
theorem dX4_reasonAgainst_55 : decode cX4_reasonAgainst 55 = .ok (.ireturn, 1) := by decide +kernel
theorem dX4_reasonAgainst_56 : decode cX4_reasonAgainst 56 = .ok (.aload_n 0, 1) := by decide +kernel
theorem dX4_reasonAgainst_57 : decode cX4_reasonAgainst 57 = .ok (.iload_n 2, 1) := by decide +kernel
theorem dX4_reasonAgainst_58 : decode cX4_reasonAgainst 58 = .ok (.aload_n 0, 1) := by decide +kernel
theorem dX4_reasonAgainst_59 : decode cX4_reasonAgainst 59 = .ok (.getfield 24, 3) := by decide +kernel
theorem dX4_reasonAgainst_62 : decode cX4_reasonAgainst 62 = .ok (.iload_n 1, 1) := by decide +kernel
theorem dX4_reasonAgainst_63 : decode cX4_reasonAgainst 63 = .ok (.invokevirtual 45, 3) := by decide +kernel
theorem dX4_reasonAgainst_66 : decode cX4_reasonAgainst 66 = .ok (.invokevirtual 70, 3) := by decide +kernel
theorem dX4_reasonAgainst_69 : decode cX4_reasonAgainst 69 = .ok (.ifCond .eq 8, 3) := by decide +kernel
theorem dX4_reasonAgainst_72 : decode cX4_reasonAgainst 72 = .ok (.bipush 45, 2) := by decide +kernel
theorem dX4_reasonAgainst_74 : decode cX4_reasonAgainst 74 = .ok (.goto 5, 3) := by decide +kernel
theorem dX4_reasonAgainst_77 : decode cX4_reasonAgainst 77 = .ok (.bipush 119, 2) := by decide +kernel
theorem dX4_reasonAgainst_79 : decode cX4_reasonAgainst 79 = .ok (.ireturn, 1) := by decide +kernel
theorem dX4_put_0 : decode cX4_put 0 = .ok (.iload_n 1, 1) := by decide +kernel
theorem dX4_put_1 : decode cX4_put 1 = .ok (.ifCond .lt 17, 3) := by decide +kernel
theorem dX4_put_4 : decode cX4_put 4 = .ok (.iload_n 1, 1) := by decide +kernel
theorem dX4_put_5 : decode cX4_put 5 = .ok (.bipush 20, 2) := by decide +kernel
theorem dX4_put_7 : decode cX4_put 7 = .ok (.if_icmp .ge 11, 3) := by decide +kernel
theorem dX4_put_10 : decode cX4_put 10 = .ok (.aload_n 0, 1) := by decide +kernel
theorem dX4_put_11 : decode cX4_put 11 = .ok (.iload_n 2, 1) := by decide +kernel
theorem dX4_put_12 : decode cX4_put 12 = .ok (.invokevirtual 67, 3) := by decide +kernel
theorem dX4_put_15 : decode cX4_put 15 = .ok (.ifCond .eq 4, 3) := by decide +kernel
theorem dX4_put_18 : decode cX4_put 18 = .ok (.return_, 1) := by decide +kernel
theorem dX4_put_19 : decode cX4_put 19 = .ok (.aload_n 0, 1) := by decide +kernel
theorem dX4_put_20 : decode cX4_put 20 = .ok (.getfield 18, 3) := by decide +kernel
theorem dX4_put_23 : decode cX4_put 23 = .ok (.iload_n 2, 1) := by decide +kernel
theorem dX4_put_24 : decode cX4_put 24 = .ok (.iconst 4, 1) := by decide +kernel
theorem dX4_put_25 : decode cX4_put 25 = .ok (.imul, 1) := by decide +kernel
theorem dX4_put_26 : decode cX4_put 26 = .ok (.aload_n 0, 1) := by decide +kernel
theorem dX4_put_27 : decode cX4_put 27 = .ok (.getfield 15, 3) := by decide +kernel
theorem dX4_put_30 : decode cX4_put 30 = .ok (.iload_n 2, 1) := by decide +kernel
theorem dX4_put_31 : decode cX4_put 31 = .ok (.iaload, 1) := by decide +kernel
theorem dX4_put_32 : decode cX4_put 32 = .ok (.iadd, 1) := by decide +kernel
theorem dX4_put_33 : decode cX4_put 33 = .ok (.iload_n 1, 1) := by decide +kernel
theorem dX4_put_34 : decode cX4_put 34 = .ok (.iastore, 1) := by decide +kernel
theorem dX4_put_35 : decode cX4_put 35 = .ok (.aload_n 0, 1) := by decide +kernel
theorem dX4_put_36 : decode cX4_put 36 = .ok (.getfield 15, 3) := by decide +kernel
theorem dX4_put_39 : decode cX4_put 39 = .ok (.iload_n 2, 1) := by decide +kernel
theorem dX4_put_40 : decode cX4_put 40 = .ok (.dup2, 1) := by decide +kernel
theorem dX4_put_41 : decode cX4_put 41 = .ok (.iaload, 1) := by decide +kernel
theorem dX4_put_42 : decode cX4_put 42 = .ok (.iconst 1, 1) := by decide +kernel
theorem dX4_put_43 : decode cX4_put 43 = .ok (.iadd, 1) := by decide +kernel
theorem dX4_put_44 : decode cX4_put 44 = .ok (.iastore, 1) := by decide +kernel
theorem dX4_put_45 : decode cX4_put 45 = .ok (.aload_n 0, 1) := by decide +kernel
theorem dX4_put_46 : decode cX4_put 46 = .ok (.getfield 21, 3) := by decide +kernel
theorem dX4_put_49 : decode cX4_put 49 = .ok (.iload_n 1, 1) := by decide +kernel
theorem dX4_put_50 : decode cX4_put 50 = .ok (.iload_n 2, 1) := by decide +kernel
theorem dX4_put_51 : decode cX4_put 51 = .ok (.iastore, 1) := by decide +kernel
theorem dX4_put_52 : decode cX4_put 52 = .ok (.aload_n 0, 1) := by decide +kernel
theorem dX4_put_53 : decode cX4_put 53 = .ok (.dup, 1) := by decide +kernel
theorem dX4_put_54 : decode cX4_put 54 = .ok (.getfield 38, 3) := by decide +kernel
theorem dX4_put_57 : decode cX4_put 57 = .ok (.iconst 1, 1) := by decide +kernel
theorem dX4_put_58 : decode cX4_put 58 = .ok (.iadd, 1) := by decide +kernel
theorem dX4_put_59 : decode cX4_put 59 = .ok (.putfield 38, 3) := by decide +kernel
theorem dX4_put_62 : decode cX4_put 62 = .ok (.return_, 1) := by decide +kernel
theorem dX4_take_0 : decode cX4_take 0 = .ok (.aload_n 0, 1) := by decide +kernel
theorem dX4_take_1 : decode cX4_take 1 = .ok (.iload_n 1, 1) := by decide +kernel
theorem dX4_take_2 : decode cX4_take 2 = .ok (.invokevirtual 41, 3) := by decide +kernel
theorem dX4_take_5 : decode cX4_take 5 = .ok (.istore_n 2, 1) := by decide +kernel
theorem dX4_take_6 : decode cX4_take 6 = .ok (.iload_n 2, 1) := by decide +kernel
theorem dX4_take_7 : decode cX4_take 7 = .ok (.iconst (-1), 1) := by decide +kernel
theorem dX4_take_8 : decode cX4_take 8 = .ok (.if_icmp .ne 4, 3) := by decide +kernel
theorem dX4_take_11 : decode cX4_take 11 = .ok (.return_, 1) := by decide +kernel
theorem dX4_take_12 : decode cX4_take 12 = .ok (.aload_n 0, 1) := by decide +kernel
theorem dX4_take_13 : decode cX4_take 13 = .ok (.getfield 15, 3) := by decide +kernel
theorem dX4_take_16 : decode cX4_take 16 = .ok (.iload_n 1, 1) := by decide +kernel
theorem dX4_take_17 : decode cX4_take 17 = .ok (.dup2, 1) := by decide +kernel
theorem dX4_take_18 : decode cX4_take 18 = .ok (.iaload, 1) := by decide +kernel
theorem dX4_take_19 : decode cX4_take 19 = .ok (.iconst 1, 1) := by decide +kernel
theorem dX4_take_20 : decode cX4_take 20 = .ok (.isub, 1) := by decide +kernel
theorem dX4_take_21 : decode cX4_take 21 = .ok (.iastore, 1) := by decide +kernel
theorem dX4_take_22 : decode cX4_take 22 = .ok (.aload_n 0, 1) := by decide +kernel
theorem dX4_take_23 : decode cX4_take 23 = .ok (.getfield 21, 3) := by decide +kernel
theorem dX4_take_26 : decode cX4_take 26 = .ok (.iload_n 2, 1) := by decide +kernel
theorem dX4_take_27 : decode cX4_take 27 = .ok (.iconst (-1), 1) := by decide +kernel
theorem dX4_take_28 : decode cX4_take 28 = .ok (.iastore, 1) := by decide +kernel
theorem dX4_take_29 : decode cX4_take 29 = .ok (.aload_n 0, 1) := by decide +kernel
theorem dX4_take_30 : decode cX4_take 30 = .ok (.dup, 1) := by decide +kernel
theorem dX4_take_31 : decode cX4_take 31 = .ok (.getfield 38, 3) := by decide +kernel
theorem dX4_take_34 : decode cX4_take 34 = .ok (.iconst 1, 1) := by decide +kernel
theorem dX4_take_35 : decode cX4_take 35 = .ok (.isub, 1) := by decide +kernel
theorem dX4_take_36 : decode cX4_take 36 = .ok (.putfield 38, 3) := by decide +kernel
theorem dX4_take_39 : decode cX4_take 39 = .ok (.return_, 1) := by decide +kernel
theorem dX4_shift_0 : decode cX4_shift 0 = .ok (.aload_n 0, 1) := by decide +kernel
theorem dX4_shift_1 : decode cX4_shift 1 = .ok (.iload_n 1, 1) := by decide +kernel
theorem dX4_shift_2 : decode cX4_shift 2 = .ok (.invokevirtual 41, 3) := by decide +kernel
theorem dX4_shift_5 : decode cX4_shift 5 = .ok (.istore_n 3, 1) := by decide +kernel
theorem dX4_shift_6 : decode cX4_shift 6 = .ok (.iload_n 3, 1) := by decide +kernel
theorem dX4_shift_7 : decode cX4_shift 7 = .ok (.iconst (-1), 1) := by decide +kernel
theorem dX4_shift_8 : decode cX4_shift 8 = .ok (.if_icmp .eq 16, 3) := by decide +kernel
theorem dX4_shift_11 : decode cX4_shift 11 = .ok (.iload_n 1, 1) := by decide +kernel
theorem dX4_shift_12 : decode cX4_shift 12 = .ok (.iload_n 2, 1) := by decide +kernel
theorem dX4_shift_13 : decode cX4_shift 13 = .ok (.if_icmp .eq 11, 3) := by decide +kernel
theorem dX4_shift_16 : decode cX4_shift 16 = .ok (.aload_n 0, 1) := by decide +kernel
theorem dX4_shift_17 : decode cX4_shift 17 = .ok (.iload_n 2, 1) := by decide +kernel
theorem dX4_shift_18 : decode cX4_shift 18 = .ok (.invokevirtual 67, 3) := by decide +kernel
theorem dX4_shift_21 : decode cX4_shift 21 = .ok (.ifCond .eq 4, 3) := by decide +kernel
theorem dX4_shift_24 : decode cX4_shift 24 = .ok (.return_, 1) := by decide +kernel
theorem dX4_shift_25 : decode cX4_shift 25 = .ok (.aload_n 0, 1) := by decide +kernel
theorem dX4_shift_26 : decode cX4_shift 26 = .ok (.iload_n 1, 1) := by decide +kernel
theorem dX4_shift_27 : decode cX4_shift 27 = .ok (.invokevirtual 74, 3) := by decide +kernel
theorem dX4_shift_30 : decode cX4_shift 30 = .ok (.aload_n 0, 1) := by decide +kernel
theorem dX4_shift_31 : decode cX4_shift 31 = .ok (.iload_n 3, 1) := by decide +kernel
theorem dX4_shift_32 : decode cX4_shift 32 = .ok (.iload_n 2, 1) := by decide +kernel
theorem dX4_shift_33 : decode cX4_shift 33 = .ok (.invokevirtual 78, 3) := by decide +kernel
theorem dX4_shift_36 : decode cX4_shift 36 = .ok (.return_, 1) := by decide +kernel
