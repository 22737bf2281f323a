theorem dX0_init_0 : decode cX0_init 0 = .ok (.aload_n 0, 1) := by decide +kernel
theorem dX0_init_1 : decode cX0_init 1 = .ok (.invokespecial 3, 3) := by decide +kernel
theorem dX0_init_4 : decode cX0_init 4 = .ok (.aload_n 0, 1) := by decide +kernel
theorem dX0_init_5 : decode cX0_init 5 = .ok (.bipush 56, 2) := by decide +kernel
theorem dX0_init_7 : decode cX0_init 7 = .ok (.newarray .int, 2) := by decide +kernel
theorem dX0_init_9 : decode cX0_init 9 = .ok (.putfield 9, 3) := by decide +kernel
theorem dX0_init_12 : decode cX0_init 12 = .ok (.aload_n 0, 1) := by decide +kernel
theorem dX0_init_13 : decode cX0_init 13 = .ok (.sipush 256, 3) := by decide +kernel
theorem dX0_init_16 : decode cX0_init 16 = .ok (.newarray .int, 2) := by decide +kernel
theorem dX0_init_18 : decode cX0_init 18 = .ok (.putfield 15, 3) := by decide +kernel
theorem dX0_init_21 : decode cX0_init 21 = .ok (.return_, 1) := by decide +kernel
theorem dX0_become_0 : decode cX0_become 0 = .ok (.aload_n 0, 1) := by decide +kernel
theorem dX0_become_1 : decode cX0_become 1 = .ok (.iload_n 1, 1) := by decide +kernel
theorem dX0_become_2 : decode cX0_become 2 = .ok (.putfield 18, 3) := by decide +kernel
theorem dX0_become_5 : decode cX0_become 5 = .ok (.aload_n 0, 1) := by decide +kernel
theorem dX0_become_6 : decode cX0_become 6 = .ok (.iload_n 2, 1) := by decide +kernel
theorem dX0_become_7 : decode cX0_become 7 = .ok (.putfield 22, 3) := by decide +kernel
theorem dX0_become_10 : decode cX0_become 10 = .ok (.aload_n 0, 1) := by decide +kernel
theorem dX0_become_11 : decode cX0_become 11 = .ok (.iload_n 3, 1) := by decide +kernel
theorem dX0_become_12 : decode cX0_become 12 = .ok (.putfield 25, 3) := by decide +kernel
theorem dX0_become_15 : decode cX0_become 15 = .ok (.aload_n 0, 1) := by decide +kernel
theorem dX0_become_16 : decode cX0_become 16 = .ok (.iconst 0, 1) := by decide +kernel
theorem dX0_become_17 : decode cX0_become 17 = .ok (.putfield 28, 3) := by decide +kernel
theorem dX0_become_20 : decode cX0_become 20 = .ok (.iconst 0, 1) := by decide +kernel
theorem dX0_become_21 : decode cX0_become 21 = .ok (.istore 4, 2) := by decide +kernel
theorem dX0_become_23 : decode cX0_become 23 = .ok (.iload 4, 2) := by decide +kernel
theorem dX0_become_25 : decode cX0_become 25 = .ok (.sipush 256, 3) := by decide +kernel
theorem dX0_become_28 : decode cX0_become 28 = .ok (.if_icmp .ge 82, 3) := by decide +kernel
theorem dX0_become_31 : decode cX0_become 31 = .ok (.aload_n 0, 1) := by decide +kernel
theorem dX0_become_32 : decode cX0_become 32 = .ok (.getfield 15, 3) := by decide +kernel
theorem dX0_become_35 : decode cX0_become 35 = .ok (.iload 4, 2) := by decide +kernel
theorem dX0_become_37 : decode cX0_become 37 = .ok (.bipush (-5), 2) := by decide +kernel
theorem dX0_become_39 : decode cX0_become 39 = .ok (.iastore, 1) := by decide +kernel
theorem dX0_become_40 : decode cX0_become 40 = .ok (.aload_n 0, 1) := by decide +kernel
theorem dX0_become_41 : decode cX0_become 41 = .ok (.getfield 28, 3) := by decide +kernel
theorem dX0_become_44 : decode cX0_become 44 = .ok (.bipush 56, 2) := by decide +kernel
theorem dX0_become_46 : decode cX0_become 46 = .ok (.if_icmp .ge 58, 3) := by decide +kernel
theorem dX0_become_49 : decode cX0_become 49 = .ok (.iload 4, 2) := by decide +kernel
theorem dX0_become_51 : decode cX0_become 51 = .ok (.iconst 1, 1) := by decide +kernel
theorem dX0_become_52 : decode cX0_become 52 = .ok (.aload_n 0, 1) := by decide +kernel
theorem dX0_become_53 : decode cX0_become 53 = .ok (.getfield 18, 3) := by decide +kernel
theorem dX0_become_56 : decode cX0_become 56 = .ok (.ishl, 1) := by decide +kernel
theorem dX0_become_57 : decode cX0_become 57 = .ok (.if_icmp .ge 47, 3) := by decide +kernel
theorem dX0_become_60 : decode cX0_become 60 = .ok (.iload 4, 2) := by decide +kernel
theorem dX0_become_62 : decode cX0_become 62 = .ok (.invokestatic 31, 3) := by decide +kernel
theorem dX0_become_65 : decode cX0_become 65 = .ok (.aload_n 0, 1) := by decide +kernel
theorem dX0_become_66 : decode cX0_become 66 = .ok (.getfield 22, 3) := by decide +kernel
theorem dX0_become_69 : decode cX0_become 69 = .ok (.if_icmp .ne 35, 3) := by decide +kernel
theorem dX0_become_72 : decode cX0_become 72 = .ok (.aload_n 0, 1) := by decide +kernel
theorem dX0_become_73 : decode cX0_become 73 = .ok (.getfield 9, 3) := by decide +kernel
theorem dX0_become_76 : decode cX0_become 76 = .ok (.aload_n 0, 1) := by decide +kernel
theorem dX0_become_77 : decode cX0_become 77 = .ok (.getfield 28, 3) := by decide +kernel
theorem dX0_become_80 : decode cX0_become 80 = .ok (.iload 4, 2) := by decide +kernel
theorem dX0_become_82 : decode cX0_become 82 = .ok (.iastore, 1) := by decide +kernel
theorem dX0_become_83 : decode cX0_become 83 = .ok (.aload_n 0, 1) := by decide +kernel
theorem dX0_become_84 : decode cX0_become 84 = .ok (.getfield 15, 3) := by decide +kernel
theorem dX0_become_87 : decode cX0_become 87 = .ok (.iload 4, 2) := by decide +kernel
theorem dX0_become_89 : decode cX0_become 89 = .ok (.aload_n 0, 1) := by decide +kernel
theorem dX0_become_90 : decode cX0_become 90 = .ok (.getfield 28, 3) := by decide +kernel
theorem dX0_become_93 : decode cX0_become 93 = .ok (.iastore, 1) := by decide +kernel
theorem dX0_become_94 : decode cX0_become 94 = .ok (.aload_n 0, 1) := by decide +kernel
theorem dX0_become_95 : decode cX0_become 95 = .ok (.dup, 1) := by decide +kernel
theorem dX0_become_96 : decode cX0_become 96 = .ok (.getfield 28, 3) := by decide +kernel
theorem dX0_become_99 : decode cX0_become 99 = .ok (.iconst 1, 1) := by decide +kernel
theorem dX0_become_100 : decode cX0_become 100 = .ok (.iadd, 1) := by decide +kernel
theorem dX0_become_101 : decode cX0_become 101 = .ok (.putfield 28, 3) := by decide +kernel
theorem dX0_become_104 : decode cX0_become 104 = .ok (.iinc 4 1, 3) := by decide +kernel
theorem dX0_become_107 : decode cX0_become 107 = .ok (.goto (-84), 3) := by decide +kernel
theorem dX0_become_110 : decode cX0_become 110 = .ok (.return_, 1) := by decide +kernel
theorem dX0_copyFrom_0 : decode cX0_copyFrom 0 = .ok (.aload_n 0, 1) := by decide +kernel
theorem dX0_copyFrom_1 : decode cX0_copyFrom 1 = .ok (.invokevirtual 37, 3) := by decide +kernel
theorem dX0_copyFrom_4 : decode cX0_copyFrom 4 = .ok (.aload_n 1, 1) := by decide +kernel
theorem dX0_copyFrom_5 : decode cX0_copyFrom 5 = .ok (.invokevirtual 37, 3) := by decide +kernel
theorem dX0_copyFrom_8 : decode cX0_copyFrom 8 = .ok (.if_icmp .eq 19, 3) := by decide +kernel
theorem dX0_copyFrom_11 : decode cX0_copyFrom 11 = .ok (.aload_n 0, 1) := by decide +kernel
theorem dX0_copyFrom_12 : decode cX0_copyFrom 12 = .ok (.aload_n 1, 1) := by decide +kernel
theorem dX0_copyFrom_13 : decode cX0_copyFrom 13 = .ok (.getfield 18, 3) := by decide +kernel
theorem dX0_copyFrom_16 : decode cX0_copyFrom 16 = .ok (.aload_n 1, 1) := by decide +kernel
theorem dX0_copyFrom_17 : decode cX0_copyFrom 17 = .ok (.getfield 22, 3) := by decide +kernel
theorem dX0_copyFrom_20 : decode cX0_copyFrom 20 = .ok (.aload_n 1, 1) := by decide +kernel
theorem dX0_copyFrom_21 : decode cX0_copyFrom 21 = .ok (.getfield 25, 3) := by decide +kernel
theorem dX0_copyFrom_24 : decode cX0_copyFrom 24 = .ok (.invokevirtual 41, 3) := by decide +kernel
theorem dX0_copyFrom_27 : decode cX0_copyFrom 27 = .ok (.return_, 1) := by decide +kernel
theorem dX0_sizes_0 : decode cX0_sizes 0 = .ok (.bipush 100, 2) := by decide +kernel
theorem dX0_sizes_2 : decode cX0_sizes 2 = .ok (.aload_n 0, 1) := by decide +kernel
theorem dX0_sizes_3 : decode cX0_sizes 3 = .ok (.getfield 18, 3) := by decide +kernel
theorem dX0_sizes_6 : decode cX0_sizes 6 = .ok (.imul, 1) := by decide +kernel
theorem dX0_sizes_7 : decode cX0_sizes 7 = .ok (.bipush 10, 2) := by decide +kernel
theorem dX0_sizes_9 : decode cX0_sizes 9 = .ok (.aload_n 0, 1) := by decide +kernel
theorem dX0_sizes_10 : decode cX0_sizes 10 = .ok (.getfield 22, 3) := by decide +kernel
theorem dX0_sizes_13 : decode cX0_sizes 13 = .ok (.imul, 1) := by decide +kernel
theorem dX0_sizes_14 : decode cX0_sizes 14 = .ok (.iadd, 1) := by decide +kernel
theorem dX0_sizes_15 : decode cX0_sizes 15 = .ok (.aload_n 0, 1) := by decide +kernel
theorem dX0_sizes_16 : decode cX0_sizes 16 = .ok (.getfield 25, 3) := by decide +kernel
theorem dX0_sizes_19 : decode cX0_sizes 19 = .ok (.iadd, 1) := by decide +kernel
theorem dX0_sizes_20 : decode cX0_sizes 20 = .ok (.ireturn, 1) := by decide +kernel
theorem dX0_has_0 : decode cX0_has 0 = .ok (.iload_n 1, 1) := by decide +kernel
theorem dX0_has_1 : decode cX0_has 1 = .ok (.ifCond .lt 15, 3) := by decide +kernel
theorem dX0_has_4 : decode cX0_has 4 = .ok (.iload_n 1, 1) := by decide +kernel
theorem dX0_has_5 : decode cX0_has 5 = .ok (.aload_n 0, 1) := by decide +kernel
theorem dX0_has_6 : decode cX0_has 6 = .ok (.getfield 28, 3) := by decide +kernel
theorem dX0_has_9 : decode cX0_has 9 = .ok (.if_icmp .ge 7, 3) := by decide +kernel
theorem dX0_has_12 : decode cX0_has 12 = .ok (.iconst 1, 1) := by decide +kernel
theorem dX0_has_13 : decode cX0_has 13 = .ok (.goto 4, 3) := by decide +kernel
theorem dX0_has_16 : decode cX0_has 16 = .ok (.iconst 0, 1) := by decide +kernel
theorem dX0_has_17 : decode cX0_has 17 = .ok (.ireturn, 1) := by decide +kernel
theorem dX0_hasPoint_0 : decode cX0_hasPoint 0 = .ok (.iload_n 1, 1) := by decide +kernel
theorem dX0_hasPoint_1 : decode cX0_hasPoint 1 = .ok (.ifCond .lt 15, 3) := by decide +kernel
theorem dX0_hasPoint_4 : decode cX0_hasPoint 4 = .ok (.iload_n 1, 1) := by decide +kernel
theorem dX0_hasPoint_5 : decode cX0_hasPoint 5 = .ok (.aload_n 0, 1) := by decide +kernel
theorem dX0_hasPoint_6 : decode cX0_hasPoint 6 = .ok (.getfield 18, 3) := by decide +kernel
theorem dX0_hasPoint_9 : decode cX0_hasPoint 9 = .ok (.if_icmp .ge 7, 3) := by decide +kernel
theorem dX0_hasPoint_12 : decode cX0_hasPoint 12 = .ok (.iconst 1, 1) := by decide +kernel
theorem dX0_hasPoint_13 : decode cX0_hasPoint 13 = .ok (.goto 4, 3) := by decide +kernel
theorem dX0_hasPoint_16 : decode cX0_hasPoint 16 = .ok (.iconst 0, 1) := by decide +kernel
theorem dX0_hasPoint_17 : decode cX0_hasPoint 17 = .ok (.ireturn, 1) := by decide +kernel
theorem dX0_isSet_0 : decode cX0_isSet 0 = .ok (.iload_n 1, 1) := by decide +kernel
theorem dX0_isSet_1 : decode cX0_isSet 1 = .ok (.ifCond .lt 25, 3) := by decide +kernel
theorem dX0_isSet_4 : decode cX0_isSet 4 = .ok (.iload_n 1, 1) := by decide +kernel
theorem dX0_isSet_5 : decode cX0_isSet 5 = .ok (.iconst 1, 1) := by decide +kernel
theorem dX0_isSet_6 : decode cX0_isSet 6 = .ok (.aload_n 0, 1) := by decide +kernel
theorem dX0_isSet_7 : decode cX0_isSet 7 = .ok (.getfield 18, 3) := by decide +kernel
theorem dX0_isSet_10 : decode cX0_isSet 10 = .ok (.ishl, 1) := by decide +kernel
theorem dX0_isSet_11 : decode cX0_isSet 11 = .ok (.if_icmp .ge 15, 3) := by decide +kernel
theorem dX0_isSet_14 : decode cX0_isSet 14 = .ok (.iload_n 1, 1) := by decide +kernel
theorem dX0_isSet_15 : decode cX0_isSet 15 = .ok (.invokestatic 31, 3) := by decide +kernel
theorem dX0_isSet_18 : decode cX0_isSet 18 = .ok (.iload_n 2, 1) := by decide +kernel
theorem dX0_isSet_19 : decode cX0_isSet 19 = .ok (.if_icmp .gt 7, 3) := by decide +kernel
theorem dX0_isSet_22 : decode cX0_isSet 22 = .ok (.iconst 1, 1) := by decide +kernel
theorem dX0_isSet_23 : decode cX0_isSet 23 = .ok (.goto 4, 3) := by decide +kernel
theorem dX0_isSet_26 : decode cX0_isSet 26 = .ok (.iconst 0, 1) := by decide +kernel
theorem dX0_isSet_27 : decode cX0_isSet 27 = .ok (.ireturn, 1) := by decide +kernel
theorem dX0_numberOf_0 : decode cX0_numberOf 0 = .ok (.iload_n 1, 1) := by decide +kernel
theorem dX0_numberOf_1 : decode cX0_numberOf 1 = .ok (.ifCond .lt 19, 3) := by decide +kernel
theorem dX0_numberOf_4 : decode cX0_numberOf 4 = .ok (.iload_n 1, 1) := by decide +kernel
theorem dX0_numberOf_5 : decode cX0_numberOf 5 = .ok (.sipush 256, 3) := by decide +kernel
theorem dX0_numberOf_8 : decode cX0_numberOf 8 = .ok (.if_icmp .ge 12, 3) := by decide +kernel
theorem dX0_numberOf_11 : decode cX0_numberOf 11 = .ok (.aload_n 0, 1) := by decide +kernel
theorem dX0_numberOf_12 : decode cX0_numberOf 12 = .ok (.getfield 15, 3) := by decide +kernel
theorem dX0_numberOf_15 : decode cX0_numberOf 15 = .ok (.iload_n 1, 1) := by decide +kernel
theorem dX0_numberOf_16 : decode cX0_numberOf 16 = .ok (.iaload, 1) := by decide +kernel
theorem dX0_numberOf_17 : decode cX0_numberOf 17 = .ok (.goto 5, 3) := by decide +kernel
theorem dX0_numberOf_20 : decode cX0_numberOf 20 = .ok (.bipush (-5), 2) := by decide +kernel
theorem dX0_numberOf_22 : decode cX0_numberOf 22 = .ok (.ireturn, 1) := by decide +kernel
theorem dX0_holds_0 : decode cX0_holds 0 = .ok (.aload_n 0, 1) := by decide +kernel
theorem dX0_holds_1 : decode cX0_holds 1 = .ok (.getfield 9, 3) := by decide +kernel
theorem dX0_holds_4 : decode cX0_holds 4 = .ok (.iload_n 1, 1) := by decide +kernel
theorem dX0_holds_5 : decode cX0_holds 5 = .ok (.iaload, 1) := by decide +kernel
theorem dX0_holds_6 : decode cX0_holds 6 = .ok (.iload_n 2, 1) := by decide +kernel
theorem dX0_holds_7 : decode cX0_holds 7 = .ok (.iand, 1) := by decide +kernel
theorem dX0_holds_8 : decode cX0_holds 8 = .ok (.iload_n 2, 1) := by decide +kernel
theorem dX0_holds_9 : decode cX0_holds 9 = .ok (.if_icmp .ne 7, 3) := by decide +kernel
theorem dX0_holds_12 : decode cX0_holds 12 = .ok (.iconst 1, 1) := by decide +kernel
theorem dX0_holds_13 : decode cX0_holds 13 = .ok (.goto 4, 3) := by decide +kernel
theorem dX0_holds_16 : decode cX0_holds 16 = .ok (.iconst 0, 1) := by decide +kernel
theorem dX0_holds_17 : decode cX0_holds 17 = .ok (.ireturn, 1) := by decide +kernel
theorem dX0_holding_0 : decode cX0_holding 0 = .ok (.iconst 0, 1) := by decide +kernel
theorem dX0_holding_1 : decode cX0_holding 1 = .ok (.istore_n 2, 1) := by decide +kernel
theorem dX0_holding_2 : decode cX0_holding 2 = .ok (.iconst 0, 1) := by decide +kernel
theorem dX0_holding_3 : decode cX0_holding 3 = .ok (.istore_n 3, 1) := by decide +kernel
theorem dX0_holding_4 : decode cX0_holding 4 = .ok (.iload_n 3, 1) := by decide +kernel
theorem dX0_holding_5 : decode cX0_holding 5 = .ok (.aload_n 0, 1) := by decide +kernel
theorem dX0_holding_6 : decode cX0_holding 6 = .ok (.getfield 28, 3) := by decide +kernel
theorem dX0_holding_9 : decode cX0_holding 9 = .ok (.if_icmp .ge 21, 3) := by decide +kernel
theorem dX0_holding_12 : decode cX0_holding 12 = .ok (.aload_n 0, 1) := by decide +kernel
theorem dX0_holding_13 : decode cX0_holding 13 = .ok (.iload_n 3, 1) := by decide +kernel
theorem dX0_holding_14 : decode cX0_holding 14 = .ok (.iload_n 1, 1) := by decide +kernel
theorem dX0_holding_15 : decode cX0_holding 15 = .ok (.invokevirtual 45, 3) := by decide +kernel
theorem dX0_holding_18 : decode cX0_holding 18 = .ok (.ifCond .eq 6, 3) := by decide +kernel
theorem dX0_holding_21 : decode cX0_holding 21 = .ok (.iinc 2 1, 3) := by decide +kernel
theorem dX0_holding_24 : decode cX0_holding 24 = .ok (.iinc 3 1, 3) := by decide +kernel
theorem dX0_holding_27 : decode cX0_holding 27 = .ok (.goto (-23), 3) := by decide +kernel
theorem dX0_holding_30 : decode cX0_holding 30 = .ok (.iload_n 2, 1) := by decide +kernel
theorem dX0_holding_31 : decode cX0_holding 31 = .ok (.ireturn, 1) := by decide +kernel
theorem dX1_init_0 : decode cX1_init 0 = .ok (.aload_n 0, 1) := by decide +kernel
theorem dX1_init_1 : decode cX1_init 1 = .ok (.invokespecial 1, 3) := by decide +kernel
theorem dX1_init_4 : decode cX1_init 4 = .ok (.aload_n 0, 1) := by decide +kernel
theorem dX1_init_5 : decode cX1_init 5 = .ok (.new 7, 3) := by decide +kernel
theorem dX1_init_8 : decode cX1_init 8 = .ok (.dup, 1) := by decide +kernel
theorem dX1_init_9 : decode cX1_init 9 = .ok (.invokespecial 9, 3) := by decide +kernel
theorem dX1_init_12 : decode cX1_init 12 = .ok (.putfield 10, 3) := by decide +kernel
theorem dX1_init_15 : decode cX1_init 15 = .ok (.aload_n 0, 1) := by decide +kernel
theorem dX1_init_16 : decode cX1_init 16 = .ok (.iconst 0, 1) := by decide +kernel
theorem dX1_init_17 : decode cX1_init 17 = .ok (.putfield 16, 3) := by decide +kernel
theorem dX1_init_20 : decode cX1_init 20 = .ok (.aload_n 0, 1) := by decide +kernel
theorem dX1_init_21 : decode cX1_init 21 = .ok (.iconst 0, 1) := by decide +kernel
theorem dX1_init_22 : decode cX1_init 22 = .ok (.putfield 20, 3) := by decide +kernel
theorem dX1_init_25 : decode cX1_init 25 = .ok (.aload_n 0, 1) := by decide +kernel
theorem dX1_init_26 : decode cX1_init 26 = .ok (.iconst 0, 1) := by decide +kernel
theorem dX1_init_27 : decode cX1_init 27 = .ok (.putfield 23, 3) := by decide +kernel
theorem dX1_init_30 : decode cX1_init 30 = .ok (.return_, 1) := by decide +kernel
theorem dX1_look_0 : decode cX1_look 0 = .ok (.aload_n 0, 1) := by decide +kernel
theorem dX1_look_1 : decode cX1_look 1 = .ok (.iconst 0, 1) := by decide +kernel
theorem dX1_look_2 : decode cX1_look 2 = .ok (.putfield 16, 3) := by decide +kernel
theorem dX1_look_5 : decode cX1_look 5 = .ok (.aload_n 0, 1) := by decide +kernel
theorem dX1_look_6 : decode cX1_look 6 = .ok (.getfield 10, 3) := by decide +kernel
theorem dX1_look_9 : decode cX1_look 9 = .ok (.aload_n 1, 1) := by decide +kernel
theorem dX1_look_10 : decode cX1_look 10 = .ok (.getfield 26, 3) := by decide +kernel
theorem dX1_look_13 : decode cX1_look 13 = .ok (.invokevirtual 32, 3) := by decide +kernel
theorem dX1_look_16 : decode cX1_look 16 = .ok (.aload_n 0, 1) := by decide +kernel
theorem dX1_look_17 : decode cX1_look 17 = .ok (.aload_n 1, 1) := by decide +kernel
theorem dX1_look_18 : decode cX1_look 18 = .ok (.iconst 0, 1) := by decide +kernel
theorem dX1_look_19 : decode cX1_look 19 = .ok (.iconst 0, 1) := by decide +kernel
theorem dX1_look_20 : decode cX1_look 20 = .ok (.iconst 0, 1) := by decide +kernel
theorem dX1_look_21 : decode cX1_look 21 = .ok (.invokestatic 36, 3) := by decide +kernel
theorem dX1_look_24 : decode cX1_look 24 = .ok (.return_, 1) := by decide +kernel
theorem dX1_choosePoints_0 : decode cX1_choosePoints 0 = .ok (.iload_n 2, 1) := by decide +kernel
theorem dX1_choosePoints_1 : decode cX1_choosePoints 1 = .ok (.aload_n 0, 1) := by decide +kernel
theorem dX1_choosePoints_2 : decode cX1_choosePoints 2 = .ok (.getfield 10, 3) := by decide +kernel
theorem dX1_choosePoints_5 : decode cX1_choosePoints 5 = .ok (.getfield 40, 3) := by decide +kernel
theorem dX1_choosePoints_8 : decode cX1_choosePoints 8 = .ok (.if_icmp .lt 11, 3) := by decide +kernel
theorem dX1_choosePoints_11 : decode cX1_choosePoints 11 = .ok (.aload_n 0, 1) := by decide +kernel
theorem dX1_choosePoints_12 : decode cX1_choosePoints 12 = .ok (.aload_n 1, 1) := by decide +kernel
theorem dX1_choosePoints_13 : decode cX1_choosePoints 13 = .ok (.iload 4, 2) := by decide +kernel
theorem dX1_choosePoints_15 : decode cX1_choosePoints 15 = .ok (.invokevirtual 43, 3) := by decide +kernel
theorem dX1_choosePoints_18 : decode cX1_choosePoints 18 = .ok (.return_, 1) := by decide +kernel
theorem dX1_choosePoints_19 : decode cX1_choosePoints 19 = .ok (.aload_n 0, 1) := by decide +kernel
theorem dX1_choosePoints_20 : decode cX1_choosePoints 20 = .ok (.iload_n 2, 1) := by decide +kernel
theorem dX1_choosePoints_21 : decode cX1_choosePoints 21 = .ok (.invokevirtual 47, 3) := by decide +kernel
theorem dX1_choosePoints_24 : decode cX1_choosePoints 24 = .ok (.istore 5, 2) := by decide +kernel
theorem dX1_choosePoints_26 : decode cX1_choosePoints 26 = .ok (.iload 5, 2) := by decide +kernel
theorem dX1_choosePoints_28 : decode cX1_choosePoints 28 = .ok (.aload_n 1, 1) := by decide +kernel
theorem dX1_choosePoints_29 : decode cX1_choosePoints 29 = .ok (.getfield 26, 3) := by decide +kernel
theorem dX1_choosePoints_32 : decode cX1_choosePoints 32 = .ok (.getfield 51, 3) := by decide +kernel
theorem dX1_choosePoints_35 : decode cX1_choosePoints 35 = .ok (.if_icmp .ge 53, 3) := by decide +kernel
theorem dX1_choosePoints_38 : decode cX1_choosePoints 38 = .ok (.iload_n 3, 1) := by decide +kernel
theorem dX1_choosePoints_39 : decode cX1_choosePoints 39 = .ok (.iload 5, 2) := by decide +kernel
theorem dX1_choosePoints_41 : decode cX1_choosePoints 41 = .ok (.ishr, 1) := by decide +kernel
theorem dX1_choosePoints_42 : decode cX1_choosePoints 42 = .ok (.iconst 1, 1) := by decide +kernel
theorem dX1_choosePoints_43 : decode cX1_choosePoints 43 = .ok (.iand, 1) := by decide +kernel
theorem dX1_choosePoints_44 : decode cX1_choosePoints 44 = .ok (.ifCond .ne 38, 3) := by decide +kernel
theorem dX1_choosePoints_47 : decode cX1_choosePoints 47 = .ok (.aload_n 0, 1) := by decide +kernel
theorem dX1_choosePoints_48 : decode cX1_choosePoints 48 = .ok (.getfield 10, 3) := by decide +kernel
theorem dX1_choosePoints_51 : decode cX1_choosePoints 51 = .ok (.getfield 56, 3) := by decide +kernel
theorem dX1_choosePoints_54 : decode cX1_choosePoints 54 = .ok (.iload_n 2, 1) := by decide +kernel
theorem dX1_choosePoints_55 : decode cX1_choosePoints 55 = .ok (.iload 5, 2) := by decide +kernel
theorem dX1_choosePoints_57 : decode cX1_choosePoints 57 = .ok (.iastore, 1) := by decide +kernel
theorem dX1_choosePoints_58 : decode cX1_choosePoints 58 = .ok (.aload_n 0, 1) := by decide +kernel
theorem dX1_choosePoints_59 : decode cX1_choosePoints 59 = .ok (.aload_n 1, 1) := by decide +kernel
theorem dX1_choosePoints_60 : decode cX1_choosePoints 60 = .ok (.iload_n 2, 1) := by decide +kernel
theorem dX1_choosePoints_61 : decode cX1_choosePoints 61 = .ok (.iconst 1, 1) := by decide +kernel
theorem dX1_choosePoints_62 : decode cX1_choosePoints 62 = .ok (.iadd, 1) := by decide +kernel
theorem dX1_choosePoints_63 : decode cX1_choosePoints 63 = .ok (.iload_n 3, 1) := by decide +kernel
theorem dX1_choosePoints_64 : decode cX1_choosePoints 64 = .ok (.iconst 1, 1) := by decide +kernel
theorem dX1_choosePoints_65 : decode cX1_choosePoints 65 = .ok (.iload 5, 2) := by decide +kernel
theorem dX1_choosePoints_67 : decode cX1_choosePoints 67 = .ok (.ishl, 1) := by decide +kernel
theorem dX1_choosePoints_68 : decode cX1_choosePoints 68 = .ok (.ior, 1) := by decide +kernel
theorem dX1_choosePoints_69 : decode cX1_choosePoints 69 = .ok (.bipush 10, 2) := by decide +kernel
theorem dX1_choosePoints_71 : decode cX1_choosePoints 71 = .ok (.iload 4, 2) := by decide +kernel
theorem dX1_choosePoints_73 : decode cX1_choosePoints 73 = .ok (.imul, 1) := by decide +kernel
theorem dX1_choosePoints_74 : decode cX1_choosePoints 74 = .ok (.iload 5, 2) := by decide +kernel
theorem dX1_choosePoints_76 : decode cX1_choosePoints 76 = .ok (.iadd, 1) := by decide +kernel
theorem dX1_choosePoints_77 : decode cX1_choosePoints 77 = .ok (.iconst 1, 1) := by decide +kernel
theorem dX1_choosePoints_78 : decode cX1_choosePoints 78 = .ok (.iadd, 1) := by decide +kernel
theorem dX1_choosePoints_79 : decode cX1_choosePoints 79 = .ok (.invokestatic 36, 3) := by decide +kernel
theorem dX1_choosePoints_82 : decode cX1_choosePoints 82 = .ok (.iinc 5 1, 3) := by decide +kernel
theorem dX1_choosePoints_85 : decode cX1_choosePoints 85 = .ok (.goto (-59), 3) := by decide +kernel
theorem dX1_choosePoints_88 : decode cX1_choosePoints 88 = .ok (.return_, 1) := by decide +kernel
theorem dX1_leastPoint_0 : decode cX1_leastPoint 0 = .ok (.iconst 2, 1) := by decide +kernel
theorem dX1_leastPoint_1 : decode cX1_leastPoint 1 = .ok (.aload_n 0, 1) := by decide +kernel
theorem dX1_leastPoint_2 : decode cX1_leastPoint 2 = .ok (.getfield 10, 3) := by decide +kernel
theorem dX1_leastPoint_5 : decode cX1_leastPoint 5 = .ok (.getfield 60, 3) := by decide +kernel
theorem dX1_leastPoint_8 : decode cX1_leastPoint 8 = .ok (.imul, 1) := by decide +kernel
theorem dX1_leastPoint_9 : decode cX1_leastPoint 9 = .ok (.istore_n 2, 1) := by decide +kernel
theorem dX1_leastPoint_10 : decode cX1_leastPoint 10 = .ok (.iload_n 1, 1) := by decide +kernel
theorem dX1_leastPoint_11 : decode cX1_leastPoint 11 = .ok (.ifCond .eq 8, 3) := by decide +kernel
theorem dX1_leastPoint_14 : decode cX1_leastPoint 14 = .ok (.iload_n 1, 1) := by decide +kernel
theorem dX1_leastPoint_15 : decode cX1_leastPoint 15 = .ok (.iload_n 2, 1) := by decide +kernel
theorem dX1_leastPoint_16 : decode cX1_leastPoint 16 = .ok (.if_icmp .ne 5, 3) := by decide +kernel
theorem dX1_leastPoint_19 : decode cX1_leastPoint 19 = .ok (.iconst 0, 1) := by decide +kernel
theorem dX1_leastPoint_20 : decode cX1_leastPoint 20 = .ok (.ireturn, 1) := by decide +kernel
theorem dX1_leastPoint_21 : decode cX1_leastPoint 21 = .ok (.iload_n 1, 1) := by decide +kernel
theorem dX1_leastPoint_22 : decode cX1_leastPoint 22 = .ok (.iload_n 2, 1) := by decide +kernel
theorem dX1_leastPoint_23 : decode cX1_leastPoint 23 = .ok (.if_icmp .ge 13, 3) := by decide +kernel
theorem dX1_leastPoint_26 : decode cX1_leastPoint 26 = .ok (.iload_n 1, 1) := by decide +kernel
theorem dX1_leastPoint_27 : decode cX1_leastPoint 27 = .ok (.iconst 2, 1) := by decide +kernel
theorem dX1_leastPoint_28 : decode cX1_leastPoint 28 = .ok (.irem, 1) := by decide +kernel
theorem dX1_leastPoint_29 : decode cX1_leastPoint 29 = .ok (.ifCond .ne 7, 3) := by decide +kernel
theorem dX1_leastPoint_32 : decode cX1_leastPoint 32 = .ok (.iconst 1, 1) := by decide +kernel
theorem dX1_leastPoint_33 : decode cX1_leastPoint 33 = .ok (.goto 4, 3) := by decide +kernel
theorem dX1_leastPoint_36 : decode cX1_leastPoint 36 = .ok (.iconst 0, 1) := by decide +kernel
theorem dX1_leastPoint_37 : decode cX1_leastPoint 37 = .ok (.istore_n 3, 1) := by decide +kernel
theorem dX1_leastPoint_38 : decode cX1_leastPoint 38 = .ok (.aload_n 0, 1) := by decide +kernel
theorem dX1_leastPoint_39 : decode cX1_leastPoint 39 = .ok (.getfield 10, 3) := by decide +kernel
theorem dX1_leastPoint_42 : decode cX1_leastPoint 42 = .ok (.getfield 56, 3) := by decide +kernel
theorem dX1_leastPoint_45 : decode cX1_leastPoint 45 = .ok (.iload_n 3, 1) := by decide +kernel
theorem dX1_leastPoint_46 : decode cX1_leastPoint 46 = .ok (.ifCond .eq 9, 3) := by decide +kernel
theorem dX1_leastPoint_49 : decode cX1_leastPoint 49 = .ok (.iload_n 1, 1) := by decide +kernel
theorem dX1_leastPoint_50 : decode cX1_leastPoint 50 = .ok (.iconst 2, 1) := by decide +kernel
theorem dX1_leastPoint_51 : decode cX1_leastPoint 51 = .ok (.isub, 1) := by decide +kernel
theorem dX1_leastPoint_52 : decode cX1_leastPoint 52 = .ok (.goto 6, 3) := by decide +kernel
theorem dX1_leastPoint_55 : decode cX1_leastPoint 55 = .ok (.iload_n 1, 1) := by decide +kernel
theorem dX1_leastPoint_56 : decode cX1_leastPoint 56 = .ok (.iconst 1, 1) := by decide +kernel
theorem dX1_leastPoint_57 : decode cX1_leastPoint 57 = .ok (.isub, 1) := by decide +kernel
theorem dX1_leastPoint_58 : decode cX1_leastPoint 58 = .ok (.iaload, 1) := by decide +kernel
theorem dX1_leastPoint_59 : decode cX1_leastPoint 59 = .ok (.iconst 1, 1) := by decide +kernel
theorem dX1_leastPoint_60 : decode cX1_leastPoint 60 = .ok (.iadd, 1) := by decide +kernel
theorem dX1_leastPoint_61 : decode cX1_leastPoint 61 = .ok (.ireturn, 1) := by decide +kernel
theorem dX1_judgeTwist_0 : decode cX1_judgeTwist 0 = .ok (.aload_n 0, 1) := by decide +kernel
theorem dX1_judgeTwist_1 : decode cX1_judgeTwist 1 = .ok (.getfield 10, 3) := by decide +kernel
theorem dX1_judgeTwist_4 : decode cX1_judgeTwist 4 = .ok (.aload_n 1, 1) := by decide +kernel
theorem dX1_judgeTwist_5 : decode cX1_judgeTwist 5 = .ok (.getfield 26, 3) := by decide +kernel
theorem dX1_judgeTwist_8 : decode cX1_judgeTwist 8 = .ok (.iconst 0, 1) := by decide +kernel
theorem dX1_judgeTwist_9 : decode cX1_judgeTwist 9 = .ok (.invokevirtual 63, 3) := by decide +kernel
theorem dX1_judgeTwist_12 : decode cX1_judgeTwist 12 = .ok (.istore_n 3, 1) := by decide +kernel
theorem dX1_judgeTwist_13 : decode cX1_judgeTwist 13 = .ok (.aload_n 1, 1) := by decide +kernel
theorem dX1_judgeTwist_14 : decode cX1_judgeTwist 14 = .ok (.getfield 67, 3) := by decide +kernel
theorem dX1_judgeTwist_17 : decode cX1_judgeTwist 17 = .ok (.iload_n 3, 1) := by decide +kernel
theorem dX1_judgeTwist_18 : decode cX1_judgeTwist 18 = .ok (.invokestatic 71, 3) := by decide +kernel
theorem dX1_judgeTwist_21 : decode cX1_judgeTwist 21 = .ok (.ifCond .eq 7, 3) := by decide +kernel
theorem dX1_judgeTwist_24 : decode cX1_judgeTwist 24 = .ok (.iconst (-1), 1) := by decide +kernel
theorem dX1_judgeTwist_25 : decode cX1_judgeTwist 25 = .ok (.goto 4, 3) := by decide +kernel
theorem dX1_judgeTwist_28 : decode cX1_judgeTwist 28 = .ok (.iconst 1, 1) := by decide +kernel
theorem dX1_judgeTwist_29 : decode cX1_judgeTwist 29 = .ok (.istore 4, 2) := by decide +kernel
theorem dX1_judgeTwist_31 : decode cX1_judgeTwist 31 = .ok (.iconst 1, 1) := by decide +kernel
theorem dX1_judgeTwist_32 : decode cX1_judgeTwist 32 = .ok (.istore 5, 2) := by decide +kernel
theorem dX1_judgeTwist_34 : decode cX1_judgeTwist 34 = .ok (.iload 5, 2) := by decide +kernel
theorem dX1_judgeTwist_36 : decode cX1_judgeTwist 36 = .ok (.aload_n 0, 1) := by decide +kernel
theorem dX1_judgeTwist_37 : decode cX1_judgeTwist 37 = .ok (.getfield 10, 3) := by decide +kernel
theorem dX1_judgeTwist_40 : decode cX1_judgeTwist 40 = .ok (.invokevirtual 77, 3) := by decide +kernel
theorem dX1_judgeTwist_43 : decode cX1_judgeTwist 43 = .ok (.if_icmp .ge 53, 3) := by decide +kernel
theorem dX1_judgeTwist_46 : decode cX1_judgeTwist 46 = .ok (.iload 4, 2) := by decide +kernel
theorem dX1_judgeTwist_48 : decode cX1_judgeTwist 48 = .ok (.iload 5, 2) := by decide +kernel
theorem dX1_judgeTwist_50 : decode cX1_judgeTwist 50 = .ok (.invokestatic 81, 3) := by decide +kernel
theorem dX1_judgeTwist_53 : decode cX1_judgeTwist 53 = .ok (.imul, 1) := by decide +kernel
theorem dX1_judgeTwist_54 : decode cX1_judgeTwist 54 = .ok (.ifCond .ge 7, 3) := by decide +kernel
theorem dX1_judgeTwist_57 : decode cX1_judgeTwist 57 = .ok (.iconst 1, 1) := by decide +kernel
theorem dX1_judgeTwist_58 : decode cX1_judgeTwist 58 = .ok (.goto 4, 3) := by decide +kernel
theorem dX1_judgeTwist_61 : decode cX1_judgeTwist 61 = .ok (.iconst 0, 1) := by decide +kernel
theorem dX1_judgeTwist_62 : decode cX1_judgeTwist 62 = .ok (.istore 6, 2) := by decide +kernel
theorem dX1_judgeTwist_64 : decode cX1_judgeTwist 64 = .ok (.aload_n 1, 1) := by decide +kernel
theorem dX1_judgeTwist_65 : decode cX1_judgeTwist 65 = .ok (.getfield 67, 3) := by decide +kernel
theorem dX1_judgeTwist_68 : decode cX1_judgeTwist 68 = .ok (.aload_n 0, 1) := by decide +kernel
theorem dX1_judgeTwist_69 : decode cX1_judgeTwist 69 = .ok (.getfield 10, 3) := by decide +kernel
theorem dX1_judgeTwist_72 : decode cX1_judgeTwist 72 = .ok (.aload_n 1, 1) := by decide +kernel
theorem dX1_judgeTwist_73 : decode cX1_judgeTwist 73 = .ok (.getfield 26, 3) := by decide +kernel
theorem dX1_judgeTwist_76 : decode cX1_judgeTwist 76 = .ok (.iload 5, 2) := by decide +kernel
theorem dX1_judgeTwist_78 : decode cX1_judgeTwist 78 = .ok (.invokevirtual 63, 3) := by decide +kernel
theorem dX1_judgeTwist_81 : decode cX1_judgeTwist 81 = .ok (.invokestatic 71, 3) := by decide +kernel
theorem dX1_judgeTwist_84 : decode cX1_judgeTwist 84 = .ok (.iload 6, 2) := by decide +kernel
theorem dX1_judgeTwist_86 : decode cX1_judgeTwist 86 = .ok (.if_icmp .eq 4, 3) := by decide +kernel
theorem dX1_judgeTwist_89 : decode cX1_judgeTwist 89 = .ok (.return_, 1) := by decide +kernel
theorem dX1_judgeTwist_90 : decode cX1_judgeTwist 90 = .ok (.iinc 5 1, 3) := by decide +kernel
theorem dX1_judgeTwist_93 : decode cX1_judgeTwist 93 = .ok (.goto (-59), 3) := by decide +kernel
theorem dX1_judgeTwist_96 : decode cX1_judgeTwist 96 = .ok (.aload_n 0, 1) := by decide +kernel
theorem dX1_judgeTwist_97 : decode cX1_judgeTwist 97 = .ok (.getfield 16, 3) := by decide +kernel
theorem dX1_judgeTwist_100 : decode cX1_judgeTwist 100 = .ok (.ifCond .ne 14, 3) := by decide +kernel
theorem dX1_judgeTwist_103 : decode cX1_judgeTwist 103 = .ok (.aload_n 0, 1) := by decide +kernel
theorem dX1_judgeTwist_104 : decode cX1_judgeTwist 104 = .ok (.iload_n 2, 1) := by decide +kernel
theorem dX1_judgeTwist_105 : decode cX1_judgeTwist 105 = .ok (.putfield 20, 3) := by decide +kernel
theorem dX1_judgeTwist_108 : decode cX1_judgeTwist 108 = .ok (.aload_n 0, 1) := by decide +kernel
theorem dX1_judgeTwist_109 : decode cX1_judgeTwist 109 = .ok (.iload 4, 2) := by decide +kernel
theorem dX1_judgeTwist_111 : decode cX1_judgeTwist 111 = .ok (.putfield 23, 3) := by decide +kernel
theorem dX1_judgeTwist_114 : decode cX1_judgeTwist 114 = .ok (.aload_n 0, 1) := by decide +kernel
theorem dX1_judgeTwist_115 : decode cX1_judgeTwist 115 = .ok (.dup, 1) := by decide +kernel
theorem dX1_judgeTwist_116 : decode cX1_judgeTwist 116 = .ok (.getfield 16, 3) := by decide +kernel
theorem dX1_judgeTwist_119 : decode cX1_judgeTwist 119 = .ok (.iconst 1, 1) := by decide +kernel
theorem dX1_judgeTwist_120 : decode cX1_judgeTwist 120 = .ok (.iadd, 1) := by decide +kernel
theorem dX1_judgeTwist_121 : decode cX1_judgeTwist 121 = .ok (.putfield 16, 3) := by decide +kernel
theorem dX1_judgeTwist_124 : decode cX1_judgeTwist 124 = .ok (.return_, 1) := by decide +kernel
theorem dX2_init_0 : decode cX2_init 0 = .ok (.aload_n 0, 1) := by decide +kernel
theorem dX2_init_1 : decode cX2_init 1 = .ok (.invokespecial 3, 3) := by decide +kernel
theorem dX2_init_4 : decode cX2_init 4 = .ok (.aload_n 0, 1) := by decide +kernel
theorem dX2_init_5 : decode cX2_init 5 = .ok (.iconst 0, 1) := by decide +kernel
theorem dX2_init_6 : decode cX2_init 6 = .ok (.putfield 9, 3) := by decide +kernel
theorem dX2_init_9 : decode cX2_init 9 = .ok (.aload_n 0, 1) := by decide +kernel
theorem dX2_init_10 : decode cX2_init 10 = .ok (.iconst 0, 1) := by decide +kernel
theorem dX2_init_11 : decode cX2_init 11 = .ok (.putfield 15, 3) := by decide +kernel
theorem dX2_init_14 : decode cX2_init 14 = .ok (.aload_n 0, 1) := by decide +kernel
theorem dX2_init_15 : decode cX2_init 15 = .ok (.iconst 0, 1) := by decide +kernel
theorem dX2_init_16 : decode cX2_init 16 = .ok (.putfield 18, 3) := by decide +kernel
theorem dX2_init_19 : decode cX2_init 19 = .ok (.aload_n 0, 1) := by decide +kernel
theorem dX2_init_20 : decode cX2_init 20 = .ok (.iconst 0, 1) := by decide +kernel
theorem dX2_init_21 : decode cX2_init 21 = .ok (.putfield 21, 3) := by decide +kernel
theorem dX2_init_24 : decode cX2_init 24 = .ok (.aload_n 0, 1) := by decide +kernel
theorem dX2_init_25 : decode cX2_init 25 = .ok (.bipush 20, 2) := by decide +kernel
theorem dX2_init_27 : decode cX2_init 27 = .ok (.newarray .long, 2) := by decide +kernel
theorem dX2_init_29 : decode cX2_init 29 = .ok (.putfield 24, 3) := by decide +kernel
theorem dX2_init_32 : decode cX2_init 32 = .ok (.aload_n 0, 1) := by decide +kernel
theorem dX2_init_33 : decode cX2_init 33 = .ok (.bipush 6, 2) := by decide +kernel
theorem dX2_init_35 : decode cX2_init 35 = .ok (.newarray .long, 2) := by decide +kernel
theorem dX2_init_37 : decode cX2_init 37 = .ok (.putfield 28, 3) := by decide +kernel
theorem dX2_init_40 : decode cX2_init 40 = .ok (.aload_n 0, 1) := by decide +kernel
theorem dX2_init_41 : decode cX2_init 41 = .ok (.bipush 20, 2) := by decide +kernel
theorem dX2_init_43 : decode cX2_init 43 = .ok (.newarray .int, 2) := by decide +kernel
theorem dX2_init_45 : decode cX2_init 45 = .ok (.putfield 31, 3) := by decide +kernel
theorem dX2_init_48 : decode cX2_init 48 = .ok (.aload_n 0, 1) := by decide +kernel
theorem dX2_init_49 : decode cX2_init 49 = .ok (.bipush 20, 2) := by decide +kernel
theorem dX2_init_51 : decode cX2_init 51 = .ok (.newarray .int, 2) := by decide +kernel
theorem dX2_init_53 : decode cX2_init 53 = .ok (.putfield 35, 3) := by decide +kernel
theorem dX2_init_56 : decode cX2_init 56 = .ok (.return_, 1) := by decide +kernel
theorem dX2_isParts_0 : decode cX2_isParts 0 = .ok (.iload_n 0, 1) := by decide +kernel
theorem dX2_isParts_1 : decode cX2_isParts 1 = .ok (.iconst 2, 1) := by decide +kernel
theorem dX2_isParts_2 : decode cX2_isParts 2 = .ok (.if_icmp .lt 13, 3) := by decide +kernel
theorem dX2_isParts_5 : decode cX2_isParts 5 = .ok (.iload_n 0, 1) := by decide +kernel
theorem dX2_isParts_6 : decode cX2_isParts 6 = .ok (.bipush 6, 2) := by decide +kernel
theorem dX2_isParts_8 : decode cX2_isParts 8 = .ok (.if_icmp .gt 7, 3) := by decide +kernel
theorem dX2_isParts_11 : decode cX2_isParts 11 = .ok (.iconst 1, 1) := by decide +kernel
theorem dX2_isParts_12 : decode cX2_isParts 12 = .ok (.goto 4, 3) := by decide +kernel
theorem dX2_isParts_15 : decode cX2_isParts 15 = .ok (.iconst 0, 1) := by decide +kernel
theorem dX2_isParts_16 : decode cX2_isParts 16 = .ok (.ireturn, 1) := by decide +kernel
theorem dX2_isLookedFor_0 : decode cX2_isLookedFor 0 = .ok (.aload_n 0, 1) := by decide +kernel
theorem dX2_isLookedFor_1 : decode cX2_isLookedFor 1 = .ok (.getfield 38, 3) := by decide +kernel
theorem dX2_isLookedFor_4 : decode cX2_isLookedFor 4 = .ok (.aload_n 0, 1) := by decide +kernel
theorem dX2_isLookedFor_5 : decode cX2_isLookedFor 5 = .ok (.getfield 41, 3) := by decide +kernel
theorem dX2_isLookedFor_8 : decode cX2_isLookedFor 8 = .ok (.aload_n 0, 1) := by decide +kernel
theorem dX2_isLookedFor_9 : decode cX2_isLookedFor 9 = .ok (.getfield 44, 3) := by decide +kernel
theorem dX2_isLookedFor_12 : decode cX2_isLookedFor 12 = .ok (.iconst 1, 1) := by decide +kernel
theorem dX2_isLookedFor_13 : decode cX2_isLookedFor 13 = .ok (.isub, 1) := by decide +kernel
theorem dX2_isLookedFor_14 : decode cX2_isLookedFor 14 = .ok (.if_icmp .ne 8, 3) := by decide +kernel
theorem dX2_isLookedFor_17 : decode cX2_isLookedFor 17 = .ok (.bipush 20, 2) := by decide +kernel
theorem dX2_isLookedFor_19 : decode cX2_isLookedFor 19 = .ok (.goto 5, 3) := by decide +kernel
theorem dX2_isLookedFor_22 : decode cX2_isLookedFor 22 = .ok (.bipush 10, 2) := by decide +kernel
theorem dX2_isLookedFor_24 : decode cX2_isLookedFor 24 = .ok (.if_icmp .gt 7, 3) := by decide +kernel
theorem dX2_isLookedFor_27 : decode cX2_isLookedFor 27 = .ok (.iconst 1, 1) := by decide +kernel
theorem dX2_isLookedFor_28 : decode cX2_isLookedFor 28 = .ok (.goto 4, 3) := by decide +kernel
theorem dX2_isLookedFor_31 : decode cX2_isLookedFor 31 = .ok (.iconst 0, 1) := by decide +kernel
theorem dX2_isLookedFor_32 : decode cX2_isLookedFor 32 = .ok (.ireturn, 1) := by decide +kernel
theorem dX2_firstOf_0 : decode cX2_firstOf 0 = .ok (.iload_n 1, 1) := by decide +kernel
theorem dX2_firstOf_1 : decode cX2_firstOf 1 = .ok (.ifCond .lt 20, 3) := by decide +kernel
theorem dX2_firstOf_4 : decode cX2_firstOf 4 = .ok (.iload_n 1, 1) := by decide +kernel
theorem dX2_firstOf_5 : decode cX2_firstOf 5 = .ok (.aload_n 0, 1) := by decide +kernel
theorem dX2_firstOf_6 : decode cX2_firstOf 6 = .ok (.getfield 21, 3) := by decide +kernel
theorem dX2_firstOf_9 : decode cX2_firstOf 9 = .ok (.if_icmp .ge 12, 3) := by decide +kernel
theorem dX2_firstOf_12 : decode cX2_firstOf 12 = .ok (.aload_n 0, 1) := by decide +kernel
theorem dX2_firstOf_13 : decode cX2_firstOf 13 = .ok (.getfield 35, 3) := by decide +kernel
theorem dX2_firstOf_16 : decode cX2_firstOf 16 = .ok (.iload_n 1, 1) := by decide +kernel
theorem dX2_firstOf_17 : decode cX2_firstOf 17 = .ok (.iaload, 1) := by decide +kernel
theorem dX2_firstOf_18 : decode cX2_firstOf 18 = .ok (.goto 5, 3) := by decide +kernel
theorem dX2_firstOf_21 : decode cX2_firstOf 21 = .ok (.bipush (-5), 2) := by decide +kernel
theorem dX2_firstOf_23 : decode cX2_firstOf 23 = .ok (.ireturn, 1) := by decide +kernel
theorem dX2_look_0 : decode cX2_look 0 = .ok (.bipush 10, 2) := by decide +kernel
theorem dX2_look_2 : decode cX2_look 2 = .ok (.aload_n 1, 1) := by decide +kernel
theorem dX2_look_3 : decode cX2_look 3 = .ok (.invokevirtual 47, 3) := by decide +kernel
theorem dX2_look_6 : decode cX2_look 6 = .ok (.imul, 1) := by decide +kernel
theorem dX2_look_7 : decode cX2_look 7 = .ok (.iload_n 2, 1) := by decide +kernel
theorem dX2_look_8 : decode cX2_look 8 = .ok (.iadd, 1) := by decide +kernel
theorem dX2_look_9 : decode cX2_look 9 = .ok (.istore_n 3, 1) := by decide +kernel
theorem dX2_look_10 : decode cX2_look 10 = .ok (.iload_n 3, 1) := by decide +kernel
theorem dX2_look_11 : decode cX2_look 11 = .ok (.aload_n 0, 1) := by decide +kernel
theorem dX2_look_12 : decode cX2_look 12 = .ok (.getfield 15, 3) := by decide +kernel
theorem dX2_look_15 : decode cX2_look 15 = .ok (.if_icmp .eq 17, 3) := by decide +kernel
theorem dX2_look_18 : decode cX2_look 18 = .ok (.iload_n 2, 1) := by decide +kernel
theorem dX2_look_19 : decode cX2_look 19 = .ok (.invokestatic 51, 3) := by decide +kernel
theorem dX2_look_22 : decode cX2_look 22 = .ok (.ifCond .eq 10, 3) := by decide +kernel
theorem dX2_look_25 : decode cX2_look 25 = .ok (.aload_n 1, 1) := by decide +kernel
theorem dX2_look_26 : decode cX2_look 26 = .ok (.invokestatic 55, 3) := by decide +kernel
theorem dX2_look_29 : decode cX2_look 29 = .ok (.ifCond .ne 4, 3) := by decide +kernel
theorem dX2_look_32 : decode cX2_look 32 = .ok (.return_, 1) := by decide +kernel
theorem dX2_look_33 : decode cX2_look 33 = .ok (.aload_n 0, 1) := by decide +kernel
theorem dX2_look_34 : decode cX2_look 34 = .ok (.iload_n 3, 1) := by decide +kernel
theorem dX2_look_35 : decode cX2_look 35 = .ok (.putfield 15, 3) := by decide +kernel
theorem dX2_look_38 : decode cX2_look 38 = .ok (.aload_n 0, 1) := by decide +kernel
theorem dX2_look_39 : decode cX2_look 39 = .ok (.iconst 0, 1) := by decide +kernel
theorem dX2_look_40 : decode cX2_look 40 = .ok (.putfield 9, 3) := by decide +kernel
theorem dX2_look_43 : decode cX2_look 43 = .ok (.aload_n 0, 1) := by decide +kernel
theorem dX2_look_44 : decode cX2_look 44 = .ok (.iload_n 2, 1) := by decide +kernel
theorem dX2_look_45 : decode cX2_look 45 = .ok (.putfield 18, 3) := by decide +kernel
theorem dX2_look_48 : decode cX2_look 48 = .ok (.aload_n 0, 1) := by decide +kernel
theorem dX2_look_49 : decode cX2_look 49 = .ok (.aload_n 1, 1) := by decide +kernel
theorem dX2_look_50 : decode cX2_look 50 = .ok (.getfield 38, 3) := by decide +kernel
theorem dX2_look_53 : decode cX2_look 53 = .ok (.putfield 21, 3) := by decide +kernel
theorem dX2_look_56 : decode cX2_look 56 = .ok (.aload_n 1, 1) := by decide +kernel
theorem dX2_look_57 : decode cX2_look 57 = .ok (.iconst 1, 1) := by decide +kernel
theorem dX2_look_58 : decode cX2_look 58 = .ok (.aload_n 1, 1) := by decide +kernel
theorem dX2_look_59 : decode cX2_look 59 = .ok (.getfield 41, 3) := by decide +kernel
theorem dX2_look_62 : decode cX2_look 62 = .ok (.ishl, 1) := by decide +kernel
theorem dX2_look_63 : decode cX2_look 63 = .ok (.iconst 1, 1) := by decide +kernel
theorem dX2_look_64 : decode cX2_look 64 = .ok (.isub, 1) := by decide +kernel
theorem dX2_look_65 : decode cX2_look 65 = .ok (.invokevirtual 59, 3) := by decide +kernel
theorem dX2_look_68 : decode cX2_look 68 = .ok (.istore 4, 2) := by decide +kernel
theorem dX2_look_70 : decode cX2_look 70 = .ok (.iload 4, 2) := by decide +kernel
theorem dX2_look_72 : decode cX2_look 72 = .ok (.iload_n 2, 1) := by decide +kernel
theorem dX2_look_73 : decode cX2_look 73 = .ok (.irem, 1) := by decide +kernel
theorem dX2_look_74 : decode cX2_look 74 = .ok (.ifCond .eq 4, 3) := by decide +kernel
theorem dX2_look_77 : decode cX2_look 77 = .ok (.return_, 1) := by decide +kernel
theorem dX2_look_78 : decode cX2_look 78 = .ok (.aload_n 0, 1) := by decide +kernel
theorem dX2_look_79 : decode cX2_look 79 = .ok (.iload 4, 2) := by decide +kernel
theorem dX2_look_81 : decode cX2_look 81 = .ok (.iload_n 2, 1) := by decide +kernel
theorem dX2_look_82 : decode cX2_look 82 = .ok (.idiv, 1) := by decide +kernel
theorem dX2_look_83 : decode cX2_look 83 = .ok (.invokevirtual 63, 3) := by decide +kernel
theorem dX2_look_86 : decode cX2_look 86 = .ok (.iconst 0, 1) := by decide +kernel
theorem dX2_look_87 : decode cX2_look 87 = .ok (.istore 5, 2) := by decide +kernel
theorem dX2_look_89 : decode cX2_look 89 = .ok (.iload 5, 2) := by decide +kernel
theorem dX2_look_91 : decode cX2_look 91 = .ok (.aload_n 0, 1) := by decide +kernel
theorem dX2_look_92 : decode cX2_look 92 = .ok (.getfield 21, 3) := by decide +kernel
theorem dX2_look_95 : decode cX2_look 95 = .ok (.if_icmp .ge 22, 3) := by decide +kernel
theorem dX2_look_98 : decode cX2_look 98 = .ok (.aload_n 0, 1) := by decide +kernel
theorem dX2_look_99 : decode cX2_look 99 = .ok (.getfield 24, 3) := by decide +kernel
theorem dX2_look_102 : decode cX2_look 102 = .ok (.iload 5, 2) := by decide +kernel
theorem dX2_look_104 : decode cX2_look 104 = .ok (.aload_n 1, 1) := by decide +kernel
theorem dX2_look_105 : decode cX2_look 105 = .ok (.iload 5, 2) := by decide +kernel
theorem dX2_look_107 : decode cX2_look 107 = .ok (.invokestatic 67, 3) := by decide +kernel
theorem dX2_look_110 : decode cX2_look 110 = .ok (.lastore, 1) := by decide +kernel
theorem dX2_look_111 : decode cX2_look 111 = .ok (.iinc 5 1, 3) := by decide +kernel
theorem dX2_look_114 : decode cX2_look 114 = .ok (.goto (-25), 3) := by decide +kernel
theorem dX2_look_117 : decode cX2_look 117 = .ok (.aload_n 0, 1) := by decide +kernel
theorem dX2_look_118 : decode cX2_look 118 = .ok (.iconst 0, 1) := by decide +kernel
theorem dX2_look_119 : decode cX2_look 119 = .ok (.iconst 0, 1) := by decide +kernel
theorem dX2_look_120 : decode cX2_look 120 = .ok (.invokestatic 71, 3) := by decide +kernel
theorem dX2_look_123 : decode cX2_look 123 = .ok (.return_, 1) := by decide +kernel
theorem dX2_startTallies_0 : decode cX2_startTallies 0 = .ok (.lconst 0, 1) := by decide +kernel
theorem dX2_startTallies_1 : decode cX2_startTallies 1 = .ok (.lstore_n 2, 1) := by decide +kernel
theorem dX2_startTallies_2 : decode cX2_startTallies 2 = .ok (.iconst 0, 1) := by decide +kernel
theorem dX2_startTallies_3 : decode cX2_startTallies 3 = .ok (.istore 4, 2) := by decide +kernel
theorem dX2_startTallies_5 : decode cX2_startTallies 5 = .ok (.iload 4, 2) := by decide +kernel
theorem dX2_startTallies_7 : decode cX2_startTallies 7 = .ok (.bipush 15, 2) := by decide +kernel
theorem dX2_startTallies_9 : decode cX2_startTallies 9 = .ok (.if_icmp .ge 22, 3) := by decide +kernel
theorem dX2_startTallies_12 : decode cX2_startTallies 12 = .ok (.lload_n 2, 1) := by decide +kernel
theorem dX2_startTallies_13 : decode cX2_startTallies 13 = .ok (.bipush 7, 2) := by decide +kernel
theorem dX2_startTallies_15 : decode cX2_startTallies 15 = .ok (.iload_n 1, 1) := by decide +kernel
theorem dX2_startTallies_16 : decode cX2_startTallies 16 = .ok (.isub, 1) := by decide +kernel
theorem dX2_startTallies_17 : decode cX2_startTallies 17 = .ok (.i2l, 1) := by decide +kernel
theorem dX2_startTallies_18 : decode cX2_startTallies 18 = .ok (.iconst 4, 1) := by decide +kernel
theorem dX2_startTallies_19 : decode cX2_startTallies 19 = .ok (.iload 4, 2) := by decide +kernel
theorem dX2_startTallies_21 : decode cX2_startTallies 21 = .ok (.imul, 1) := by decide +kernel
theorem dX2_startTallies_22 : decode cX2_startTallies 22 = .ok (.lshl, 1) := by decide +kernel
theorem dX2_startTallies_23 : decode cX2_startTallies 23 = .ok (.lor, 1) := by decide +kernel
theorem dX2_startTallies_24 : decode cX2_startTallies 24 = .ok (.lstore_n 2, 1) := by decide +kernel
theorem dX2_startTallies_25 : decode cX2_startTallies 25 = .ok (.iinc 4 1, 3) := by decide +kernel
theorem dX2_startTallies_28 : decode cX2_startTallies 28 = .ok (.goto (-23), 3) := by decide +kernel
theorem dX2_startTallies_31 : decode cX2_startTallies 31 = .ok (.iconst 0, 1) := by decide +kernel
theorem dX2_startTallies_32 : decode cX2_startTallies 32 = .ok (.istore 4, 2) := by decide +kernel
theorem dX2_startTallies_34 : decode cX2_startTallies 34 = .ok (.iload 4, 2) := by decide +kernel
theorem dX2_startTallies_36 : decode cX2_startTallies 36 = .ok (.aload_n 0, 1) := by decide +kernel
theorem dX2_startTallies_37 : decode cX2_startTallies 37 = .ok (.getfield 18, 3) := by decide +kernel
theorem dX2_startTallies_40 : decode cX2_startTallies 40 = .ok (.if_icmp .ge 17, 3) := by decide +kernel
theorem dX2_startTallies_43 : decode cX2_startTallies 43 = .ok (.aload_n 0, 1) := by decide +kernel
theorem dX2_startTallies_44 : decode cX2_startTallies 44 = .ok (.getfield 28, 3) := by decide +kernel
theorem dX2_startTallies_47 : decode cX2_startTallies 47 = .ok (.iload 4, 2) := by decide +kernel
theorem dX2_startTallies_49 : decode cX2_startTallies 49 = .ok (.lload_n 2, 1) := by decide +kernel
theorem dX2_startTallies_50 : decode cX2_startTallies 50 = .ok (.lastore, 1) := by decide +kernel
theorem dX2_startTallies_51 : decode cX2_startTallies 51 = .ok (.iinc 4 1, 3) := by decide +kernel
theorem dX2_startTallies_54 : decode cX2_startTallies 54 = .ok (.goto (-20), 3) := by decide +kernel
theorem dX2_startTallies_57 : decode cX2_startTallies 57 = .ok (.return_, 1) := by decide +kernel
theorem dX2_stepOf_0 : decode cX2_stepOf 0 = .ok (.lconst 0, 1) := by decide +kernel
theorem dX2_stepOf_1 : decode cX2_stepOf 1 = .ok (.lstore_n 2, 1) := by decide +kernel
theorem dX2_stepOf_2 : decode cX2_stepOf 2 = .ok (.iconst 0, 1) := by decide +kernel
theorem dX2_stepOf_3 : decode cX2_stepOf 3 = .ok (.istore 4, 2) := by decide +kernel
theorem dX2_stepOf_5 : decode cX2_stepOf 5 = .ok (.iload 4, 2) := by decide +kernel
theorem dX2_stepOf_7 : decode cX2_stepOf 7 = .ok (.aload_n 0, 1) := by decide +kernel
theorem dX2_stepOf_8 : decode cX2_stepOf 8 = .ok (.getfield 75, 3) := by decide +kernel
theorem dX2_stepOf_11 : decode cX2_stepOf 11 = .ok (.if_icmp .ge 51, 3) := by decide +kernel
theorem dX2_stepOf_14 : decode cX2_stepOf 14 = .ok (.aload_n 0, 1) := by decide +kernel
theorem dX2_stepOf_15 : decode cX2_stepOf 15 = .ok (.iload_n 1, 1) := by decide +kernel
theorem dX2_stepOf_16 : decode cX2_stepOf 16 = .ok (.iconst 1, 1) := by decide +kernel
theorem dX2_stepOf_17 : decode cX2_stepOf 17 = .ok (.iload 4, 2) := by decide +kernel
theorem dX2_stepOf_19 : decode cX2_stepOf 19 = .ok (.ishl, 1) := by decide +kernel
theorem dX2_stepOf_20 : decode cX2_stepOf 20 = .ok (.invokevirtual 78, 3) := by decide +kernel
theorem dX2_stepOf_23 : decode cX2_stepOf 23 = .ok (.ifCond .eq 33, 3) := by decide +kernel
theorem dX2_stepOf_26 : decode cX2_stepOf 26 = .ok (.aload_n 0, 1) := by decide +kernel
theorem dX2_stepOf_27 : decode cX2_stepOf 27 = .ok (.getfield 41, 3) := by decide +kernel
theorem dX2_stepOf_30 : decode cX2_stepOf 30 = .ok (.iconst 1, 1) := by decide +kernel
theorem dX2_stepOf_31 : decode cX2_stepOf 31 = .ok (.if_icmp .ne 15, 3) := by decide +kernel
theorem dX2_stepOf_34 : decode cX2_stepOf 34 = .ok (.lload_n 2, 1) := by decide +kernel
theorem dX2_stepOf_35 : decode cX2_stepOf 35 = .ok (.lconst 1, 1) := by decide +kernel
theorem dX2_stepOf_36 : decode cX2_stepOf 36 = .ok (.iconst 4, 1) := by decide +kernel
theorem dX2_stepOf_37 : decode cX2_stepOf 37 = .ok (.iload 4, 2) := by decide +kernel
theorem dX2_stepOf_39 : decode cX2_stepOf 39 = .ok (.imul, 1) := by decide +kernel
theorem dX2_stepOf_40 : decode cX2_stepOf 40 = .ok (.lshl, 1) := by decide +kernel
theorem dX2_stepOf_41 : decode cX2_stepOf 41 = .ok (.ladd, 1) := by decide +kernel
theorem dX2_stepOf_42 : decode cX2_stepOf 42 = .ok (.lstore_n 2, 1) := by decide +kernel
theorem dX2_stepOf_43 : decode cX2_stepOf 43 = .ok (.goto 13, 3) := by decide +kernel
theorem dX2_stepOf_46 : decode cX2_stepOf 46 = .ok (.lload_n 2, 1) := by decide +kernel
theorem dX2_stepOf_47 : decode cX2_stepOf 47 = .ok (.aload_n 0, 1) := by decide +kernel
theorem dX2_stepOf_48 : decode cX2_stepOf 48 = .ok (.iload_n 1, 1) := by decide +kernel
theorem dX2_stepOf_49 : decode cX2_stepOf 49 = .ok (.iload 4, 2) := by decide +kernel
theorem dX2_stepOf_51 : decode cX2_stepOf 51 = .ok (.invokestatic 82, 3) := by decide +kernel
theorem dX2_stepOf_54 : decode cX2_stepOf 54 = .ok (.ladd, 1) := by decide +kernel
theorem dX2_stepOf_55 : decode cX2_stepOf 55 = .ok (.lstore_n 2, 1) := by decide +kernel
theorem dX2_stepOf_56 : decode cX2_stepOf 56 = .ok (.iinc 4 1, 3) := by decide +kernel
theorem dX2_stepOf_59 : decode cX2_stepOf 59 = .ok (.goto (-54), 3) := by decide +kernel
theorem dX2_stepOf_62 : decode cX2_stepOf 62 = .ok (.lload_n 2, 1) := by decide +kernel
theorem dX2_stepOf_63 : decode cX2_stepOf 63 = .ok (.lreturn, 1) := by decide +kernel
theorem dX2_stepOfPairs_0 : decode cX2_stepOfPairs 0 = .ok (.lconst 0, 1) := by decide +kernel
theorem dX2_stepOfPairs_1 : decode cX2_stepOfPairs 1 = .ok (.lstore_n 3, 1) := by decide +kernel
theorem dX2_stepOfPairs_2 : decode cX2_stepOfPairs 2 = .ok (.iconst 0, 1) := by decide +kernel
theorem dX2_stepOfPairs_3 : decode cX2_stepOfPairs 3 = .ok (.istore 5, 2) := by decide +kernel
theorem dX2_stepOfPairs_5 : decode cX2_stepOfPairs 5 = .ok (.iload 5, 2) := by decide +kernel
theorem dX2_stepOfPairs_7 : decode cX2_stepOfPairs 7 = .ok (.iload_n 2, 1) := by decide +kernel
theorem dX2_stepOfPairs_8 : decode cX2_stepOfPairs 8 = .ok (.if_icmp .ge 38, 3) := by decide +kernel
theorem dX2_stepOfPairs_11 : decode cX2_stepOfPairs 11 = .ok (.aload_n 0, 1) := by decide +kernel
theorem dX2_stepOfPairs_12 : decode cX2_stepOfPairs 12 = .ok (.iload_n 1, 1) := by decide +kernel
theorem dX2_stepOfPairs_13 : decode cX2_stepOfPairs 13 = .ok (.iconst 1, 1) := by decide +kernel
theorem dX2_stepOfPairs_14 : decode cX2_stepOfPairs 14 = .ok (.iload 5, 2) := by decide +kernel
theorem dX2_stepOfPairs_16 : decode cX2_stepOfPairs 16 = .ok (.ishl, 1) := by decide +kernel
theorem dX2_stepOfPairs_17 : decode cX2_stepOfPairs 17 = .ok (.invokevirtual 78, 3) := by decide +kernel
theorem dX2_stepOfPairs_20 : decode cX2_stepOfPairs 20 = .ok (.ifCond .eq 20, 3) := by decide +kernel
theorem dX2_stepOfPairs_23 : decode cX2_stepOfPairs 23 = .ok (.lload_n 3, 1) := by decide +kernel
theorem dX2_stepOfPairs_24 : decode cX2_stepOfPairs 24 = .ok (.lconst 1, 1) := by decide +kernel
theorem dX2_stepOfPairs_25 : decode cX2_stepOfPairs 25 = .ok (.iconst 4, 1) := by decide +kernel
theorem dX2_stepOfPairs_26 : decode cX2_stepOfPairs 26 = .ok (.iload_n 2, 1) := by decide +kernel
theorem dX2_stepOfPairs_27 : decode cX2_stepOfPairs 27 = .ok (.iload_n 2, 1) := by decide +kernel
theorem dX2_stepOfPairs_28 : decode cX2_stepOfPairs 28 = .ok (.iconst 1, 1) := by decide +kernel
theorem dX2_stepOfPairs_29 : decode cX2_stepOfPairs 29 = .ok (.isub, 1) := by decide +kernel
theorem dX2_stepOfPairs_30 : decode cX2_stepOfPairs 30 = .ok (.imul, 1) := by decide +kernel
theorem dX2_stepOfPairs_31 : decode cX2_stepOfPairs 31 = .ok (.iconst 2, 1) := by decide +kernel
theorem dX2_stepOfPairs_32 : decode cX2_stepOfPairs 32 = .ok (.idiv, 1) := by decide +kernel
theorem dX2_stepOfPairs_33 : decode cX2_stepOfPairs 33 = .ok (.iload 5, 2) := by decide +kernel
theorem dX2_stepOfPairs_35 : decode cX2_stepOfPairs 35 = .ok (.iadd, 1) := by decide +kernel
theorem dX2_stepOfPairs_36 : decode cX2_stepOfPairs 36 = .ok (.imul, 1) := by decide +kernel
theorem dX2_stepOfPairs_37 : decode cX2_stepOfPairs 37 = .ok (.lshl, 1) := by decide +kernel
theorem dX2_stepOfPairs_38 : decode cX2_stepOfPairs 38 = .ok (.ladd, 1) := by decide +kernel
theorem dX2_stepOfPairs_39 : decode cX2_stepOfPairs 39 = .ok (.lstore_n 3, 1) := by decide +kernel
theorem dX2_stepOfPairs_40 : decode cX2_stepOfPairs 40 = .ok (.iinc 5 1, 3) := by decide +kernel
theorem dX2_stepOfPairs_43 : decode cX2_stepOfPairs 43 = .ok (.goto (-38), 3) := by decide +kernel
theorem dX2_stepOfPairs_46 : decode cX2_stepOfPairs 46 = .ok (.lload_n 3, 1) := by decide +kernel
theorem dX2_stepOfPairs_47 : decode cX2_stepOfPairs 47 = .ok (.lreturn, 1) := by decide +kernel
theorem dX2_placeBlock_0 : decode cX2_placeBlock 0 = .ok (.iload_n 1, 1) := by decide +kernel
theorem dX2_placeBlock_1 : decode cX2_placeBlock 1 = .ok (.aload_n 0, 1) := by decide +kernel
theorem dX2_placeBlock_2 : decode cX2_placeBlock 2 = .ok (.getfield 21, 3) := by decide +kernel
theorem dX2_placeBlock_5 : decode cX2_placeBlock 5 = .ok (.if_icmp .lt 8, 3) := by decide +kernel
theorem dX2_placeBlock_8 : decode cX2_placeBlock 8 = .ok (.aload_n 0, 1) := by decide +kernel
theorem dX2_placeBlock_9 : decode cX2_placeBlock 9 = .ok (.invokevirtual 86, 3) := by decide +kernel
theorem dX2_placeBlock_12 : decode cX2_placeBlock 12 = .ok (.return_, 1) := by decide +kernel
theorem dX2_placeBlock_13 : decode cX2_placeBlock 13 = .ok (.iload_n 2, 1) := by decide +kernel
theorem dX2_placeBlock_14 : decode cX2_placeBlock 14 = .ok (.iconst 1, 1) := by decide +kernel
theorem dX2_placeBlock_15 : decode cX2_placeBlock 15 = .ok (.iadd, 1) := by decide +kernel
theorem dX2_placeBlock_16 : decode cX2_placeBlock 16 = .ok (.aload_n 0, 1) := by decide +kernel
theorem dX2_placeBlock_17 : decode cX2_placeBlock 17 = .ok (.getfield 18, 3) := by decide +kernel
theorem dX2_placeBlock_20 : decode cX2_placeBlock 20 = .ok (.invokestatic 89, 3) := by decide +kernel
theorem dX2_placeBlock_23 : decode cX2_placeBlock 23 = .ok (.istore_n 3, 1) := by decide +kernel
theorem dX2_placeBlock_24 : decode cX2_placeBlock 24 = .ok (.iconst 0, 1) := by decide +kernel
theorem dX2_placeBlock_25 : decode cX2_placeBlock 25 = .ok (.istore 4, 2) := by decide +kernel
theorem dX2_placeBlock_27 : decode cX2_placeBlock 27 = .ok (.iload 4, 2) := by decide +kernel
theorem dX2_placeBlock_29 : decode cX2_placeBlock 29 = .ok (.iload_n 3, 1) := by decide +kernel
theorem dX2_placeBlock_30 : decode cX2_placeBlock 30 = .ok (.if_icmp .ge 81, 3) := by decide +kernel
theorem dX2_placeBlock_33 : decode cX2_placeBlock 33 = .ok (.aload_n 0, 1) := by decide +kernel
theorem dX2_placeBlock_34 : decode cX2_placeBlock 34 = .ok (.getfield 28, 3) := by decide +kernel
theorem dX2_placeBlock_37 : decode cX2_placeBlock 37 = .ok (.iload 4, 2) := by decide +kernel
theorem dX2_placeBlock_39 : decode cX2_placeBlock 39 = .ok (.laload, 1) := by decide +kernel
theorem dX2_placeBlock_40 : decode cX2_placeBlock 40 = .ok (.lstore 5, 2) := by decide +kernel
theorem dX2_placeBlock_42 : decode cX2_placeBlock 42 = .ok (.lload 5, 2) := by decide +kernel
theorem dX2_placeBlock_44 : decode cX2_placeBlock 44 = .ok (.aload_n 0, 1) := by decide +kernel
theorem dX2_placeBlock_45 : decode cX2_placeBlock 45 = .ok (.getfield 24, 3) := by decide +kernel
theorem dX2_placeBlock_48 : decode cX2_placeBlock 48 = .ok (.iload_n 1, 1) := by decide +kernel
theorem dX2_placeBlock_49 : decode cX2_placeBlock 49 = .ok (.laload, 1) := by decide +kernel
theorem dX2_placeBlock_50 : decode cX2_placeBlock 50 = .ok (.ladd, 1) := by decide +kernel
theorem dX2_placeBlock_51 : decode cX2_placeBlock 51 = .ok (.lstore 7, 2) := by decide +kernel
theorem dX2_placeBlock_53 : decode cX2_placeBlock 53 = .ok (.lload 7, 2) := by decide +kernel
theorem dX2_placeBlock_55 : decode cX2_placeBlock 55 = .ok (.ldc2_w 95, 3) := by decide +kernel
theorem dX2_placeBlock_58 : decode cX2_placeBlock 58 = .ok (.land, 1) := by decide +kernel
theorem dX2_placeBlock_59 : decode cX2_placeBlock 59 = .ok (.lconst 0, 1) := by decide +kernel
theorem dX2_placeBlock_60 : decode cX2_placeBlock 60 = .ok (.lcmp, 1) := by decide +kernel
theorem dX2_placeBlock_61 : decode cX2_placeBlock 61 = .ok (.ifCond .ne 44, 3) := by decide +kernel
theorem dX2_placeBlock_64 : decode cX2_placeBlock 64 = .ok (.aload_n 0, 1) := by decide +kernel
theorem dX2_placeBlock_65 : decode cX2_placeBlock 65 = .ok (.getfield 28, 3) := by decide +kernel
theorem dX2_placeBlock_68 : decode cX2_placeBlock 68 = .ok (.iload 4, 2) := by decide +kernel
theorem dX2_placeBlock_70 : decode cX2_placeBlock 70 = .ok (.lload 7, 2) := by decide +kernel
theorem dX2_placeBlock_72 : decode cX2_placeBlock 72 = .ok (.lastore, 1) := by decide +kernel
theorem dX2_placeBlock_73 : decode cX2_placeBlock 73 = .ok (.aload_n 0, 1) := by decide +kernel
theorem dX2_placeBlock_74 : decode cX2_placeBlock 74 = .ok (.getfield 31, 3) := by decide +kernel
theorem dX2_placeBlock_77 : decode cX2_placeBlock 77 = .ok (.iload_n 1, 1) := by decide +kernel
theorem dX2_placeBlock_78 : decode cX2_placeBlock 78 = .ok (.iload 4, 2) := by decide +kernel
theorem dX2_placeBlock_80 : decode cX2_placeBlock 80 = .ok (.iastore, 1) := by decide +kernel
theorem dX2_placeBlock_81 : decode cX2_placeBlock 81 = .ok (.aload_n 0, 1) := by decide +kernel
theorem dX2_placeBlock_82 : decode cX2_placeBlock 82 = .ok (.iload_n 1, 1) := by decide +kernel
theorem dX2_placeBlock_83 : decode cX2_placeBlock 83 = .ok (.iconst 1, 1) := by decide +kernel
theorem dX2_placeBlock_84 : decode cX2_placeBlock 84 = .ok (.iadd, 1) := by decide +kernel
theorem dX2_placeBlock_85 : decode cX2_placeBlock 85 = .ok (.iload_n 2, 1) := by decide +kernel
theorem dX2_placeBlock_86 : decode cX2_placeBlock 86 = .ok (.iload 4, 2) := by decide +kernel
theorem dX2_placeBlock_88 : decode cX2_placeBlock 88 = .ok (.iconst 1, 1) := by decide +kernel
theorem dX2_placeBlock_89 : decode cX2_placeBlock 89 = .ok (.iadd, 1) := by decide +kernel
theorem dX2_placeBlock_90 : decode cX2_placeBlock 90 = .ok (.invokestatic 97, 3) := by decide +kernel
theorem dX2_placeBlock_93 : decode cX2_placeBlock 93 = .ok (.invokestatic 71, 3) := by decide +kernel
theorem dX2_placeBlock_96 : decode cX2_placeBlock 96 = .ok (.aload_n 0, 1) := by decide +kernel
theorem dX2_placeBlock_97 : decode cX2_placeBlock 97 = .ok (.getfield 28, 3) := by decide +kernel
theorem dX2_placeBlock_100 : decode cX2_placeBlock 100 = .ok (.iload 4, 2) := by decide +kernel
theorem dX2_placeBlock_102 : decode cX2_placeBlock 102 = .ok (.lload 5, 2) := by decide +kernel
theorem dX2_placeBlock_104 : decode cX2_placeBlock 104 = .ok (.lastore, 1) := by decide +kernel
theorem dX2_placeBlock_105 : decode cX2_placeBlock 105 = .ok (.iinc 4 1, 3) := by decide +kernel
theorem dX2_placeBlock_108 : decode cX2_placeBlock 108 = .ok (.goto (-81), 3) := by decide +kernel
theorem dX2_placeBlock_111 : decode cX2_placeBlock 111 = .ok (.return_, 1) := by decide +kernel
theorem dX2_addWay_0 : decode cX2_addWay 0 = .ok (.aload_n 0, 1) := by decide +kernel
theorem dX2_addWay_1 : decode cX2_addWay 1 = .ok (.getfield 9, 3) := by decide +kernel
theorem dX2_addWay_4 : decode cX2_addWay 4 = .ok (.ifCond .ne 18, 3) := by decide +kernel
theorem dX2_addWay_7 : decode cX2_addWay 7 = .ok (.aload_n 0, 1) := by decide +kernel
theorem dX2_addWay_8 : decode cX2_addWay 8 = .ok (.getfield 31, 3) := by decide +kernel
theorem dX2_addWay_11 : decode cX2_addWay 11 = .ok (.iconst 0, 1) := by decide +kernel
theorem dX2_addWay_12 : decode cX2_addWay 12 = .ok (.aload_n 0, 1) := by decide +kernel
theorem dX2_addWay_13 : decode cX2_addWay 13 = .ok (.getfield 35, 3) := by decide +kernel
theorem dX2_addWay_16 : decode cX2_addWay 16 = .ok (.iconst 0, 1) := by decide +kernel
theorem dX2_addWay_17 : decode cX2_addWay 17 = .ok (.bipush 20, 2) := by decide +kernel
theorem dX2_addWay_19 : decode cX2_addWay 19 = .ok (.invokestatic 100, 3) := by decide +kernel
theorem dX2_addWay_22 : decode cX2_addWay 22 = .ok (.aload_n 0, 1) := by decide +kernel
theorem dX2_addWay_23 : decode cX2_addWay 23 = .ok (.dup, 1) := by decide +kernel
theorem dX2_addWay_24 : decode cX2_addWay 24 = .ok (.getfield 9, 3) := by decide +kernel
theorem dX2_addWay_27 : decode cX2_addWay 27 = .ok (.iconst 1, 1) := by decide +kernel
theorem dX2_addWay_28 : decode cX2_addWay 28 = .ok (.iadd, 1) := by decide +kernel
theorem dX2_addWay_29 : decode cX2_addWay 29 = .ok (.putfield 9, 3) := by decide +kernel
theorem dX2_addWay_32 : decode cX2_addWay 32 = .ok (.return_, 1) := by decide +kernel
theorem dX3_init_0 : decode cX3_init 0 = .ok (.aload_n 0, 1) := by decide +kernel
theorem dX3_init_1 : decode cX3_init 1 = .ok (.invokespecial 3, 3) := by decide +kernel
theorem dX3_init_4 : decode cX3_init 4 = .ok (.aload_n 0, 1) := by decide +kernel
theorem dX3_init_5 : decode cX3_init 5 = .ok (.iconst 0, 1) := by decide +kernel
theorem dX3_init_6 : decode cX3_init 6 = .ok (.putfield 9, 3) := by decide +kernel
theorem dX3_init_9 : decode cX3_init 9 = .ok (.aload_n 0, 1) := by decide +kernel
theorem dX3_init_10 : decode cX3_init 10 = .ok (.iload_n 1, 1) := by decide +kernel
theorem dX3_init_11 : decode cX3_init 11 = .ok (.iconst 0, 1) := by decide +kernel
theorem dX3_init_12 : decode cX3_init 12 = .ok (.invokestatic 15, 3) := by decide +kernel
theorem dX3_init_15 : decode cX3_init 15 = .ok (.newarray .int, 2) := by decide +kernel
theorem dX3_init_17 : decode cX3_init 17 = .ok (.putfield 21, 3) := by decide +kernel
theorem dX3_init_20 : decode cX3_init 20 = .ok (.aload_n 0, 1) := by decide +kernel
theorem dX3_init_21 : decode cX3_init 21 = .ok (.iload_n 1, 1) := by decide +kernel
theorem dX3_init_22 : decode cX3_init 22 = .ok (.iconst 0, 1) := by decide +kernel
theorem dX3_init_23 : decode cX3_init 23 = .ok (.invokestatic 15, 3) := by decide +kernel
theorem dX3_init_26 : decode cX3_init 26 = .ok (.newarray .int, 2) := by decide +kernel
theorem dX3_init_28 : decode cX3_init 28 = .ok (.putfield 25, 3) := by decide +kernel
theorem dX3_init_31 : decode cX3_init 31 = .ok (.return_, 1) := by decide +kernel
theorem dX3_becomeEmpty_0 : decode cX3_becomeEmpty 0 = .ok (.aload_n 0, 1) := by decide +kernel
theorem dX3_becomeEmpty_1 : decode cX3_becomeEmpty 1 = .ok (.iconst 0, 1) := by decide +kernel
theorem dX3_becomeEmpty_2 : decode cX3_becomeEmpty 2 = .ok (.putfield 9, 3) := by decide +kernel
theorem dX3_becomeEmpty_5 : decode cX3_becomeEmpty 5 = .ok (.iconst 0, 1) := by decide +kernel
theorem dX3_becomeEmpty_6 : decode cX3_becomeEmpty 6 = .ok (.ireturn, 1) := by decide +kernel
theorem dX3_addRow_0 : decode cX3_addRow 0 = .ok (.aload_n 0, 1) := by decide +kernel
theorem dX3_addRow_1 : decode cX3_addRow 1 = .ok (.getfield 9, 3) := by decide +kernel
theorem dX3_addRow_4 : decode cX3_addRow 4 = .ok (.aload_n 0, 1) := by decide +kernel
theorem dX3_addRow_5 : decode cX3_addRow 5 = .ok (.getfield 21, 3) := by decide +kernel
theorem dX3_addRow_8 : decode cX3_addRow 8 = .ok (.arraylength, 1) := by decide +kernel
theorem dX3_addRow_9 : decode cX3_addRow 9 = .ok (.if_icmp .lt 6, 3) := by decide +kernel
theorem dX3_addRow_12 : decode cX3_addRow 12 = .ok (.bipush (-4), 2) := by decide +kernel
theorem dX3_addRow_14 : decode cX3_addRow 14 = .ok (.ireturn, 1) := by decide +kernel
theorem dX3_addRow_15 : decode cX3_addRow 15 = .ok (.aload_n 0, 1) := by decide +kernel
theorem dX3_addRow_16 : decode cX3_addRow 16 = .ok (.getfield 21, 3) := by decide +kernel
theorem dX3_addRow_19 : decode cX3_addRow 19 = .ok (.aload_n 0, 1) := by decide +kernel
theorem dX3_addRow_20 : decode cX3_addRow 20 = .ok (.getfield 9, 3) := by decide +kernel
theorem dX3_addRow_23 : decode cX3_addRow 23 = .ok (.iload_n 1, 1) := by decide +kernel
theorem dX3_addRow_24 : decode cX3_addRow 24 = .ok (.iastore, 1) := by decide +kernel
theorem dX3_addRow_25 : decode cX3_addRow 25 = .ok (.aload_n 0, 1) := by decide +kernel
theorem dX3_addRow_26 : decode cX3_addRow 26 = .ok (.getfield 25, 3) := by decide +kernel
theorem dX3_addRow_29 : decode cX3_addRow 29 = .ok (.aload_n 0, 1) := by decide +kernel
theorem dX3_addRow_30 : decode cX3_addRow 30 = .ok (.getfield 9, 3) := by decide +kernel
theorem dX3_addRow_33 : decode cX3_addRow 33 = .ok (.iload_n 2, 1) := by decide +kernel
theorem dX3_addRow_34 : decode cX3_addRow 34 = .ok (.iastore, 1) := by decide +kernel
theorem dX3_addRow_35 : decode cX3_addRow 35 = .ok (.aload_n 0, 1) := by decide +kernel
theorem dX3_addRow_36 : decode cX3_addRow 36 = .ok (.dup, 1) := by decide +kernel
theorem dX3_addRow_37 : decode cX3_addRow 37 = .ok (.getfield 9, 3) := by decide +kernel
theorem dX3_addRow_40 : decode cX3_addRow 40 = .ok (.iconst 1, 1) := by decide +kernel
theorem dX3_addRow_41 : decode cX3_addRow 41 = .ok (.iadd, 1) := by decide +kernel
theorem dX3_addRow_42 : decode cX3_addRow 42 = .ok (.putfield 9, 3) := by decide +kernel
theorem dX3_addRow_45 : decode cX3_addRow 45 = .ok (.aload_n 0, 1) := by decide +kernel
theorem dX3_addRow_46 : decode cX3_addRow 46 = .ok (.getfield 9, 3) := by decide +kernel
theorem dX3_addRow_49 : decode cX3_addRow 49 = .ok (.ireturn, 1) := by decide +kernel
theorem dX3_copyFrom_0 : decode cX3_copyFrom 0 = .ok (.aload_n 0, 1) := by decide +kernel
theorem dX3_copyFrom_1 : decode cX3_copyFrom 1 = .ok (.iconst 0, 1) := by decide +kernel
theorem dX3_copyFrom_2 : decode cX3_copyFrom 2 = .ok (.putfield 9, 3) := by decide +kernel
theorem dX3_copyFrom_5 : decode cX3_copyFrom 5 = .ok (.iconst 0, 1) := by decide +kernel
theorem dX3_copyFrom_6 : decode cX3_copyFrom 6 = .ok (.istore_n 2, 1) := by decide +kernel
theorem dX3_copyFrom_7 : decode cX3_copyFrom 7 = .ok (.iload_n 2, 1) := by decide +kernel
theorem dX3_copyFrom_8 : decode cX3_copyFrom 8 = .ok (.aload_n 1, 1) := by decide +kernel
theorem dX3_copyFrom_9 : decode cX3_copyFrom 9 = .ok (.getfield 9, 3) := by decide +kernel
theorem dX3_copyFrom_12 : decode cX3_copyFrom 12 = .ok (.if_icmp .ge 26, 3) := by decide +kernel
theorem dX3_copyFrom_15 : decode cX3_copyFrom 15 = .ok (.aload_n 0, 1) := by decide +kernel
theorem dX3_copyFrom_16 : decode cX3_copyFrom 16 = .ok (.aload_n 1, 1) := by decide +kernel
theorem dX3_copyFrom_17 : decode cX3_copyFrom 17 = .ok (.getfield 21, 3) := by decide +kernel
theorem dX3_copyFrom_20 : decode cX3_copyFrom 20 = .ok (.iload_n 2, 1) := by decide +kernel
theorem dX3_copyFrom_21 : decode cX3_copyFrom 21 = .ok (.iaload, 1) := by decide +kernel
theorem dX3_copyFrom_22 : decode cX3_copyFrom 22 = .ok (.aload_n 1, 1) := by decide +kernel
theorem dX3_copyFrom_23 : decode cX3_copyFrom 23 = .ok (.getfield 25, 3) := by decide +kernel
theorem dX3_copyFrom_26 : decode cX3_copyFrom 26 = .ok (.iload_n 2, 1) := by decide +kernel
theorem dX3_copyFrom_27 : decode cX3_copyFrom 27 = .ok (.iaload, 1) := by decide +kernel
theorem dX3_copyFrom_28 : decode cX3_copyFrom 28 = .ok (.invokevirtual 28, 3) := by decide +kernel
theorem dX3_copyFrom_31 : decode cX3_copyFrom 31 = .ok (.pop, 1) := by decide +kernel
theorem dX3_copyFrom_32 : decode cX3_copyFrom 32 = .ok (.iinc 2 1, 3) := by decide +kernel
theorem dX3_copyFrom_35 : decode cX3_copyFrom 35 = .ok (.goto (-28), 3) := by decide +kernel
theorem dX3_copyFrom_38 : decode cX3_copyFrom 38 = .ok (.return_, 1) := by decide +kernel
theorem dX4_init_0 : decode cX4_init 0 = .ok (.aload_n 0, 1) := by decide +kernel
theorem dX4_init_1 : decode cX4_init 1 = .ok (.invokespecial 1, 3) := by decide +kernel
theorem dX4_init_4 : decode cX4_init 4 = .ok (.aload_n 0, 1) := by decide +kernel
theorem dX4_init_5 : decode cX4_init 5 = .ok (.bipush 100, 2) := by decide +kernel
theorem dX4_init_7 : decode cX4_init 7 = .ok (.newarray .int, 2) := by decide +kernel
theorem dX4_init_9 : decode cX4_init 9 = .ok (.putfield 9, 3) := by decide +kernel
theorem dX4_init_12 : decode cX4_init 12 = .ok (.aload_n 0, 1) := by decide +kernel
theorem dX4_init_13 : decode cX4_init 13 = .ok (.iconst 0, 1) := by decide +kernel
theorem dX4_init_14 : decode cX4_init 14 = .ok (.putfield 13, 3) := by decide +kernel
theorem dX4_init_17 : decode cX4_init 17 = .ok (.aload_n 0, 1) := by decide +kernel
theorem dX4_init_18 : decode cX4_init 18 = .ok (.bipush 12, 2) := by decide +kernel
theorem dX4_init_20 : decode cX4_init 20 = .ok (.newarray .int, 2) := by decide +kernel
theorem dX4_init_22 : decode cX4_init 22 = .ok (.putfield 17, 3) := by decide +kernel
theorem dX4_init_25 : decode cX4_init 25 = .ok (.aload_n 0, 1) := by decide +kernel
theorem dX4_init_26 : decode cX4_init 26 = .ok (.bipush 36, 2) := by decide +kernel
theorem dX4_init_28 : decode cX4_init 28 = .ok (.newarray .int, 2) := by decide +kernel
theorem dX4_init_30 : decode cX4_init 30 = .ok (.putfield 20, 3) := by decide +kernel
theorem dX4_init_33 : decode cX4_init 33 = .ok (.aload_n 0, 1) := by decide +kernel
theorem dX4_init_34 : decode cX4_init 34 = .ok (.iconst 0, 1) := by decide +kernel
theorem dX4_init_35 : decode cX4_init 35 = .ok (.putfield 23, 3) := by decide +kernel
theorem dX4_init_38 : decode cX4_init 38 = .ok (.aload_n 0, 1) := by decide +kernel
theorem dX4_init_39 : decode cX4_init 39 = .ok (.iconst 0, 1) := by decide +kernel
theorem dX4_init_40 : decode cX4_init 40 = .ok (.putfield 26, 3) := by decide +kernel
theorem dX4_init_43 : decode cX4_init 43 = .ok (.return_, 1) := by decide +kernel
theorem dX4_addSign_0 : decode cX4_addSign 0 = .ok (.aload_n 0, 1) := by decide +kernel
theorem dX4_addSign_1 : decode cX4_addSign 1 = .ok (.getfield 13, 3) := by decide +kernel
theorem dX4_addSign_4 : decode cX4_addSign 4 = .ok (.bipush 100, 2) := by decide +kernel
theorem dX4_addSign_6 : decode cX4_addSign 6 = .ok (.if_icmp .lt 5, 3) := by decide +kernel
theorem dX4_addSign_9 : decode cX4_addSign 9 = .ok (.iconst 0, 1) := by decide +kernel
theorem dX4_addSign_10 : decode cX4_addSign 10 = .ok (.ireturn, 1) := by decide +kernel
theorem dX4_addSign_11 : decode cX4_addSign 11 = .ok (.aload_n 0, 1) := by decide +kernel
theorem dX4_addSign_12 : decode cX4_addSign 12 = .ok (.getfield 9, 3) := by decide +kernel
theorem dX4_addSign_15 : decode cX4_addSign 15 = .ok (.aload_n 0, 1) := by decide +kernel
theorem dX4_addSign_16 : decode cX4_addSign 16 = .ok (.getfield 13, 3) := by decide +kernel
theorem dX4_addSign_19 : decode cX4_addSign 19 = .ok (.iload_n 1, 1) := by decide +kernel
theorem dX4_addSign_20 : decode cX4_addSign 20 = .ok (.iastore, 1) := by decide +kernel
theorem dX4_addSign_21 : decode cX4_addSign 21 = .ok (.aload_n 0, 1) := by decide +kernel
theorem dX4_addSign_22 : decode cX4_addSign 22 = .ok (.dup, 1) := by decide +kernel
theorem dX4_addSign_23 : decode cX4_addSign 23 = .ok (.getfield 13, 3) := by decide +kernel
theorem dX4_addSign_26 : decode cX4_addSign 26 = .ok (.iconst 1, 1) := by decide +kernel
theorem dX4_addSign_27 : decode cX4_addSign 27 = .ok (.iadd, 1) := by decide +kernel
theorem dX4_addSign_28 : decode cX4_addSign 28 = .ok (.putfield 13, 3) := by decide +kernel
theorem dX4_addSign_31 : decode cX4_addSign 31 = .ok (.iconst 1, 1) := by decide +kernel
theorem dX4_addSign_32 : decode cX4_addSign 32 = .ok (.ireturn, 1) := by decide +kernel
theorem dX4_numberOf_0 : decode cX4_numberOf 0 = .ok (.iload_n 1, 1) := by decide +kernel
theorem dX4_numberOf_1 : decode cX4_numberOf 1 = .ok (.ifCond .lt 22, 3) := by decide +kernel
theorem dX4_numberOf_4 : decode cX4_numberOf 4 = .ok (.iload_n 1, 1) := by decide +kernel
theorem dX4_numberOf_5 : decode cX4_numberOf 5 = .ok (.bipush 12, 2) := by decide +kernel
theorem dX4_numberOf_7 : decode cX4_numberOf 7 = .ok (.if_icmp .ge 16, 3) := by decide +kernel
theorem dX4_numberOf_10 : decode cX4_numberOf 10 = .ok (.iload_n 2, 1) := by decide +kernel
theorem dX4_numberOf_11 : decode cX4_numberOf 11 = .ok (.ifCond .lt 12, 3) := by decide +kernel
theorem dX4_numberOf_14 : decode cX4_numberOf 14 = .ok (.iload_n 2, 1) := by decide +kernel
theorem dX4_numberOf_15 : decode cX4_numberOf 15 = .ok (.iconst 3, 1) := by decide +kernel
theorem dX4_numberOf_16 : decode cX4_numberOf 16 = .ok (.if_icmp .ge 7, 3) := by decide +kernel
theorem dX4_numberOf_19 : decode cX4_numberOf 19 = .ok (.iconst 1, 1) := by decide +kernel
theorem dX4_numberOf_20 : decode cX4_numberOf 20 = .ok (.goto 4, 3) := by decide +kernel
theorem dX4_numberOf_23 : decode cX4_numberOf 23 = .ok (.iconst 0, 1) := by decide +kernel
theorem dX4_numberOf_24 : decode cX4_numberOf 24 = .ok (.istore_n 3, 1) := by decide +kernel
theorem dX4_numberOf_25 : decode cX4_numberOf 25 = .ok (.iload_n 3, 1) := by decide +kernel
theorem dX4_numberOf_26 : decode cX4_numberOf 26 = .ok (.ifCond .eq 16, 3) := by decide +kernel
theorem dX4_numberOf_29 : decode cX4_numberOf 29 = .ok (.aload_n 0, 1) := by decide +kernel
theorem dX4_numberOf_30 : decode cX4_numberOf 30 = .ok (.getfield 20, 3) := by decide +kernel
theorem dX4_numberOf_33 : decode cX4_numberOf 33 = .ok (.iload_n 1, 1) := by decide +kernel
theorem dX4_numberOf_34 : decode cX4_numberOf 34 = .ok (.iconst 3, 1) := by decide +kernel
theorem dX4_numberOf_35 : decode cX4_numberOf 35 = .ok (.imul, 1) := by decide +kernel
theorem dX4_numberOf_36 : decode cX4_numberOf 36 = .ok (.iload_n 2, 1) := by decide +kernel
theorem dX4_numberOf_37 : decode cX4_numberOf 37 = .ok (.iadd, 1) := by decide +kernel
theorem dX4_numberOf_38 : decode cX4_numberOf 38 = .ok (.iaload, 1) := by decide +kernel
theorem dX4_numberOf_39 : decode cX4_numberOf 39 = .ok (.goto 4, 3) := by decide +kernel
theorem dX4_numberOf_42 : decode cX4_numberOf 42 = .ok (.iconst 0, 1) := by decide +kernel
theorem dX4_numberOf_43 : decode cX4_numberOf 43 = .ok (.ireturn, 1) := by decide +kernel
theorem dX4_parse_0 : decode cX4_parse 0 = .ok (.aload_n 0, 1) := by decide +kernel
theorem dX4_parse_1 : decode cX4_parse 1 = .ok (.iconst 0, 1) := by decide +kernel
theorem dX4_parse_2 : decode cX4_parse 2 = .ok (.putfield 26, 3) := by decide +kernel
theorem dX4_parse_5 : decode cX4_parse 5 = .ok (.aload_n 0, 1) := by decide +kernel
theorem dX4_parse_6 : decode cX4_parse 6 = .ok (.iconst 0, 1) := by decide +kernel
theorem dX4_parse_7 : decode cX4_parse 7 = .ok (.putfield 23, 3) := by decide +kernel
theorem dX4_parse_10 : decode cX4_parse 10 = .ok (.iconst 0, 1) := by decide +kernel
theorem dX4_parse_11 : decode cX4_parse 11 = .ok (.istore_n 1, 1) := by decide +kernel
theorem dX4_parse_12 : decode cX4_parse 12 = .ok (.iload_n 1, 1) := by decide +kernel
theorem dX4_parse_13 : decode cX4_parse 13 = .ok (.bipush 12, 2) := by decide +kernel
theorem dX4_parse_15 : decode cX4_parse 15 = .ok (.if_icmp .ge 55, 3) := by decide +kernel
theorem dX4_parse_18 : decode cX4_parse 18 = .ok (.iload_n 1, 1) := by decide +kernel
theorem dX4_parse_19 : decode cX4_parse 19 = .ok (.ifCond .le 12, 3) := by decide +kernel
theorem dX4_parse_22 : decode cX4_parse 22 = .ok (.aload_n 0, 1) := by decide +kernel
theorem dX4_parse_23 : decode cX4_parse 23 = .ok (.bipush 59, 2) := by decide +kernel
theorem dX4_parse_25 : decode cX4_parse 25 = .ok (.invokevirtual 29, 3) := by decide +kernel
theorem dX4_parse_28 : decode cX4_parse 28 = .ok (.ifCond .eq 11, 3) := by decide +kernel
theorem dX4_parse_31 : decode cX4_parse 31 = .ok (.aload_n 0, 1) := by decide +kernel
theorem dX4_parse_32 : decode cX4_parse 32 = .ok (.iload_n 1, 1) := by decide +kernel
theorem dX4_parse_33 : decode cX4_parse 33 = .ok (.invokevirtual 33, 3) := by decide +kernel
theorem dX4_parse_36 : decode cX4_parse 36 = .ok (.ifCond .ne 8, 3) := by decide +kernel
theorem dX4_parse_39 : decode cX4_parse 39 = .ok (.aload_n 0, 1) := by decide +kernel
theorem dX4_parse_40 : decode cX4_parse 40 = .ok (.getfield 26, 3) := by decide +kernel
theorem dX4_parse_43 : decode cX4_parse 43 = .ok (.ireturn, 1) := by decide +kernel
theorem dX4_parse_44 : decode cX4_parse 44 = .ok (.aload_n 0, 1) := by decide +kernel
theorem dX4_parse_45 : decode cX4_parse 45 = .ok (.getfield 26, 3) := by decide +kernel
theorem dX4_parse_48 : decode cX4_parse 48 = .ok (.aload_n 0, 1) := by decide +kernel
theorem dX4_parse_49 : decode cX4_parse 49 = .ok (.getfield 13, 3) := by decide +kernel
theorem dX4_parse_52 : decode cX4_parse 52 = .ok (.if_icmp .ne 12, 3) := by decide +kernel
theorem dX4_parse_55 : decode cX4_parse 55 = .ok (.aload_n 0, 1) := by decide +kernel
theorem dX4_parse_56 : decode cX4_parse 56 = .ok (.iload_n 1, 1) := by decide +kernel
theorem dX4_parse_57 : decode cX4_parse 57 = .ok (.iconst 1, 1) := by decide +kernel
theorem dX4_parse_58 : decode cX4_parse 58 = .ok (.iadd, 1) := by decide +kernel
theorem dX4_parse_59 : decode cX4_parse 59 = .ok (.putfield 23, 3) := by decide +kernel
theorem dX4_parse_62 : decode cX4_parse 62 = .ok (.iconst (-1), 1) := by decide +kernel
theorem dX4_parse_63 : decode cX4_parse 63 = .ok (.ireturn, 1) := by decide +kernel
theorem dX4_parse_64 : decode cX4_parse 64 = .ok (.iinc 1 1, 3) := by decide +kernel
theorem dX4_parse_67 : decode cX4_parse 67 = .ok (.goto (-55), 3) := by decide +kernel
theorem dX4_parse_70 : decode cX4_parse 70 = .ok (.aload_n 0, 1) := by decide +kernel
theorem dX4_parse_71 : decode cX4_parse 71 = .ok (.getfield 26, 3) := by decide +kernel
theorem dX4_parse_74 : decode cX4_parse 74 = .ok (.ireturn, 1) := by decide +kernel
theorem dX4_parseClause_0 : decode cX4_parseClause 0 = .ok (.aload_n 0, 1) := by decide +kernel
theorem dX4_parseClause_1 : decode cX4_parseClause 1 = .ok (.invokevirtual 36, 3) := by decide +kernel
theorem dX4_parseClause_4 : decode cX4_parseClause 4 = .ok (.istore_n 2, 1) := by decide +kernel
theorem dX4_parseClause_5 : decode cX4_parseClause 5 = .ok (.iload_n 2, 1) := by decide +kernel
theorem dX4_parseClause_6 : decode cX4_parseClause 6 = .ok (.ifCond .ge 5, 3) := by decide +kernel
theorem dX4_parseClause_9 : decode cX4_parseClause 9 = .ok (.iconst 0, 1) := by decide +kernel
theorem dX4_parseClause_10 : decode cX4_parseClause 10 = .ok (.ireturn, 1) := by decide +kernel
theorem dX4_parseClause_11 : decode cX4_parseClause 11 = .ok (.aload_n 0, 1) := by decide +kernel
theorem dX4_parseClause_12 : decode cX4_parseClause 12 = .ok (.getfield 17, 3) := by decide +kernel
theorem dX4_parseClause_15 : decode cX4_parseClause 15 = .ok (.iload_n 1, 1) := by decide +kernel
theorem dX4_parseClause_16 : decode cX4_parseClause 16 = .ok (.iload_n 2, 1) := by decide +kernel
theorem dX4_parseClause_17 : decode cX4_parseClause 17 = .ok (.iastore, 1) := by decide +kernel
theorem dX4_parseClause_18 : decode cX4_parseClause 18 = .ok (.iconst 0, 1) := by decide +kernel
theorem dX4_parseClause_19 : decode cX4_parseClause 19 = .ok (.istore_n 3, 1) := by decide +kernel
theorem dX4_parseClause_20 : decode cX4_parseClause 20 = .ok (.iload_n 3, 1) := by decide +kernel
theorem dX4_parseClause_21 : decode cX4_parseClause 21 = .ok (.iload_n 2, 1) := by decide +kernel
theorem dX4_parseClause_22 : decode cX4_parseClause 22 = .ok (.invokestatic 40, 3) := by decide +kernel
theorem dX4_parseClause_25 : decode cX4_parseClause 25 = .ok (.if_icmp .ge 32, 3) := by decide +kernel
theorem dX4_parseClause_28 : decode cX4_parseClause 28 = .ok (.aload_n 0, 1) := by decide +kernel
theorem dX4_parseClause_29 : decode cX4_parseClause 29 = .ok (.bipush 32, 2) := by decide +kernel
theorem dX4_parseClause_31 : decode cX4_parseClause 31 = .ok (.invokevirtual 29, 3) := by decide +kernel
theorem dX4_parseClause_34 : decode cX4_parseClause 34 = .ok (.ifCond .eq 15, 3) := by decide +kernel
theorem dX4_parseClause_37 : decode cX4_parseClause 37 = .ok (.aload_n 0, 1) := by decide +kernel
theorem dX4_parseClause_38 : decode cX4_parseClause 38 = .ok (.iload_n 1, 1) := by decide +kernel
theorem dX4_parseClause_39 : decode cX4_parseClause 39 = .ok (.iconst 3, 1) := by decide +kernel
theorem dX4_parseClause_40 : decode cX4_parseClause 40 = .ok (.imul, 1) := by decide +kernel
theorem dX4_parseClause_41 : decode cX4_parseClause 41 = .ok (.iload_n 3, 1) := by decide +kernel
theorem dX4_parseClause_42 : decode cX4_parseClause 42 = .ok (.iadd, 1) := by decide +kernel
theorem dX4_parseClause_43 : decode cX4_parseClause 43 = .ok (.invokevirtual 44, 3) := by decide +kernel
theorem dX4_parseClause_46 : decode cX4_parseClause 46 = .ok (.ifCond .ne 5, 3) := by decide +kernel
theorem dX4_parseClause_49 : decode cX4_parseClause 49 = .ok (.iconst 0, 1) := by decide +kernel
theorem dX4_parseClause_50 : decode cX4_parseClause 50 = .ok (.ireturn, 1) := by decide +kernel
theorem dX4_parseClause_51 : decode cX4_parseClause 51 = .ok (.iinc 3 1, 3) := by decide +kernel
theorem dX4_parseClause_54 : decode cX4_parseClause 54 = .ok (.goto (-34), 3) := by decide +kernel
theorem dX4_parseClause_57 : decode cX4_parseClause 57 = .ok (.iconst 1, 1) := by decide +kernel
theorem dX4_parseClause_58 : decode cX4_parseClause 58 = .ok (.ireturn, 1) := by decide +kernel
theorem dX4_parseWord_0 : decode cX4_parseWord 0 = .ok (.iconst 0, 1) := by decide +kernel
theorem dX4_parseWord_1 : decode cX4_parseWord 1 = .ok (.istore_n 1, 1) := by decide +kernel
theorem dX4_parseWord_2 : decode cX4_parseWord 2 = .ok (.iconst 0, 1) := by decide +kernel
theorem dX4_parseWord_3 : decode cX4_parseWord 3 = .ok (.istore_n 2, 1) := by decide +kernel
theorem dX4_parseWord_4 : decode cX4_parseWord 4 = .ok (.iload_n 2, 1) := by decide +kernel
theorem dX4_parseWord_5 : decode cX4_parseWord 5 = .ok (.bipush 8, 2) := by decide +kernel
theorem dX4_parseWord_7 : decode cX4_parseWord 7 = .ok (.if_icmp .ge 50, 3) := by decide +kernel
theorem dX4_parseWord_10 : decode cX4_parseWord 10 = .ok (.iload_n 2, 1) := by decide +kernel
theorem dX4_parseWord_11 : decode cX4_parseWord 11 = .ok (.invokestatic 47, 3) := by decide +kernel
theorem dX4_parseWord_14 : decode cX4_parseWord 14 = .ok (.astore_n 3, 1) := by decide +kernel
theorem dX4_parseWord_15 : decode cX4_parseWord 15 = .ok (.aload_n 0, 1) := by decide +kernel
theorem dX4_parseWord_16 : decode cX4_parseWord 16 = .ok (.aload_n 3, 1) := by decide +kernel
theorem dX4_parseWord_17 : decode cX4_parseWord 17 = .ok (.invokevirtual 51, 3) := by decide +kernel
theorem dX4_parseWord_20 : decode cX4_parseWord 20 = .ok (.istore 4, 2) := by decide +kernel
theorem dX4_parseWord_22 : decode cX4_parseWord 22 = .ok (.iload 4, 2) := by decide +kernel
theorem dX4_parseWord_24 : decode cX4_parseWord 24 = .ok (.aload_n 3, 1) := by decide +kernel
theorem dX4_parseWord_25 : decode cX4_parseWord 25 = .ok (.invokevirtual 55, 3) := by decide +kernel
theorem dX4_parseWord_28 : decode cX4_parseWord 28 = .ok (.if_icmp .ne 16, 3) := by decide +kernel
theorem dX4_parseWord_31 : decode cX4_parseWord 31 = .ok (.aload_n 0, 1) := by decide +kernel
theorem dX4_parseWord_32 : decode cX4_parseWord 32 = .ok (.dup, 1) := by decide +kernel
theorem dX4_parseWord_33 : decode cX4_parseWord 33 = .ok (.getfield 26, 3) := by decide +kernel
theorem dX4_parseWord_36 : decode cX4_parseWord 36 = .ok (.iload 4, 2) := by decide +kernel
theorem dX4_parseWord_38 : decode cX4_parseWord 38 = .ok (.iadd, 1) := by decide +kernel
theorem dX4_parseWord_39 : decode cX4_parseWord 39 = .ok (.putfield 26, 3) := by decide +kernel
theorem dX4_parseWord_42 : decode cX4_parseWord 42 = .ok (.iload_n 2, 1) := by decide +kernel
theorem dX4_parseWord_43 : decode cX4_parseWord 43 = .ok (.ireturn, 1) := by decide +kernel
theorem dX4_parseWord_44 : decode cX4_parseWord 44 = .ok (.iload_n 1, 1) := by decide +kernel
theorem dX4_parseWord_45 : decode cX4_parseWord 45 = .ok (.iload 4, 2) := by decide +kernel
theorem dX4_parseWord_47 : decode cX4_parseWord 47 = .ok (.invokestatic 59, 3) := by decide +kernel
theorem dX4_parseWord_50 : decode cX4_parseWord 50 = .ok (.istore_n 1, 1) := by decide +kernel
theorem dX4_parseWord_51 : decode cX4_parseWord 51 = .ok (.iinc 2 1, 3) := by decide +kernel
theorem dX4_parseWord_54 : decode cX4_parseWord 54 = .ok (.goto (-50), 3) := by decide +kernel
theorem dX4_parseWord_57 : decode cX4_parseWord 57 = .ok (.aload_n 0, 1) := by decide +kernel
theorem dX4_parseWord_58 : decode cX4_parseWord 58 = .ok (.dup, 1) := by decide +kernel
theorem dX4_parseWord_59 : decode cX4_parseWord 59 = .ok (.getfield 26, 3) := by decide +kernel
theorem dX4_parseWord_62 : decode cX4_parseWord 62 = .ok (.iload_n 1, 1) := by decide +kernel
theorem dX4_parseWord_63 : decode cX4_parseWord 63 = .ok (.iadd, 1) := by decide +kernel
theorem dX4_parseWord_64 : decode cX4_parseWord 64 = .ok (.putfield 26, 3) := by decide +kernel
theorem dX4_parseWord_67 : decode cX4_parseWord 67 = .ok (.iconst (-1), 1) := by decide +kernel
theorem dX4_parseWord_68 : decode cX4_parseWord 68 = .ok (.ireturn, 1) := by decide +kernel
theorem dX4_signsAlike_0 : decode cX4_signsAlike 0 = .ok (.iconst 0, 1) := by decide +kernel
theorem dX4_signsAlike_1 : decode cX4_signsAlike 1 = .ok (.istore_n 2, 1) := by decide +kernel
theorem dX4_signsAlike_2 : decode cX4_signsAlike 2 = .ok (.iload_n 2, 1) := by decide +kernel
theorem dX4_signsAlike_3 : decode cX4_signsAlike 3 = .ok (.aload_n 1, 1) := by decide +kernel
theorem dX4_signsAlike_4 : decode cX4_signsAlike 4 = .ok (.invokevirtual 55, 3) := by decide +kernel
theorem dX4_signsAlike_7 : decode cX4_signsAlike 7 = .ok (.if_icmp .ge 41, 3) := by decide +kernel
theorem dX4_signsAlike_10 : decode cX4_signsAlike 10 = .ok (.aload_n 0, 1) := by decide +kernel
theorem dX4_signsAlike_11 : decode cX4_signsAlike 11 = .ok (.getfield 26, 3) := by decide +kernel
theorem dX4_signsAlike_14 : decode cX4_signsAlike 14 = .ok (.iload_n 2, 1) := by decide +kernel
theorem dX4_signsAlike_15 : decode cX4_signsAlike 15 = .ok (.iadd, 1) := by decide +kernel
theorem dX4_signsAlike_16 : decode cX4_signsAlike 16 = .ok (.aload_n 0, 1) := by decide +kernel
theorem dX4_signsAlike_17 : decode cX4_signsAlike 17 = .ok (.getfield 13, 3) := by decide +kernel
theorem dX4_signsAlike_20 : decode cX4_signsAlike 20 = .ok (.if_icmp .ge 28, 3) := by decide +kernel
theorem dX4_signsAlike_23 : decode cX4_signsAlike 23 = .ok (.aload_n 0, 1) := by decide +kernel
theorem dX4_signsAlike_24 : decode cX4_signsAlike 24 = .ok (.getfield 9, 3) := by decide +kernel
theorem dX4_signsAlike_27 : decode cX4_signsAlike 27 = .ok (.aload_n 0, 1) := by decide +kernel
theorem dX4_signsAlike_28 : decode cX4_signsAlike 28 = .ok (.getfield 26, 3) := by decide +kernel
theorem dX4_signsAlike_31 : decode cX4_signsAlike 31 = .ok (.iload_n 2, 1) := by decide +kernel
theorem dX4_signsAlike_32 : decode cX4_signsAlike 32 = .ok (.iadd, 1) := by decide +kernel
theorem dX4_signsAlike_33 : decode cX4_signsAlike 33 = .ok (.iaload, 1) := by decide +kernel
theorem dX4_signsAlike_34 : decode cX4_signsAlike 34 = .ok (.aload_n 1, 1) := by decide +kernel
theorem dX4_signsAlike_35 : decode cX4_signsAlike 35 = .ok (.iload_n 2, 1) := by decide +kernel
theorem dX4_signsAlike_36 : decode cX4_signsAlike 36 = .ok (.invokevirtual 65, 3) := by decide +kernel
theorem dX4_signsAlike_39 : decode cX4_signsAlike 39 = .ok (.if_icmp .ne 9, 3) := by decide +kernel
theorem dX4_signsAlike_42 : decode cX4_signsAlike 42 = .ok (.iinc 2 1, 3) := by decide +kernel
theorem dX4_signsAlike_45 : decode cX4_signsAlike 45 = .ok (.goto (-43), 3) := by decide +kernel
theorem dX4_signsAlike_48 : decode cX4_signsAlike 48 = .ok (.iload_n 2, 1) := by decide +kernel
theorem dX4_signsAlike_49 : decode cX4_signsAlike 49 = .ok (.ireturn, 1) := by decide +kernel
theorem dX4_parseNumber_0 : decode cX4_parseNumber 0 = .ok (.aload_n 0, 1) := by decide +kernel
theorem dX4_parseNumber_1 : decode cX4_parseNumber 1 = .ok (.bipush 45, 2) := by decide +kernel
theorem dX4_parseNumber_3 : decode cX4_parseNumber 3 = .ok (.invokevirtual 29, 3) := by decide +kernel
theorem dX4_parseNumber_6 : decode cX4_parseNumber 6 = .ok (.istore_n 2, 1) := by decide +kernel
theorem dX4_parseNumber_7 : decode cX4_parseNumber 7 = .ok (.iconst 0, 1) := by decide +kernel
theorem dX4_parseNumber_8 : decode cX4_parseNumber 8 = .ok (.istore_n 3, 1) := by decide +kernel
theorem dX4_parseNumber_9 : decode cX4_parseNumber 9 = .ok (.iconst 0, 1) := by decide +kernel
theorem dX4_parseNumber_10 : decode cX4_parseNumber 10 = .ok (.istore 4, 2) := by decide +kernel
theorem dX4_parseNumber_12 : decode cX4_parseNumber 12 = .ok (.iload 4, 2) := by decide +kernel
theorem dX4_parseNumber_14 : decode cX4_parseNumber 14 = .ok (.bipush 6, 2) := by decide +kernel
theorem dX4_parseNumber_16 : decode cX4_parseNumber 16 = .ok (.if_icmp .ge 76, 3) := by decide +kernel
theorem dX4_parseNumber_19 : decode cX4_parseNumber 19 = .ok (.aload_n 0, 1) := by decide +kernel
theorem dX4_parseNumber_20 : decode cX4_parseNumber 20 = .ok (.getfield 26, 3) := by decide +kernel
theorem dX4_parseNumber_23 : decode cX4_parseNumber 23 = .ok (.aload_n 0, 1) := by decide +kernel
theorem dX4_parseNumber_24 : decode cX4_parseNumber 24 = .ok (.getfield 13, 3) := by decide +kernel
theorem dX4_parseNumber_27 : decode cX4_parseNumber 27 = .ok (.if_icmp .ge 65, 3) := by decide +kernel
theorem dX4_parseNumber_30 : decode cX4_parseNumber 30 = .ok (.aload_n 0, 1) := by decide +kernel
theorem dX4_parseNumber_31 : decode cX4_parseNumber 31 = .ok (.getfield 9, 3) := by decide +kernel
theorem dX4_parseNumber_34 : decode cX4_parseNumber 34 = .ok (.aload_n 0, 1) := by decide +kernel
theorem dX4_parseNumber_35 : decode cX4_parseNumber 35 = .ok (.getfield 26, 3) := by decide +kernel
theorem dX4_parseNumber_38 : decode cX4_parseNumber 38 = .ok (.iaload, 1) := by decide +kernel
theorem dX4_parseNumber_39 : decode cX4_parseNumber 39 = .ok (.bipush 48, 2) := by decide +kernel
theorem dX4_parseNumber_41 : decode cX4_parseNumber 41 = .ok (.if_icmp .lt 51, 3) := by decide +kernel
theorem dX4_parseNumber_44 : decode cX4_parseNumber 44 = .ok (.aload_n 0, 1) := by decide +kernel
theorem dX4_parseNumber_45 : decode cX4_parseNumber 45 = .ok (.getfield 9, 3) := by decide +kernel
theorem dX4_parseNumber_48 : decode cX4_parseNumber 48 = .ok (.aload_n 0, 1) := by decide +kernel
theorem dX4_parseNumber_49 : decode cX4_parseNumber 49 = .ok (.getfield 26, 3) := by decide +kernel
theorem dX4_parseNumber_52 : decode cX4_parseNumber 52 = .ok (.iaload, 1) := by decide +kernel
theorem dX4_parseNumber_53 : decode cX4_parseNumber 53 = .ok (.bipush 57, 2) := by decide +kernel
theorem dX4_parseNumber_55 : decode cX4_parseNumber 55 = .ok (.if_icmp .gt 37, 3) := by decide +kernel
theorem dX4_parseNumber_58 : decode cX4_parseNumber 58 = .ok (.bipush 10, 2) := by decide +kernel
theorem dX4_parseNumber_60 : decode cX4_parseNumber 60 = .ok (.iload_n 3, 1) := by decide +kernel
theorem dX4_parseNumber_61 : decode cX4_parseNumber 61 = .ok (.imul, 1) := by decide +kernel
theorem dX4_parseNumber_62 : decode cX4_parseNumber 62 = .ok (.aload_n 0, 1) := by decide +kernel
theorem dX4_parseNumber_63 : decode cX4_parseNumber 63 = .ok (.getfield 9, 3) := by decide +kernel
theorem dX4_parseNumber_66 : decode cX4_parseNumber 66 = .ok (.aload_n 0, 1) := by decide +kernel
theorem dX4_parseNumber_67 : decode cX4_parseNumber 67 = .ok (.getfield 26, 3) := by decide +kernel
theorem dX4_parseNumber_70 : decode cX4_parseNumber 70 = .ok (.iaload, 1) := by decide +kernel
theorem dX4_parseNumber_71 : decode cX4_parseNumber 71 = .ok (.iadd, 1) := by decide +kernel
theorem dX4_parseNumber_72 : decode cX4_parseNumber 72 = .ok (.bipush 48, 2) := by decide +kernel
theorem dX4_parseNumber_74 : decode cX4_parseNumber 74 = .ok (.isub, 1) := by decide +kernel
theorem dX4_parseNumber_75 : decode cX4_parseNumber 75 = .ok (.istore_n 3, 1) := by decide +kernel
theorem dX4_parseNumber_76 : decode cX4_parseNumber 76 = .ok (.aload_n 0, 1) := by decide +kernel
theorem dX4_parseNumber_77 : decode cX4_parseNumber 77 = .ok (.dup, 1) := by decide +kernel
theorem dX4_parseNumber_78 : decode cX4_parseNumber 78 = .ok (.getfield 26, 3) := by decide +kernel
theorem dX4_parseNumber_81 : decode cX4_parseNumber 81 = .ok (.iconst 1, 1) := by decide +kernel
theorem dX4_parseNumber_82 : decode cX4_parseNumber 82 = .ok (.iadd, 1) := by decide +kernel
theorem dX4_parseNumber_83 : decode cX4_parseNumber 83 = .ok (.putfield 26, 3) := by decide +kernel
theorem dX4_parseNumber_86 : decode cX4_parseNumber 86 = .ok (.iinc 4 1, 3) := by decide +kernel
theorem dX4_parseNumber_89 : decode cX4_parseNumber 89 = .ok (.goto (-77), 3) := by decide +kernel
theorem dX4_parseNumber_92 : decode cX4_parseNumber 92 = .ok (.aload_n 0, 1) := by decide +kernel
theorem dX4_parseNumber_93 : decode cX4_parseNumber 93 = .ok (.getfield 20, 3) := by decide +kernel
theorem dX4_parseNumber_96 : decode cX4_parseNumber 96 = .ok (.iload_n 1, 1) := by decide +kernel
theorem dX4_parseNumber_97 : decode cX4_parseNumber 97 = .ok (.iload_n 2, 1) := by decide +kernel
theorem dX4_parseNumber_98 : decode cX4_parseNumber 98 = .ok (.ifCond .eq 8, 3) := by decide +kernel
theorem dX4_parseNumber_101 : decode cX4_parseNumber 101 = .ok (.iload_n 3, 1) := by decide +kernel
theorem dX4_parseNumber_102 : decode cX4_parseNumber 102 = .ok (.ineg, 1) := by decide +kernel
theorem dX4_parseNumber_103 : decode cX4_parseNumber 103 = .ok (.goto 4, 3) := by decide +kernel
theorem dX4_parseNumber_106 : decode cX4_parseNumber 106 = .ok (.iload_n 3, 1) := by decide +kernel
theorem dX4_parseNumber_107 : decode cX4_parseNumber 107 = .ok (.iastore, 1) := by decide +kernel
theorem dX4_parseNumber_108 : decode cX4_parseNumber 108 = .ok (.iload 4, 2) := by decide +kernel
theorem dX4_parseNumber_110 : decode cX4_parseNumber 110 = .ok (.ifCond .le 7, 3) := by decide +kernel
theorem dX4_parseNumber_113 : decode cX4_parseNumber 113 = .ok (.iconst 1, 1) := by decide +kernel
theorem dX4_parseNumber_114 : decode cX4_parseNumber 114 = .ok (.goto 4, 3) := by decide +kernel
theorem dX4_parseNumber_117 : decode cX4_parseNumber 117 = .ok (.iconst 0, 1) := by decide +kernel
theorem dX4_parseNumber_118 : decode cX4_parseNumber 118 = .ok (.ireturn, 1) := by decide +kernel
theorem dX4_passSign_0 : decode cX4_passSign 0 = .ok (.aload_n 0, 1) := by decide +kernel
theorem dX4_passSign_1 : decode cX4_passSign 1 = .ok (.getfield 26, 3) := by decide +kernel
theorem dX4_passSign_4 : decode cX4_passSign 4 = .ok (.aload_n 0, 1) := by decide +kernel
theorem dX4_passSign_5 : decode cX4_passSign 5 = .ok (.getfield 13, 3) := by decide +kernel
theorem dX4_passSign_8 : decode cX4_passSign 8 = .ok (.if_icmp .ge 16, 3) := by decide +kernel
theorem dX4_passSign_11 : decode cX4_passSign 11 = .ok (.aload_n 0, 1) := by decide +kernel
theorem dX4_passSign_12 : decode cX4_passSign 12 = .ok (.getfield 9, 3) := by decide +kernel
theorem dX4_passSign_15 : decode cX4_passSign 15 = .ok (.aload_n 0, 1) := by decide +kernel
theorem dX4_passSign_16 : decode cX4_passSign 16 = .ok (.getfield 26, 3) := by decide +kernel
theorem dX4_passSign_19 : decode cX4_passSign 19 = .ok (.iaload, 1) := by decide +kernel
theorem dX4_passSign_20 : decode cX4_passSign 20 = .ok (.iload_n 1, 1) := by decide +kernel
theorem dX4_passSign_21 : decode cX4_passSign 21 = .ok (.if_icmp .eq 5, 3) := by decide +kernel
theorem dX4_passSign_24 : decode cX4_passSign 24 = .ok (.iconst 0, 1) := by decide +kernel
theorem dX4_passSign_25 : decode cX4_passSign 25 = .ok (.ireturn, 1) := by decide +kernel
theorem dX4_passSign_26 : decode cX4_passSign 26 = .ok (.aload_n 0, 1) := by decide +kernel
theorem dX4_passSign_27 : decode cX4_passSign 27 = .ok (.dup, 1) := by decide +kernel
theorem dX4_passSign_28 : decode cX4_passSign 28 = .ok (.getfield 26, 3) := by decide +kernel
theorem dX4_passSign_31 : decode cX4_passSign 31 = .ok (.iconst 1, 1) := by decide +kernel
theorem dX4_passSign_32 : decode cX4_passSign 32 = .ok (.iadd, 1) := by decide +kernel
theorem dX4_passSign_33 : decode cX4_passSign 33 = .ok (.putfield 26, 3) := by decide +kernel
theorem dX4_passSign_36 : decode cX4_passSign 36 = .ok (.iconst 1, 1) := by decide +kernel
theorem dX4_passSign_37 : decode cX4_passSign 37 = .ok (.ireturn, 1) := by decide +kernel
theorem dX4_nameOf_0 : decode cX4_nameOf 0 = .ok (.iload_n 0, 1) := by decide +kernel
theorem dX4_nameOf_1 : decode cX4_nameOf 1 = .ok (.tableswitch 64 0 6 #[43, 46, 49, 52, 55, 58, 61], 43) := by decide +kernel
theorem dX4_nameOf_44 : decode cX4_nameOf 44 = .ok (.ldc 69, 2) := by decide +kernel
theorem dX4_nameOf_46 : decode cX4_nameOf 46 = .ok (.areturn, 1) := by decide +kernel
theorem dX4_nameOf_47 : decode cX4_nameOf 47 = .ok (.ldc 71, 2) := by decide +kernel
theorem dX4_nameOf_49 : decode cX4_nameOf 49 = .ok (.areturn, 1) := by decide +kernel
theorem dX4_nameOf_50 : decode cX4_nameOf 50 = .ok (.ldc 73, 2) := by decide +kernel
theorem dX4_nameOf_52 : decode cX4_nameOf 52 = .ok (.areturn, 1) := by decide +kernel
theorem dX4_nameOf_53 : decode cX4_nameOf 53 = .ok (.ldc 75, 2) := by decide +kernel
theorem dX4_nameOf_55 : decode cX4_nameOf 55 = .ok (.areturn, 1) := by decide +kernel
theorem dX4_nameOf_56 : decode cX4_nameOf 56 = .ok (.ldc 77, 2) := by decide +kernel
theorem dX4_nameOf_58 : decode cX4_nameOf 58 = .ok (.areturn, 1) := by decide +kernel
theorem dX4_nameOf_59 : decode cX4_nameOf 59 = .ok (.ldc 79, 2) := by decide +kernel
theorem dX4_nameOf_61 : decode cX4_nameOf 61 = .ok (.areturn, 1) := by decide +kernel
theorem dX4_nameOf_62 : decode cX4_nameOf 62 = .ok (.ldc 81, 2) := by decide +kernel
theorem dX4_nameOf_64 : decode cX4_nameOf 64 = .ok (.areturn, 1) := by decide +kernel
theorem dX4_nameOf_65 : decode cX4_nameOf 65 = .ok (.ldc 83, 2) := by decide +kernel
theorem dX4_nameOf_67 : decode cX4_nameOf 67 = .ok (.areturn, 1) := by decide +kernel
theorem dX4_numbersBehind_0 : decode cX4_numbersBehind 0 = .ok (.iload_n 0, 1) := by decide +kernel
theorem dX4_numbersBehind_1 : decode cX4_numbersBehind 1 = .ok (.tableswitch 37 0 3 #[31, 33, 33, 35], 31) := by decide +kernel
theorem dX4_numbersBehind_32 : decode cX4_numbersBehind 32 = .ok (.iconst 3, 1) := by decide +kernel
theorem dX4_numbersBehind_33 : decode cX4_numbersBehind 33 = .ok (.ireturn, 1) := by decide +kernel
theorem dX4_numbersBehind_34 : decode cX4_numbersBehind 34 = .ok (.iconst 2, 1) := by decide +kernel
theorem dX4_numbersBehind_35 : decode cX4_numbersBehind 35 = .ok (.ireturn, 1) := by decide +kernel
theorem dX4_numbersBehind_36 : decode cX4_numbersBehind 36 = .ok (.iconst 1, 1) := by decide +kernel
theorem dX4_numbersBehind_37 : decode cX4_numbersBehind 37 = .ok (.ireturn, 1) := by decide +kernel
theorem dX4_numbersBehind_38 : decode cX4_numbersBehind 38 = .ok (.iconst 0, 1) := by decide +kernel
theorem dX4_numbersBehind_39 : decode cX4_numbersBehind 39 = .ok (.ireturn, 1) := by decide +kernel
theorem dX5_init_0 : decode cX5_init 0 = .ok (.aload_n 0, 1) := by decide +kernel
theorem dX5_init_1 : decode cX5_init 1 = .ok (.invokespecial 3, 3) := by decide +kernel
theorem dX5_init_4 : decode cX5_init 4 = .ok (.aload_n 0, 1) := by decide +kernel
theorem dX5_init_5 : decode cX5_init 5 = .ok (.bipush 56, 2) := by decide +kernel
theorem dX5_init_7 : decode cX5_init 7 = .ok (.newarray .int, 2) := by decide +kernel
theorem dX5_init_9 : decode cX5_init 9 = .ok (.putfield 9, 3) := by decide +kernel
theorem dX5_init_12 : decode cX5_init 12 = .ok (.aload_n 0, 1) := by decide +kernel
theorem dX5_init_13 : decode cX5_init 13 = .ok (.lconst 0, 1) := by decide +kernel
theorem dX5_init_14 : decode cX5_init 14 = .ok (.putfield 15, 3) := by decide +kernel
theorem dX5_init_17 : decode cX5_init 17 = .ok (.aload_n 0, 1) := by decide +kernel
theorem dX5_init_18 : decode cX5_init 18 = .ok (.lconst 0, 1) := by decide +kernel
theorem dX5_init_19 : decode cX5_init 19 = .ok (.putfield 19, 3) := by decide +kernel
theorem dX5_init_22 : decode cX5_init 22 = .ok (.aload_n 0, 1) := by decide +kernel
theorem dX5_init_23 : decode cX5_init 23 = .ok (.aload_n 1, 1) := by decide +kernel
theorem dX5_init_24 : decode cX5_init 24 = .ok (.putfield 22, 3) := by decide +kernel
theorem dX5_init_27 : decode cX5_init 27 = .ok (.return_, 1) := by decide +kernel
theorem dX5_becomeEmpty_0 : decode cX5_becomeEmpty 0 = .ok (.aload_n 0, 1) := by decide +kernel
theorem dX5_becomeEmpty_1 : decode cX5_becomeEmpty 1 = .ok (.invokevirtual 26, 3) := by decide +kernel
theorem dX5_becomeEmpty_4 : decode cX5_becomeEmpty 4 = .ok (.aload_n 0, 1) := by decide +kernel
theorem dX5_becomeEmpty_5 : decode cX5_becomeEmpty 5 = .ok (.lconst 0, 1) := by decide +kernel
theorem dX5_becomeEmpty_6 : decode cX5_becomeEmpty 6 = .ok (.putfield 15, 3) := by decide +kernel
theorem dX5_becomeEmpty_9 : decode cX5_becomeEmpty 9 = .ok (.aload_n 0, 1) := by decide +kernel
theorem dX5_becomeEmpty_10 : decode cX5_becomeEmpty 10 = .ok (.lconst 0, 1) := by decide +kernel
theorem dX5_becomeEmpty_11 : decode cX5_becomeEmpty 11 = .ok (.putfield 19, 3) := by decide +kernel
theorem dX5_becomeEmpty_14 : decode cX5_becomeEmpty 14 = .ok (.return_, 1) := by decide +kernel
theorem dX5_copyFrom_0 : decode cX5_copyFrom 0 = .ok (.aload_n 1, 1) := by decide +kernel
theorem dX5_copyFrom_1 : decode cX5_copyFrom 1 = .ok (.getfield 9, 3) := by decide +kernel
theorem dX5_copyFrom_4 : decode cX5_copyFrom 4 = .ok (.iconst 0, 1) := by decide +kernel
theorem dX5_copyFrom_5 : decode cX5_copyFrom 5 = .ok (.aload_n 0, 1) := by decide +kernel
theorem dX5_copyFrom_6 : decode cX5_copyFrom 6 = .ok (.getfield 9, 3) := by decide +kernel
theorem dX5_copyFrom_9 : decode cX5_copyFrom 9 = .ok (.iconst 0, 1) := by decide +kernel
theorem dX5_copyFrom_10 : decode cX5_copyFrom 10 = .ok (.bipush 56, 2) := by decide +kernel
theorem dX5_copyFrom_12 : decode cX5_copyFrom 12 = .ok (.invokestatic 29, 3) := by decide +kernel
theorem dX5_copyFrom_15 : decode cX5_copyFrom 15 = .ok (.aload_n 0, 1) := by decide +kernel
theorem dX5_copyFrom_16 : decode cX5_copyFrom 16 = .ok (.aload_n 1, 1) := by decide +kernel
theorem dX5_copyFrom_17 : decode cX5_copyFrom 17 = .ok (.getfield 15, 3) := by decide +kernel
theorem dX5_copyFrom_20 : decode cX5_copyFrom 20 = .ok (.putfield 15, 3) := by decide +kernel
theorem dX5_copyFrom_23 : decode cX5_copyFrom 23 = .ok (.aload_n 0, 1) := by decide +kernel
theorem dX5_copyFrom_24 : decode cX5_copyFrom 24 = .ok (.aload_n 1, 1) := by decide +kernel
theorem dX5_copyFrom_25 : decode cX5_copyFrom 25 = .ok (.getfield 19, 3) := by decide +kernel
theorem dX5_copyFrom_28 : decode cX5_copyFrom 28 = .ok (.putfield 19, 3) := by decide +kernel
theorem dX5_copyFrom_31 : decode cX5_copyFrom 31 = .ok (.return_, 1) := by decide +kernel
theorem dX5_clearCounts_0 : decode cX5_clearCounts 0 = .ok (.iconst 0, 1) := by decide +kernel
theorem dX5_clearCounts_1 : decode cX5_clearCounts 1 = .ok (.istore_n 1, 1) := by decide +kernel
theorem dX5_clearCounts_2 : decode cX5_clearCounts 2 = .ok (.iload_n 1, 1) := by decide +kernel
theorem dX5_clearCounts_3 : decode cX5_clearCounts 3 = .ok (.bipush 56, 2) := by decide +kernel
theorem dX5_clearCounts_5 : decode cX5_clearCounts 5 = .ok (.if_icmp .ge 16, 3) := by decide +kernel
theorem dX5_clearCounts_8 : decode cX5_clearCounts 8 = .ok (.aload_n 0, 1) := by decide +kernel
theorem dX5_clearCounts_9 : decode cX5_clearCounts 9 = .ok (.getfield 9, 3) := by decide +kernel
theorem dX5_clearCounts_12 : decode cX5_clearCounts 12 = .ok (.iload_n 1, 1) := by decide +kernel
theorem dX5_clearCounts_13 : decode cX5_clearCounts 13 = .ok (.iconst 0, 1) := by decide +kernel
theorem dX5_clearCounts_14 : decode cX5_clearCounts 14 = .ok (.iastore, 1) := by decide +kernel
theorem dX5_clearCounts_15 : decode cX5_clearCounts 15 = .ok (.iinc 1 1, 3) := by decide +kernel
theorem dX5_clearCounts_18 : decode cX5_clearCounts 18 = .ok (.goto (-16), 3) := by decide +kernel
theorem dX5_clearCounts_21 : decode cX5_clearCounts 21 = .ok (.return_, 1) := by decide +kernel
theorem dX5_changeSigns_0 : decode cX5_changeSigns 0 = .ok (.iconst 0, 1) := by decide +kernel
theorem dX5_changeSigns_1 : decode cX5_changeSigns 1 = .ok (.istore_n 1, 1) := by decide +kernel
theorem dX5_changeSigns_2 : decode cX5_changeSigns 2 = .ok (.iload_n 1, 1) := by decide +kernel
theorem dX5_changeSigns_3 : decode cX5_changeSigns 3 = .ok (.aload_n 0, 1) := by decide +kernel
theorem dX5_changeSigns_4 : decode cX5_changeSigns 4 = .ok (.getfield 22, 3) := by decide +kernel
theorem dX5_changeSigns_7 : decode cX5_changeSigns 7 = .ok (.getfield 35, 3) := by decide +kernel
theorem dX5_changeSigns_10 : decode cX5_changeSigns 10 = .ok (.if_icmp .ge 22, 3) := by decide +kernel
theorem dX5_changeSigns_13 : decode cX5_changeSigns 13 = .ok (.aload_n 0, 1) := by decide +kernel
theorem dX5_changeSigns_14 : decode cX5_changeSigns 14 = .ok (.getfield 9, 3) := by decide +kernel
theorem dX5_changeSigns_17 : decode cX5_changeSigns 17 = .ok (.iload_n 1, 1) := by decide +kernel
theorem dX5_changeSigns_18 : decode cX5_changeSigns 18 = .ok (.aload_n 0, 1) := by decide +kernel
theorem dX5_changeSigns_19 : decode cX5_changeSigns 19 = .ok (.getfield 9, 3) := by decide +kernel
theorem dX5_changeSigns_22 : decode cX5_changeSigns 22 = .ok (.iload_n 1, 1) := by decide +kernel
theorem dX5_changeSigns_23 : decode cX5_changeSigns 23 = .ok (.iaload, 1) := by decide +kernel
theorem dX5_changeSigns_24 : decode cX5_changeSigns 24 = .ok (.ineg, 1) := by decide +kernel
theorem dX5_changeSigns_25 : decode cX5_changeSigns 25 = .ok (.iastore, 1) := by decide +kernel
theorem dX5_changeSigns_26 : decode cX5_changeSigns 26 = .ok (.iinc 1 1, 3) := by decide +kernel
theorem dX5_changeSigns_29 : decode cX5_changeSigns 29 = .ok (.goto (-27), 3) := by decide +kernel
theorem dX5_changeSigns_32 : decode cX5_changeSigns 32 = .ok (.return_, 1) := by decide +kernel
theorem dX5_toggle_0 : decode cX5_toggle 0 = .ok (.aload_n 0, 1) := by decide +kernel
theorem dX5_toggle_1 : decode cX5_toggle 1 = .ok (.dup, 1) := by decide +kernel
theorem dX5_toggle_2 : decode cX5_toggle 2 = .ok (.getfield 15, 3) := by decide +kernel
theorem dX5_toggle_5 : decode cX5_toggle 5 = .ok (.lconst 1, 1) := by decide +kernel
theorem dX5_toggle_6 : decode cX5_toggle 6 = .ok (.iload_n 1, 1) := by decide +kernel
theorem dX5_toggle_7 : decode cX5_toggle 7 = .ok (.lshl, 1) := by decide +kernel
theorem dX5_toggle_8 : decode cX5_toggle 8 = .ok (.lxor, 1) := by decide +kernel
theorem dX5_toggle_9 : decode cX5_toggle 9 = .ok (.putfield 15, 3) := by decide +kernel
theorem dX5_toggle_12 : decode cX5_toggle 12 = .ok (.return_, 1) := by decide +kernel
theorem dX5_addTwist_0 : decode cX5_addTwist 0 = .ok (.iconst 0, 1) := by decide +kernel
theorem dX5_addTwist_1 : decode cX5_addTwist 1 = .ok (.istore_n 3, 1) := by decide +kernel
theorem dX5_addTwist_2 : decode cX5_addTwist 2 = .ok (.iload_n 3, 1) := by decide +kernel
theorem dX5_addTwist_3 : decode cX5_addTwist 3 = .ok (.aload_n 1, 1) := by decide +kernel
theorem dX5_addTwist_4 : decode cX5_addTwist 4 = .ok (.invokevirtual 41, 3) := by decide +kernel
theorem dX5_addTwist_7 : decode cX5_addTwist 7 = .ok (.if_icmp .ge 54, 3) := by decide +kernel
theorem dX5_addTwist_10 : decode cX5_addTwist 10 = .ok (.aload_n 1, 1) := by decide +kernel
theorem dX5_addTwist_11 : decode cX5_addTwist 11 = .ok (.aload_n 0, 1) := by decide +kernel
theorem dX5_addTwist_12 : decode cX5_addTwist 12 = .ok (.getfield 22, 3) := by decide +kernel
theorem dX5_addTwist_15 : decode cX5_addTwist 15 = .ok (.iload_n 3, 1) := by decide +kernel
theorem dX5_addTwist_16 : decode cX5_addTwist 16 = .ok (.invokevirtual 47, 3) := by decide +kernel
theorem dX5_addTwist_19 : decode cX5_addTwist 19 = .ok (.istore 4, 2) := by decide +kernel
theorem dX5_addTwist_21 : decode cX5_addTwist 21 = .ok (.aload_n 0, 1) := by decide +kernel
theorem dX5_addTwist_22 : decode cX5_addTwist 22 = .ok (.getfield 22, 3) := by decide +kernel
theorem dX5_addTwist_25 : decode cX5_addTwist 25 = .ok (.iload 4, 2) := by decide +kernel
theorem dX5_addTwist_27 : decode cX5_addTwist 27 = .ok (.invokevirtual 51, 3) := by decide +kernel
theorem dX5_addTwist_30 : decode cX5_addTwist 30 = .ok (.ifCond .eq 23, 3) := by decide +kernel
theorem dX5_addTwist_33 : decode cX5_addTwist 33 = .ok (.aload_n 0, 1) := by decide +kernel
theorem dX5_addTwist_34 : decode cX5_addTwist 34 = .ok (.getfield 9, 3) := by decide +kernel
theorem dX5_addTwist_37 : decode cX5_addTwist 37 = .ok (.iload 4, 2) := by decide +kernel
theorem dX5_addTwist_39 : decode cX5_addTwist 39 = .ok (.iaload, 1) := by decide +kernel
theorem dX5_addTwist_40 : decode cX5_addTwist 40 = .ok (.iload_n 2, 1) := by decide +kernel
theorem dX5_addTwist_41 : decode cX5_addTwist 41 = .ok (.iload_n 3, 1) := by decide +kernel
theorem dX5_addTwist_42 : decode cX5_addTwist 42 = .ok (.invokestatic 55, 3) := by decide +kernel
theorem dX5_addTwist_45 : decode cX5_addTwist 45 = .ok (.imul, 1) := by decide +kernel
theorem dX5_addTwist_46 : decode cX5_addTwist 46 = .ok (.iadd, 1) := by decide +kernel
theorem dX5_addTwist_47 : decode cX5_addTwist 47 = .ok (.invokestatic 59, 3) := by decide +kernel
theorem dX5_addTwist_50 : decode cX5_addTwist 50 = .ok (.ifCond .ne 5, 3) := by decide +kernel
theorem dX5_addTwist_53 : decode cX5_addTwist 53 = .ok (.iconst 0, 1) := by decide +kernel
theorem dX5_addTwist_54 : decode cX5_addTwist 54 = .ok (.ireturn, 1) := by decide +kernel
theorem dX5_addTwist_55 : decode cX5_addTwist 55 = .ok (.iinc 3 1, 3) := by decide +kernel
theorem dX5_addTwist_58 : decode cX5_addTwist 58 = .ok (.goto (-56), 3) := by decide +kernel
theorem dX5_addTwist_61 : decode cX5_addTwist 61 = .ok (.iconst 0, 1) := by decide +kernel
theorem dX5_addTwist_62 : decode cX5_addTwist 62 = .ok (.istore_n 3, 1) := by decide +kernel
theorem dX5_addTwist_63 : decode cX5_addTwist 63 = .ok (.iload_n 3, 1) := by decide +kernel
theorem dX5_addTwist_64 : decode cX5_addTwist 64 = .ok (.aload_n 1, 1) := by decide +kernel
theorem dX5_addTwist_65 : decode cX5_addTwist 65 = .ok (.invokevirtual 41, 3) := by decide +kernel
theorem dX5_addTwist_68 : decode cX5_addTwist 68 = .ok (.if_icmp .ge 48, 3) := by decide +kernel
theorem dX5_addTwist_71 : decode cX5_addTwist 71 = .ok (.aload_n 1, 1) := by decide +kernel
theorem dX5_addTwist_72 : decode cX5_addTwist 72 = .ok (.aload_n 0, 1) := by decide +kernel
theorem dX5_addTwist_73 : decode cX5_addTwist 73 = .ok (.getfield 22, 3) := by decide +kernel
theorem dX5_addTwist_76 : decode cX5_addTwist 76 = .ok (.iload_n 3, 1) := by decide +kernel
theorem dX5_addTwist_77 : decode cX5_addTwist 77 = .ok (.invokevirtual 47, 3) := by decide +kernel
theorem dX5_addTwist_80 : decode cX5_addTwist 80 = .ok (.istore 4, 2) := by decide +kernel
theorem dX5_addTwist_82 : decode cX5_addTwist 82 = .ok (.aload_n 0, 1) := by decide +kernel
theorem dX5_addTwist_83 : decode cX5_addTwist 83 = .ok (.getfield 22, 3) := by decide +kernel
theorem dX5_addTwist_86 : decode cX5_addTwist 86 = .ok (.iload 4, 2) := by decide +kernel
theorem dX5_addTwist_88 : decode cX5_addTwist 88 = .ok (.invokevirtual 51, 3) := by decide +kernel
theorem dX5_addTwist_91 : decode cX5_addTwist 91 = .ok (.ifCond .eq 19, 3) := by decide +kernel
theorem dX5_addTwist_94 : decode cX5_addTwist 94 = .ok (.aload_n 0, 1) := by decide +kernel
theorem dX5_addTwist_95 : decode cX5_addTwist 95 = .ok (.getfield 9, 3) := by decide +kernel
theorem dX5_addTwist_98 : decode cX5_addTwist 98 = .ok (.iload 4, 2) := by decide +kernel
theorem dX5_addTwist_100 : decode cX5_addTwist 100 = .ok (.dup2, 1) := by decide +kernel
theorem dX5_addTwist_101 : decode cX5_addTwist 101 = .ok (.iaload, 1) := by decide +kernel
theorem dX5_addTwist_102 : decode cX5_addTwist 102 = .ok (.iload_n 2, 1) := by decide +kernel
theorem dX5_addTwist_103 : decode cX5_addTwist 103 = .ok (.iload_n 3, 1) := by decide +kernel
theorem dX5_addTwist_104 : decode cX5_addTwist 104 = .ok (.invokestatic 55, 3) := by decide +kernel
theorem dX5_addTwist_107 : decode cX5_addTwist 107 = .ok (.imul, 1) := by decide +kernel
theorem dX5_addTwist_108 : decode cX5_addTwist 108 = .ok (.iadd, 1) := by decide +kernel
theorem dX5_addTwist_109 : decode cX5_addTwist 109 = .ok (.iastore, 1) := by decide +kernel
theorem dX5_addTwist_110 : decode cX5_addTwist 110 = .ok (.iinc 3 1, 3) := by decide +kernel
theorem dX5_addTwist_113 : decode cX5_addTwist 113 = .ok (.goto (-50), 3) := by decide +kernel
theorem dX5_addTwist_116 : decode cX5_addTwist 116 = .ok (.iconst 1, 1) := by decide +kernel
theorem dX5_addTwist_117 : decode cX5_addTwist 117 = .ok (.ireturn, 1) := by decide +kernel
theorem dX5_takeDifference_0 : decode cX5_takeDifference 0 = .ok (.iconst 0, 1) := by decide +kernel
theorem dX5_takeDifference_1 : decode cX5_takeDifference 1 = .ok (.istore_n 1, 1) := by decide +kernel
theorem dX5_takeDifference_2 : decode cX5_takeDifference 2 = .ok (.iload_n 1, 1) := by decide +kernel
theorem dX5_takeDifference_3 : decode cX5_takeDifference 3 = .ok (.aload_n 0, 1) := by decide +kernel
theorem dX5_takeDifference_4 : decode cX5_takeDifference 4 = .ok (.getfield 22, 3) := by decide +kernel
theorem dX5_takeDifference_7 : decode cX5_takeDifference 7 = .ok (.getfield 35, 3) := by decide +kernel
theorem dX5_takeDifference_10 : decode cX5_takeDifference 10 = .ok (.if_icmp .ge 48, 3) := by decide +kernel
theorem dX5_takeDifference_13 : decode cX5_takeDifference 13 = .ok (.aload_n 0, 1) := by decide +kernel
theorem dX5_takeDifference_14 : decode cX5_takeDifference 14 = .ok (.getfield 9, 3) := by decide +kernel
theorem dX5_takeDifference_17 : decode cX5_takeDifference 17 = .ok (.iload_n 1, 1) := by decide +kernel
theorem dX5_takeDifference_18 : decode cX5_takeDifference 18 = .ok (.aload_n 0, 1) := by decide +kernel
theorem dX5_takeDifference_19 : decode cX5_takeDifference 19 = .ok (.getfield 15, 3) := by decide +kernel
theorem dX5_takeDifference_22 : decode cX5_takeDifference 22 = .ok (.iload_n 1, 1) := by decide +kernel
theorem dX5_takeDifference_23 : decode cX5_takeDifference 23 = .ok (.invokestatic 62, 3) := by decide +kernel
theorem dX5_takeDifference_26 : decode cX5_takeDifference 26 = .ok (.ifCond .eq 7, 3) := by decide +kernel
theorem dX5_takeDifference_29 : decode cX5_takeDifference 29 = .ok (.iconst 1, 1) := by decide +kernel
theorem dX5_takeDifference_30 : decode cX5_takeDifference 30 = .ok (.goto 4, 3) := by decide +kernel
theorem dX5_takeDifference_33 : decode cX5_takeDifference 33 = .ok (.iconst 0, 1) := by decide +kernel
theorem dX5_takeDifference_34 : decode cX5_takeDifference 34 = .ok (.aload_n 0, 1) := by decide +kernel
theorem dX5_takeDifference_35 : decode cX5_takeDifference 35 = .ok (.getfield 19, 3) := by decide +kernel
theorem dX5_takeDifference_38 : decode cX5_takeDifference 38 = .ok (.iload_n 1, 1) := by decide +kernel
theorem dX5_takeDifference_39 : decode cX5_takeDifference 39 = .ok (.invokestatic 62, 3) := by decide +kernel
theorem dX5_takeDifference_42 : decode cX5_takeDifference 42 = .ok (.ifCond .eq 7, 3) := by decide +kernel
theorem dX5_takeDifference_45 : decode cX5_takeDifference 45 = .ok (.iconst 1, 1) := by decide +kernel
theorem dX5_takeDifference_46 : decode cX5_takeDifference 46 = .ok (.goto 4, 3) := by decide +kernel
theorem dX5_takeDifference_49 : decode cX5_takeDifference 49 = .ok (.iconst 0, 1) := by decide +kernel
theorem dX5_takeDifference_50 : decode cX5_takeDifference 50 = .ok (.isub, 1) := by decide +kernel
theorem dX5_takeDifference_51 : decode cX5_takeDifference 51 = .ok (.iastore, 1) := by decide +kernel
theorem dX5_takeDifference_52 : decode cX5_takeDifference 52 = .ok (.iinc 1 1, 3) := by decide +kernel
theorem dX5_takeDifference_55 : decode cX5_takeDifference 55 = .ok (.goto (-53), 3) := by decide +kernel
theorem dX5_takeDifference_58 : decode cX5_takeDifference 58 = .ok (.return_, 1) := by decide +kernel
theorem dX5_exchangePoints_0 : decode cX5_exchangePoints 0 = .ok (.iconst 0, 1) := by decide +kernel
theorem dX5_exchangePoints_1 : decode cX5_exchangePoints 1 = .ok (.istore_n 3, 1) := by decide +kernel
theorem dX5_exchangePoints_2 : decode cX5_exchangePoints 2 = .ok (.iload_n 3, 1) := by decide +kernel
theorem dX5_exchangePoints_3 : decode cX5_exchangePoints 3 = .ok (.aload_n 0, 1) := by decide +kernel
theorem dX5_exchangePoints_4 : decode cX5_exchangePoints 4 = .ok (.getfield 22, 3) := by decide +kernel
theorem dX5_exchangePoints_7 : decode cX5_exchangePoints 7 = .ok (.getfield 35, 3) := by decide +kernel
theorem dX5_exchangePoints_10 : decode cX5_exchangePoints 10 = .ok (.if_icmp .ge 110, 3) := by decide +kernel
theorem dX5_exchangePoints_13 : decode cX5_exchangePoints 13 = .ok (.aload_n 0, 1) := by decide +kernel
theorem dX5_exchangePoints_14 : decode cX5_exchangePoints 14 = .ok (.getfield 22, 3) := by decide +kernel
theorem dX5_exchangePoints_17 : decode cX5_exchangePoints 17 = .ok (.aload_n 0, 1) := by decide +kernel
theorem dX5_exchangePoints_18 : decode cX5_exchangePoints 18 = .ok (.getfield 22, 3) := by decide +kernel
theorem dX5_exchangePoints_21 : decode cX5_exchangePoints 21 = .ok (.getfield 66, 3) := by decide +kernel
theorem dX5_exchangePoints_24 : decode cX5_exchangePoints 24 = .ok (.iload_n 3, 1) := by decide +kernel
theorem dX5_exchangePoints_25 : decode cX5_exchangePoints 25 = .ok (.iaload, 1) := by decide +kernel
theorem dX5_exchangePoints_26 : decode cX5_exchangePoints 26 = .ok (.i2l, 1) := by decide +kernel
theorem dX5_exchangePoints_27 : decode cX5_exchangePoints 27 = .ok (.iload_n 1, 1) := by decide +kernel
theorem dX5_exchangePoints_28 : decode cX5_exchangePoints 28 = .ok (.iload_n 2, 1) := by decide +kernel
theorem dX5_exchangePoints_29 : decode cX5_exchangePoints 29 = .ok (.invokestatic 69, 3) := by decide +kernel
theorem dX5_exchangePoints_32 : decode cX5_exchangePoints 32 = .ok (.l2i, 1) := by decide +kernel
theorem dX5_exchangePoints_33 : decode cX5_exchangePoints 33 = .ok (.invokevirtual 73, 3) := by decide +kernel
theorem dX5_exchangePoints_36 : decode cX5_exchangePoints 36 = .ok (.istore 4, 2) := by decide +kernel
theorem dX5_exchangePoints_38 : decode cX5_exchangePoints 38 = .ok (.iload 4, 2) := by decide +kernel
theorem dX5_exchangePoints_40 : decode cX5_exchangePoints 40 = .ok (.iload_n 3, 1) := by decide +kernel
theorem dX5_exchangePoints_41 : decode cX5_exchangePoints 41 = .ok (.if_icmp .le 73, 3) := by decide +kernel
theorem dX5_exchangePoints_44 : decode cX5_exchangePoints 44 = .ok (.aload_n 0, 1) := by decide +kernel
theorem dX5_exchangePoints_45 : decode cX5_exchangePoints 45 = .ok (.getfield 22, 3) := by decide +kernel
theorem dX5_exchangePoints_48 : decode cX5_exchangePoints 48 = .ok (.iload 4, 2) := by decide +kernel
theorem dX5_exchangePoints_50 : decode cX5_exchangePoints 50 = .ok (.invokevirtual 51, 3) := by decide +kernel
theorem dX5_exchangePoints_53 : decode cX5_exchangePoints 53 = .ok (.ifCond .eq 61, 3) := by decide +kernel
theorem dX5_exchangePoints_56 : decode cX5_exchangePoints 56 = .ok (.aload_n 0, 1) := by decide +kernel
theorem dX5_exchangePoints_57 : decode cX5_exchangePoints 57 = .ok (.getfield 9, 3) := by decide +kernel
theorem dX5_exchangePoints_60 : decode cX5_exchangePoints 60 = .ok (.iload_n 3, 1) := by decide +kernel
theorem dX5_exchangePoints_61 : decode cX5_exchangePoints 61 = .ok (.iaload, 1) := by decide +kernel
theorem dX5_exchangePoints_62 : decode cX5_exchangePoints 62 = .ok (.istore 5, 2) := by decide +kernel
theorem dX5_exchangePoints_64 : decode cX5_exchangePoints 64 = .ok (.aload_n 0, 1) := by decide +kernel
theorem dX5_exchangePoints_65 : decode cX5_exchangePoints 65 = .ok (.getfield 9, 3) := by decide +kernel
theorem dX5_exchangePoints_68 : decode cX5_exchangePoints 68 = .ok (.iload_n 3, 1) := by decide +kernel
theorem dX5_exchangePoints_69 : decode cX5_exchangePoints 69 = .ok (.aload_n 0, 1) := by decide +kernel
theorem dX5_exchangePoints_70 : decode cX5_exchangePoints 70 = .ok (.getfield 9, 3) := by decide +kernel
theorem dX5_exchangePoints_73 : decode cX5_exchangePoints 73 = .ok (.iload 4, 2) := by decide +kernel
theorem dX5_exchangePoints_75 : decode cX5_exchangePoints 75 = .ok (.iaload, 1) := by decide +kernel
theorem dX5_exchangePoints_76 : decode cX5_exchangePoints 76 = .ok (.iastore, 1) := by decide +kernel
theorem dX5_exchangePoints_77 : decode cX5_exchangePoints 77 = .ok (.aload_n 0, 1) := by decide +kernel
theorem dX5_exchangePoints_78 : decode cX5_exchangePoints 78 = .ok (.getfield 9, 3) := by decide +kernel
theorem dX5_exchangePoints_81 : decode cX5_exchangePoints 81 = .ok (.iload 4, 2) := by decide +kernel
theorem dX5_exchangePoints_83 : decode cX5_exchangePoints 83 = .ok (.iload 5, 2) := by decide +kernel
theorem dX5_exchangePoints_85 : decode cX5_exchangePoints 85 = .ok (.iastore, 1) := by decide +kernel
theorem dX5_exchangePoints_86 : decode cX5_exchangePoints 86 = .ok (.aload_n 0, 1) := by decide +kernel
theorem dX5_exchangePoints_87 : decode cX5_exchangePoints 87 = .ok (.aload_n 0, 1) := by decide +kernel
theorem dX5_exchangePoints_88 : decode cX5_exchangePoints 88 = .ok (.getfield 15, 3) := by decide +kernel
theorem dX5_exchangePoints_91 : decode cX5_exchangePoints 91 = .ok (.iload_n 3, 1) := by decide +kernel
theorem dX5_exchangePoints_92 : decode cX5_exchangePoints 92 = .ok (.iload 4, 2) := by decide +kernel
theorem dX5_exchangePoints_94 : decode cX5_exchangePoints 94 = .ok (.invokestatic 69, 3) := by decide +kernel
theorem dX5_exchangePoints_97 : decode cX5_exchangePoints 97 = .ok (.putfield 15, 3) := by decide +kernel
theorem dX5_exchangePoints_100 : decode cX5_exchangePoints 100 = .ok (.aload_n 0, 1) := by decide +kernel
theorem dX5_exchangePoints_101 : decode cX5_exchangePoints 101 = .ok (.aload_n 0, 1) := by decide +kernel
theorem dX5_exchangePoints_102 : decode cX5_exchangePoints 102 = .ok (.getfield 19, 3) := by decide +kernel
theorem dX5_exchangePoints_105 : decode cX5_exchangePoints 105 = .ok (.iload_n 3, 1) := by decide +kernel
theorem dX5_exchangePoints_106 : decode cX5_exchangePoints 106 = .ok (.iload 4, 2) := by decide +kernel
theorem dX5_exchangePoints_108 : decode cX5_exchangePoints 108 = .ok (.invokestatic 69, 3) := by decide +kernel
theorem dX5_exchangePoints_111 : decode cX5_exchangePoints 111 = .ok (.putfield 19, 3) := by decide +kernel
theorem dX5_exchangePoints_114 : decode cX5_exchangePoints 114 = .ok (.iinc 3 1, 3) := by decide +kernel
theorem dX5_exchangePoints_117 : decode cX5_exchangePoints 117 = .ok (.goto (-115), 3) := by decide +kernel
theorem dX5_exchangePoints_120 : decode cX5_exchangePoints 120 = .ok (.return_, 1) := by decide +kernel
theorem dX5_mayBeSwapped_0 : decode cX5_mayBeSwapped 0 = .ok (.iconst 1, 1) := by decide +kernel
theorem dX5_mayBeSwapped_1 : decode cX5_mayBeSwapped 1 = .ok (.istore_n 1, 1) := by decide +kernel
theorem dX5_mayBeSwapped_2 : decode cX5_mayBeSwapped 2 = .ok (.iconst 0, 1) := by decide +kernel
theorem dX5_mayBeSwapped_3 : decode cX5_mayBeSwapped 3 = .ok (.istore_n 2, 1) := by decide +kernel
theorem dX5_mayBeSwapped_4 : decode cX5_mayBeSwapped 4 = .ok (.iload_n 2, 1) := by decide +kernel
theorem dX5_mayBeSwapped_5 : decode cX5_mayBeSwapped 5 = .ok (.aload_n 0, 1) := by decide +kernel
theorem dX5_mayBeSwapped_6 : decode cX5_mayBeSwapped 6 = .ok (.getfield 22, 3) := by decide +kernel
theorem dX5_mayBeSwapped_9 : decode cX5_mayBeSwapped 9 = .ok (.getfield 35, 3) := by decide +kernel
theorem dX5_mayBeSwapped_12 : decode cX5_mayBeSwapped 12 = .ok (.if_icmp .ge 44, 3) := by decide +kernel
theorem dX5_mayBeSwapped_15 : decode cX5_mayBeSwapped 15 = .ok (.aload_n 0, 1) := by decide +kernel
theorem dX5_mayBeSwapped_16 : decode cX5_mayBeSwapped 16 = .ok (.getfield 9, 3) := by decide +kernel
theorem dX5_mayBeSwapped_19 : decode cX5_mayBeSwapped 19 = .ok (.iload_n 2, 1) := by decide +kernel
theorem dX5_mayBeSwapped_20 : decode cX5_mayBeSwapped 20 = .ok (.iaload, 1) := by decide +kernel
theorem dX5_mayBeSwapped_21 : decode cX5_mayBeSwapped 21 = .ok (.istore_n 3, 1) := by decide +kernel
theorem dX5_mayBeSwapped_22 : decode cX5_mayBeSwapped 22 = .ok (.iload_n 3, 1) := by decide +kernel
theorem dX5_mayBeSwapped_23 : decode cX5_mayBeSwapped 23 = .ok (.ifCond .eq 27, 3) := by decide +kernel
theorem dX5_mayBeSwapped_26 : decode cX5_mayBeSwapped 26 = .ok (.iconst 0, 1) := by decide +kernel
theorem dX5_mayBeSwapped_27 : decode cX5_mayBeSwapped 27 = .ok (.istore_n 1, 1) := by decide +kernel
theorem dX5_mayBeSwapped_28 : decode cX5_mayBeSwapped 28 = .ok (.iload_n 3, 1) := by decide +kernel
theorem dX5_mayBeSwapped_29 : decode cX5_mayBeSwapped 29 = .ok (.aload_n 0, 1) := by decide +kernel
theorem dX5_mayBeSwapped_30 : decode cX5_mayBeSwapped 30 = .ok (.getfield 15, 3) := by decide +kernel
theorem dX5_mayBeSwapped_33 : decode cX5_mayBeSwapped 33 = .ok (.iload_n 2, 1) := by decide +kernel
theorem dX5_mayBeSwapped_34 : decode cX5_mayBeSwapped 34 = .ok (.invokestatic 62, 3) := by decide +kernel
theorem dX5_mayBeSwapped_37 : decode cX5_mayBeSwapped 37 = .ok (.ifCond .eq 7, 3) := by decide +kernel
theorem dX5_mayBeSwapped_40 : decode cX5_mayBeSwapped 40 = .ok (.iconst (-1), 1) := by decide +kernel
theorem dX5_mayBeSwapped_41 : decode cX5_mayBeSwapped 41 = .ok (.goto 4, 3) := by decide +kernel
theorem dX5_mayBeSwapped_44 : decode cX5_mayBeSwapped 44 = .ok (.iconst 1, 1) := by decide +kernel
theorem dX5_mayBeSwapped_45 : decode cX5_mayBeSwapped 45 = .ok (.if_icmp .eq 5, 3) := by decide +kernel
theorem dX5_mayBeSwapped_48 : decode cX5_mayBeSwapped 48 = .ok (.iconst 0, 1) := by decide +kernel
theorem dX5_mayBeSwapped_49 : decode cX5_mayBeSwapped 49 = .ok (.ireturn, 1) := by decide +kernel
theorem dX5_mayBeSwapped_50 : decode cX5_mayBeSwapped 50 = .ok (.iinc 2 1, 3) := by decide +kernel
theorem dX5_mayBeSwapped_53 : decode cX5_mayBeSwapped 53 = .ok (.goto (-49), 3) := by decide +kernel
theorem dX5_mayBeSwapped_56 : decode cX5_mayBeSwapped 56 = .ok (.iload_n 1, 1) := by decide +kernel
theorem dX5_mayBeSwapped_57 : decode cX5_mayBeSwapped 57 = .ok (.ifCond .ne 14, 3) := by decide +kernel
theorem dX5_mayBeSwapped_60 : decode cX5_mayBeSwapped 60 = .ok (.aload_n 0, 1) := by decide +kernel
theorem dX5_mayBeSwapped_61 : decode cX5_mayBeSwapped 61 = .ok (.invokevirtual 76, 3) := by decide +kernel
theorem dX5_mayBeSwapped_64 : decode cX5_mayBeSwapped 64 = .ok (.ifCond .eq 7, 3) := by decide +kernel
theorem dX5_mayBeSwapped_67 : decode cX5_mayBeSwapped 67 = .ok (.iconst 1, 1) := by decide +kernel
theorem dX5_mayBeSwapped_68 : decode cX5_mayBeSwapped 68 = .ok (.goto 4, 3) := by decide +kernel
theorem dX5_mayBeSwapped_71 : decode cX5_mayBeSwapped 71 = .ok (.iconst 0, 1) := by decide +kernel
theorem dX5_mayBeSwapped_72 : decode cX5_mayBeSwapped 72 = .ok (.ireturn, 1) := by decide +kernel
theorem dX5_swapByRow_0 : decode cX5_swapByRow 0 = .ok (.iconst 0, 1) := by decide +kernel
theorem dX5_swapByRow_1 : decode cX5_swapByRow 1 = .ok (.istore_n 1, 1) := by decide +kernel
theorem dX5_swapByRow_2 : decode cX5_swapByRow 2 = .ok (.iload_n 1, 1) := by decide +kernel
theorem dX5_swapByRow_3 : decode cX5_swapByRow 3 = .ok (.aload_n 0, 1) := by decide +kernel
theorem dX5_swapByRow_4 : decode cX5_swapByRow 4 = .ok (.getfield 22, 3) := by decide +kernel
theorem dX5_swapByRow_7 : decode cX5_swapByRow 7 = .ok (.getfield 35, 3) := by decide +kernel
theorem dX5_swapByRow_10 : decode cX5_swapByRow 10 = .ok (.if_icmp .ge 23, 3) := by decide +kernel
theorem dX5_swapByRow_13 : decode cX5_swapByRow 13 = .ok (.aload_n 0, 1) := by decide +kernel
theorem dX5_swapByRow_14 : decode cX5_swapByRow 14 = .ok (.getfield 9, 3) := by decide +kernel
theorem dX5_swapByRow_17 : decode cX5_swapByRow 17 = .ok (.iload_n 1, 1) := by decide +kernel
theorem dX5_swapByRow_18 : decode cX5_swapByRow 18 = .ok (.iaload, 1) := by decide +kernel
theorem dX5_swapByRow_19 : decode cX5_swapByRow 19 = .ok (.ifCond .eq 8, 3) := by decide +kernel
theorem dX5_swapByRow_22 : decode cX5_swapByRow 22 = .ok (.aload_n 0, 1) := by decide +kernel
theorem dX5_swapByRow_23 : decode cX5_swapByRow 23 = .ok (.iload_n 1, 1) := by decide +kernel
theorem dX5_swapByRow_24 : decode cX5_swapByRow 24 = .ok (.invokevirtual 80, 3) := by decide +kernel
theorem dX5_swapByRow_27 : decode cX5_swapByRow 27 = .ok (.iinc 1 1, 3) := by decide +kernel
theorem dX5_swapByRow_30 : decode cX5_swapByRow 30 = .ok (.goto (-28), 3) := by decide +kernel
theorem dX5_swapByRow_33 : decode cX5_swapByRow 33 = .ok (.return_, 1) := by decide +kernel
theorem dX5_volume_0 : decode cX5_volume 0 = .ok (.iconst 0, 1) := by decide +kernel
theorem dX5_volume_1 : decode cX5_volume 1 = .ok (.istore_n 1, 1) := by decide +kernel
theorem dX5_volume_2 : decode cX5_volume 2 = .ok (.iconst 0, 1) := by decide +kernel
theorem dX5_volume_3 : decode cX5_volume 3 = .ok (.istore_n 2, 1) := by decide +kernel
theorem dX5_volume_4 : decode cX5_volume 4 = .ok (.iload_n 2, 1) := by decide +kernel
theorem dX5_volume_5 : decode cX5_volume 5 = .ok (.aload_n 0, 1) := by decide +kernel
theorem dX5_volume_6 : decode cX5_volume 6 = .ok (.getfield 22, 3) := by decide +kernel
theorem dX5_volume_9 : decode cX5_volume 9 = .ok (.getfield 35, 3) := by decide +kernel
theorem dX5_volume_12 : decode cX5_volume 12 = .ok (.if_icmp .ge 22, 3) := by decide +kernel
theorem dX5_volume_15 : decode cX5_volume 15 = .ok (.iload_n 1, 1) := by decide +kernel
theorem dX5_volume_16 : decode cX5_volume 16 = .ok (.aload_n 0, 1) := by decide +kernel
theorem dX5_volume_17 : decode cX5_volume 17 = .ok (.getfield 9, 3) := by decide +kernel
theorem dX5_volume_20 : decode cX5_volume 20 = .ok (.iload_n 2, 1) := by decide +kernel
theorem dX5_volume_21 : decode cX5_volume 21 = .ok (.iaload, 1) := by decide +kernel
theorem dX5_volume_22 : decode cX5_volume 22 = .ok (.iconst 0, 1) := by decide +kernel
theorem dX5_volume_23 : decode cX5_volume 23 = .ok (.invokestatic 84, 3) := by decide +kernel
theorem dX5_volume_26 : decode cX5_volume 26 = .ok (.iadd, 1) := by decide +kernel
theorem dX5_volume_27 : decode cX5_volume 27 = .ok (.istore_n 1, 1) := by decide +kernel
theorem dX5_volume_28 : decode cX5_volume 28 = .ok (.iinc 2 1, 3) := by decide +kernel
theorem dX5_volume_31 : decode cX5_volume 31 = .ok (.goto (-27), 3) := by decide +kernel
theorem dX5_volume_34 : decode cX5_volume 34 = .ok (.iload_n 1, 1) := by decide +kernel
theorem dX5_volume_35 : decode cX5_volume 35 = .ok (.ireturn, 1) := by decide +kernel
theorem dX5_countsNotZero_0 : decode cX5_countsNotZero 0 = .ok (.iconst 0, 1) := by decide +kernel
theorem dX5_countsNotZero_1 : decode cX5_countsNotZero 1 = .ok (.istore_n 1, 1) := by decide +kernel
theorem dX5_countsNotZero_2 : decode cX5_countsNotZero 2 = .ok (.iconst 0, 1) := by decide +kernel
theorem dX5_countsNotZero_3 : decode cX5_countsNotZero 3 = .ok (.istore_n 2, 1) := by decide +kernel
theorem dX5_countsNotZero_4 : decode cX5_countsNotZero 4 = .ok (.iload_n 2, 1) := by decide +kernel
theorem dX5_countsNotZero_5 : decode cX5_countsNotZero 5 = .ok (.aload_n 0, 1) := by decide +kernel
theorem dX5_countsNotZero_6 : decode cX5_countsNotZero 6 = .ok (.getfield 22, 3) := by decide +kernel
theorem dX5_countsNotZero_9 : decode cX5_countsNotZero 9 = .ok (.getfield 35, 3) := by decide +kernel
theorem dX5_countsNotZero_12 : decode cX5_countsNotZero 12 = .ok (.if_icmp .ge 21, 3) := by decide +kernel
theorem dX5_countsNotZero_15 : decode cX5_countsNotZero 15 = .ok (.aload_n 0, 1) := by decide +kernel
theorem dX5_countsNotZero_16 : decode cX5_countsNotZero 16 = .ok (.getfield 9, 3) := by decide +kernel
theorem dX5_countsNotZero_19 : decode cX5_countsNotZero 19 = .ok (.iload_n 2, 1) := by decide +kernel
theorem dX5_countsNotZero_20 : decode cX5_countsNotZero 20 = .ok (.iaload, 1) := by decide +kernel
theorem dX5_countsNotZero_21 : decode cX5_countsNotZero 21 = .ok (.ifCond .eq 6, 3) := by decide +kernel
theorem dX5_countsNotZero_24 : decode cX5_countsNotZero 24 = .ok (.iinc 1 1, 3) := by decide +kernel
theorem dX5_countsNotZero_27 : decode cX5_countsNotZero 27 = .ok (.iinc 2 1, 3) := by decide +kernel
theorem dX5_countsNotZero_30 : decode cX5_countsNotZero 30 = .ok (.goto (-26), 3) := by decide +kernel
theorem dX5_countsNotZero_33 : decode cX5_countsNotZero 33 = .ok (.iload_n 1, 1) := by decide +kernel
theorem dX5_countsNotZero_34 : decode cX5_countsNotZero 34 = .ok (.ireturn, 1) := by decide +kernel
theorem dX5_foundation_0 : decode cX5_foundation 0 = .ok (.iconst 0, 1) := by decide +kernel
theorem dX5_foundation_1 : decode cX5_foundation 1 = .ok (.istore_n 1, 1) := by decide +kernel
theorem dX5_foundation_2 : decode cX5_foundation 2 = .ok (.iconst 0, 1) := by decide +kernel
theorem dX5_foundation_3 : decode cX5_foundation 3 = .ok (.istore_n 2, 1) := by decide +kernel
theorem dX5_foundation_4 : decode cX5_foundation 4 = .ok (.iload_n 2, 1) := by decide +kernel
theorem dX5_foundation_5 : decode cX5_foundation 5 = .ok (.aload_n 0, 1) := by decide +kernel
theorem dX5_foundation_6 : decode cX5_foundation 6 = .ok (.getfield 22, 3) := by decide +kernel
theorem dX5_foundation_9 : decode cX5_foundation 9 = .ok (.getfield 35, 3) := by decide +kernel
theorem dX5_foundation_12 : decode cX5_foundation 12 = .ok (.if_icmp .ge 30, 3) := by decide +kernel
theorem dX5_foundation_15 : decode cX5_foundation 15 = .ok (.aload_n 0, 1) := by decide +kernel
theorem dX5_foundation_16 : decode cX5_foundation 16 = .ok (.getfield 9, 3) := by decide +kernel
theorem dX5_foundation_19 : decode cX5_foundation 19 = .ok (.iload_n 2, 1) := by decide +kernel
theorem dX5_foundation_20 : decode cX5_foundation 20 = .ok (.iaload, 1) := by decide +kernel
theorem dX5_foundation_21 : decode cX5_foundation 21 = .ok (.ifCond .eq 15, 3) := by decide +kernel
theorem dX5_foundation_24 : decode cX5_foundation 24 = .ok (.iload_n 1, 1) := by decide +kernel
theorem dX5_foundation_25 : decode cX5_foundation 25 = .ok (.aload_n 0, 1) := by decide +kernel
theorem dX5_foundation_26 : decode cX5_foundation 26 = .ok (.getfield 22, 3) := by decide +kernel
theorem dX5_foundation_29 : decode cX5_foundation 29 = .ok (.getfield 66, 3) := by decide +kernel
theorem dX5_foundation_32 : decode cX5_foundation 32 = .ok (.iload_n 2, 1) := by decide +kernel
theorem dX5_foundation_33 : decode cX5_foundation 33 = .ok (.iaload, 1) := by decide +kernel
theorem dX5_foundation_34 : decode cX5_foundation 34 = .ok (.ior, 1) := by decide +kernel
theorem dX5_foundation_35 : decode cX5_foundation 35 = .ok (.istore_n 1, 1) := by decide +kernel
theorem dX5_foundation_36 : decode cX5_foundation 36 = .ok (.iinc 2 1, 3) := by decide +kernel
theorem dX5_foundation_39 : decode cX5_foundation 39 = .ok (.goto (-35), 3) := by decide +kernel
theorem dX5_foundation_42 : decode cX5_foundation 42 = .ok (.iload_n 1, 1) := by decide +kernel
theorem dX5_foundation_43 : decode cX5_foundation 43 = .ok (.ireturn, 1) := by decide +kernel
theorem dX5_isPlain_0 : decode cX5_isPlain 0 = .ok (.iconst 0, 1) := by decide +kernel
theorem dX5_isPlain_1 : decode cX5_isPlain 1 = .ok (.istore_n 1, 1) := by decide +kernel
theorem dX5_isPlain_2 : decode cX5_isPlain 2 = .ok (.iload_n 1, 1) := by decide +kernel
theorem dX5_isPlain_3 : decode cX5_isPlain 3 = .ok (.aload_n 0, 1) := by decide +kernel
theorem dX5_isPlain_4 : decode cX5_isPlain 4 = .ok (.getfield 22, 3) := by decide +kernel
theorem dX5_isPlain_7 : decode cX5_isPlain 7 = .ok (.getfield 35, 3) := by decide +kernel
theorem dX5_isPlain_10 : decode cX5_isPlain 10 = .ok (.if_icmp .ge 31, 3) := by decide +kernel
theorem dX5_isPlain_13 : decode cX5_isPlain 13 = .ok (.aload_n 0, 1) := by decide +kernel
theorem dX5_isPlain_14 : decode cX5_isPlain 14 = .ok (.getfield 9, 3) := by decide +kernel
theorem dX5_isPlain_17 : decode cX5_isPlain 17 = .ok (.iload_n 1, 1) := by decide +kernel
theorem dX5_isPlain_18 : decode cX5_isPlain 18 = .ok (.iaload, 1) := by decide +kernel
theorem dX5_isPlain_19 : decode cX5_isPlain 19 = .ok (.iconst (-1), 1) := by decide +kernel
theorem dX5_isPlain_20 : decode cX5_isPlain 20 = .ok (.if_icmp .lt 13, 3) := by decide +kernel
theorem dX5_isPlain_23 : decode cX5_isPlain 23 = .ok (.aload_n 0, 1) := by decide +kernel
theorem dX5_isPlain_24 : decode cX5_isPlain 24 = .ok (.getfield 9, 3) := by decide +kernel
theorem dX5_isPlain_27 : decode cX5_isPlain 27 = .ok (.iload_n 1, 1) := by decide +kernel
theorem dX5_isPlain_28 : decode cX5_isPlain 28 = .ok (.iaload, 1) := by decide +kernel
theorem dX5_isPlain_29 : decode cX5_isPlain 29 = .ok (.iconst 1, 1) := by decide +kernel
theorem dX5_isPlain_30 : decode cX5_isPlain 30 = .ok (.if_icmp .le 5, 3) := by decide +kernel
theorem dX5_isPlain_33 : decode cX5_isPlain 33 = .ok (.iconst 0, 1) := by decide +kernel
theorem dX5_isPlain_34 : decode cX5_isPlain 34 = .ok (.ireturn, 1) := by decide +kernel
theorem dX5_isPlain_35 : decode cX5_isPlain 35 = .ok (.iinc 1 1, 3) := by decide +kernel
theorem dX5_isPlain_38 : decode cX5_isPlain 38 = .ok (.goto (-36), 3) := by decide +kernel
theorem dX5_isPlain_41 : decode cX5_isPlain 41 = .ok (.iconst 1, 1) := by decide +kernel
theorem dX5_isPlain_42 : decode cX5_isPlain 42 = .ok (.ireturn, 1) := by decide +kernel
theorem dX5_isTrade_0 : decode cX5_isTrade 0 = .ok (.aload_n 0, 1) := by decide +kernel
theorem dX5_isTrade_1 : decode cX5_isTrade 1 = .ok (.aload_n 0, 1) := by decide +kernel
theorem dX5_isTrade_2 : decode cX5_isTrade 2 = .ok (.getfield 22, 3) := by decide +kernel
theorem dX5_isTrade_5 : decode cX5_isTrade 5 = .ok (.getfield 90, 3) := by decide +kernel
theorem dX5_isTrade_8 : decode cX5_isTrade 8 = .ok (.aload_n 0, 1) := by decide +kernel
theorem dX5_isTrade_9 : decode cX5_isTrade 9 = .ok (.getfield 22, 3) := by decide +kernel
theorem dX5_isTrade_12 : decode cX5_isTrade 12 = .ok (.getfield 90, 3) := by decide +kernel
theorem dX5_isTrade_15 : decode cX5_isTrade 15 = .ok (.invokevirtual 93, 3) := by decide +kernel
theorem dX5_isTrade_18 : decode cX5_isTrade 18 = .ok (.bipush (-5), 2) := by decide +kernel
theorem dX5_isTrade_20 : decode cX5_isTrade 20 = .ok (.if_icmp .ne 7, 3) := by decide +kernel
theorem dX5_isTrade_23 : decode cX5_isTrade 23 = .ok (.iconst 1, 1) := by decide +kernel
theorem dX5_isTrade_24 : decode cX5_isTrade 24 = .ok (.goto 4, 3) := by decide +kernel
theorem dX5_isTrade_27 : decode cX5_isTrade 27 = .ok (.iconst 0, 1) := by decide +kernel
theorem dX5_isTrade_28 : decode cX5_isTrade 28 = .ok (.ireturn, 1) := by decide +kernel
theorem dX5_firstAmiss_0 : decode cX5_firstAmiss 0 = .ok (.iload_n 1, 1) := by decide +kernel
theorem dX5_firstAmiss_1 : decode cX5_firstAmiss 1 = .ok (.istore_n 3, 1) := by decide +kernel
theorem dX5_firstAmiss_2 : decode cX5_firstAmiss 2 = .ok (.iload_n 3, 1) := by decide +kernel
theorem dX5_firstAmiss_3 : decode cX5_firstAmiss 3 = .ok (.iload_n 2, 1) := by decide +kernel
theorem dX5_firstAmiss_4 : decode cX5_firstAmiss 4 = .ok (.if_icmp .gt 53, 3) := by decide +kernel
theorem dX5_firstAmiss_7 : decode cX5_firstAmiss 7 = .ok (.iconst 0, 1) := by decide +kernel
theorem dX5_firstAmiss_8 : decode cX5_firstAmiss 8 = .ok (.istore 4, 2) := by decide +kernel
theorem dX5_firstAmiss_10 : decode cX5_firstAmiss 10 = .ok (.iload 4, 2) := by decide +kernel
theorem dX5_firstAmiss_12 : decode cX5_firstAmiss 12 = .ok (.iconst 1, 1) := by decide +kernel
theorem dX5_firstAmiss_13 : decode cX5_firstAmiss 13 = .ok (.aload_n 0, 1) := by decide +kernel
theorem dX5_firstAmiss_14 : decode cX5_firstAmiss 14 = .ok (.getfield 22, 3) := by decide +kernel
theorem dX5_firstAmiss_17 : decode cX5_firstAmiss 17 = .ok (.getfield 96, 3) := by decide +kernel
theorem dX5_firstAmiss_20 : decode cX5_firstAmiss 20 = .ok (.ishl, 1) := by decide +kernel
theorem dX5_firstAmiss_21 : decode cX5_firstAmiss 21 = .ok (.if_icmp .ge 30, 3) := by decide +kernel
theorem dX5_firstAmiss_24 : decode cX5_firstAmiss 24 = .ok (.iload 4, 2) := by decide +kernel
theorem dX5_firstAmiss_26 : decode cX5_firstAmiss 26 = .ok (.invokestatic 99, 3) := by decide +kernel
theorem dX5_firstAmiss_29 : decode cX5_firstAmiss 29 = .ok (.iload_n 3, 1) := by decide +kernel
theorem dX5_firstAmiss_30 : decode cX5_firstAmiss 30 = .ok (.if_icmp .ne 15, 3) := by decide +kernel
theorem dX5_firstAmiss_33 : decode cX5_firstAmiss 33 = .ok (.aload_n 0, 1) := by decide +kernel
theorem dX5_firstAmiss_34 : decode cX5_firstAmiss 34 = .ok (.iload 4, 2) := by decide +kernel
theorem dX5_firstAmiss_36 : decode cX5_firstAmiss 36 = .ok (.invokevirtual 104, 3) := by decide +kernel
theorem dX5_firstAmiss_39 : decode cX5_firstAmiss 39 = .ok (.ifCond .eq 6, 3) := by decide +kernel
theorem dX5_firstAmiss_42 : decode cX5_firstAmiss 42 = .ok (.iload 4, 2) := by decide +kernel
theorem dX5_firstAmiss_44 : decode cX5_firstAmiss 44 = .ok (.ireturn, 1) := by decide +kernel
theorem dX5_firstAmiss_45 : decode cX5_firstAmiss 45 = .ok (.iinc 4 1, 3) := by decide +kernel
theorem dX5_firstAmiss_48 : decode cX5_firstAmiss 48 = .ok (.goto (-38), 3) := by decide +kernel
theorem dX5_firstAmiss_51 : decode cX5_firstAmiss 51 = .ok (.iinc 3 1, 3) := by decide +kernel
theorem dX5_firstAmiss_54 : decode cX5_firstAmiss 54 = .ok (.goto (-52), 3) := by decide +kernel
theorem dX5_firstAmiss_57 : decode cX5_firstAmiss 57 = .ok (.bipush (-5), 2) := by decide +kernel
theorem dX5_firstAmiss_59 : decode cX5_firstAmiss 59 = .ok (.ireturn, 1) := by decide +kernel
theorem dX5_sumOf_0 : decode cX5_sumOf 0 = .ok (.iconst 0, 1) := by decide +kernel
theorem dX5_sumOf_1 : decode cX5_sumOf 1 = .ok (.istore_n 2, 1) := by decide +kernel
theorem dX5_sumOf_2 : decode cX5_sumOf 2 = .ok (.iconst 0, 1) := by decide +kernel
theorem dX5_sumOf_3 : decode cX5_sumOf 3 = .ok (.istore_n 3, 1) := by decide +kernel
theorem dX5_sumOf_4 : decode cX5_sumOf 4 = .ok (.iload_n 3, 1) := by decide +kernel
theorem dX5_sumOf_5 : decode cX5_sumOf 5 = .ok (.aload_n 0, 1) := by decide +kernel
theorem dX5_sumOf_6 : decode cX5_sumOf 6 = .ok (.getfield 22, 3) := by decide +kernel
theorem dX5_sumOf_9 : decode cX5_sumOf 9 = .ok (.getfield 35, 3) := by decide +kernel
theorem dX5_sumOf_12 : decode cX5_sumOf 12 = .ok (.if_icmp .ge 33, 3) := by decide +kernel
theorem dX5_sumOf_15 : decode cX5_sumOf 15 = .ok (.aload_n 0, 1) := by decide +kernel
theorem dX5_sumOf_16 : decode cX5_sumOf 16 = .ok (.getfield 22, 3) := by decide +kernel
theorem dX5_sumOf_19 : decode cX5_sumOf 19 = .ok (.getfield 66, 3) := by decide +kernel
theorem dX5_sumOf_22 : decode cX5_sumOf 22 = .ok (.iload_n 3, 1) := by decide +kernel
theorem dX5_sumOf_23 : decode cX5_sumOf 23 = .ok (.iaload, 1) := by decide +kernel
theorem dX5_sumOf_24 : decode cX5_sumOf 24 = .ok (.iload_n 1, 1) := by decide +kernel
theorem dX5_sumOf_25 : decode cX5_sumOf 25 = .ok (.iand, 1) := by decide +kernel
theorem dX5_sumOf_26 : decode cX5_sumOf 26 = .ok (.iload_n 1, 1) := by decide +kernel
theorem dX5_sumOf_27 : decode cX5_sumOf 27 = .ok (.if_icmp .ne 12, 3) := by decide +kernel
theorem dX5_sumOf_30 : decode cX5_sumOf 30 = .ok (.iload_n 2, 1) := by decide +kernel
theorem dX5_sumOf_31 : decode cX5_sumOf 31 = .ok (.aload_n 0, 1) := by decide +kernel
theorem dX5_sumOf_32 : decode cX5_sumOf 32 = .ok (.getfield 9, 3) := by decide +kernel
theorem dX5_sumOf_35 : decode cX5_sumOf 35 = .ok (.iload_n 3, 1) := by decide +kernel
theorem dX5_sumOf_36 : decode cX5_sumOf 36 = .ok (.iaload, 1) := by decide +kernel
theorem dX5_sumOf_37 : decode cX5_sumOf 37 = .ok (.iadd, 1) := by decide +kernel
theorem dX5_sumOf_38 : decode cX5_sumOf 38 = .ok (.istore_n 2, 1) := by decide +kernel
theorem dX5_sumOf_39 : decode cX5_sumOf 39 = .ok (.iinc 3 1, 3) := by decide +kernel
theorem dX5_sumOf_42 : decode cX5_sumOf 42 = .ok (.goto (-38), 3) := by decide +kernel
theorem dX5_sumOf_45 : decode cX5_sumOf 45 = .ok (.iload_n 2, 1) := by decide +kernel
theorem dX5_sumOf_46 : decode cX5_sumOf 46 = .ok (.ireturn, 1) := by decide +kernel
theorem dX5_coverOf_0 : decode cX5_coverOf 0 = .ok (.iconst 0, 1) := by decide +kernel
theorem dX5_coverOf_1 : decode cX5_coverOf 1 = .ok (.istore_n 2, 1) := by decide +kernel
theorem dX5_coverOf_2 : decode cX5_coverOf 2 = .ok (.iconst 0, 1) := by decide +kernel
theorem dX5_coverOf_3 : decode cX5_coverOf 3 = .ok (.istore_n 3, 1) := by decide +kernel
theorem dX5_coverOf_4 : decode cX5_coverOf 4 = .ok (.iload_n 3, 1) := by decide +kernel
theorem dX5_coverOf_5 : decode cX5_coverOf 5 = .ok (.aload_n 0, 1) := by decide +kernel
theorem dX5_coverOf_6 : decode cX5_coverOf 6 = .ok (.getfield 22, 3) := by decide +kernel
theorem dX5_coverOf_9 : decode cX5_coverOf 9 = .ok (.getfield 35, 3) := by decide +kernel
theorem dX5_coverOf_12 : decode cX5_coverOf 12 = .ok (.if_icmp .ge 35, 3) := by decide +kernel
theorem dX5_coverOf_15 : decode cX5_coverOf 15 = .ok (.aload_n 0, 1) := by decide +kernel
theorem dX5_coverOf_16 : decode cX5_coverOf 16 = .ok (.getfield 15, 3) := by decide +kernel
theorem dX5_coverOf_19 : decode cX5_coverOf 19 = .ok (.iload_n 3, 1) := by decide +kernel
theorem dX5_coverOf_20 : decode cX5_coverOf 20 = .ok (.invokestatic 62, 3) := by decide +kernel
theorem dX5_coverOf_23 : decode cX5_coverOf 23 = .ok (.ifCond .eq 18, 3) := by decide +kernel
theorem dX5_coverOf_26 : decode cX5_coverOf 26 = .ok (.aload_n 0, 1) := by decide +kernel
theorem dX5_coverOf_27 : decode cX5_coverOf 27 = .ok (.getfield 22, 3) := by decide +kernel
theorem dX5_coverOf_30 : decode cX5_coverOf 30 = .ok (.iload_n 3, 1) := by decide +kernel
theorem dX5_coverOf_31 : decode cX5_coverOf 31 = .ok (.iload_n 1, 1) := by decide +kernel
theorem dX5_coverOf_32 : decode cX5_coverOf 32 = .ok (.invokevirtual 107, 3) := by decide +kernel
theorem dX5_coverOf_35 : decode cX5_coverOf 35 = .ok (.ifCond .eq 6, 3) := by decide +kernel
theorem dX5_coverOf_38 : decode cX5_coverOf 38 = .ok (.iinc 2 1, 3) := by decide +kernel
theorem dX5_coverOf_41 : decode cX5_coverOf 41 = .ok (.iinc 3 1, 3) := by decide +kernel
theorem dX5_coverOf_44 : decode cX5_coverOf 44 = .ok (.goto (-40), 3) := by decide +kernel
theorem dX5_coverOf_47 : decode cX5_coverOf 47 = .ok (.iload_n 2, 1) := by decide +kernel
theorem dX5_coverOf_48 : decode cX5_coverOf 48 = .ok (.ireturn, 1) := by decide +kernel
theorem dX5_index_0 : decode cX5_index 0 = .ok (.bipush (-5), 2) := by decide +kernel
theorem dX5_index_2 : decode cX5_index 2 = .ok (.istore_n 1, 1) := by decide +kernel
theorem dX5_index_3 : decode cX5_index 3 = .ok (.iconst 0, 1) := by decide +kernel
theorem dX5_index_4 : decode cX5_index 4 = .ok (.istore_n 2, 1) := by decide +kernel
theorem dX5_index_5 : decode cX5_index 5 = .ok (.iload_n 2, 1) := by decide +kernel
theorem dX5_index_6 : decode cX5_index 6 = .ok (.iconst 1, 1) := by decide +kernel
theorem dX5_index_7 : decode cX5_index 7 = .ok (.aload_n 0, 1) := by decide +kernel
theorem dX5_index_8 : decode cX5_index 8 = .ok (.getfield 22, 3) := by decide +kernel
theorem dX5_index_11 : decode cX5_index 11 = .ok (.getfield 96, 3) := by decide +kernel
theorem dX5_index_14 : decode cX5_index 14 = .ok (.ishl, 1) := by decide +kernel
theorem dX5_index_15 : decode cX5_index 15 = .ok (.if_icmp .ge 45, 3) := by decide +kernel
theorem dX5_index_18 : decode cX5_index 18 = .ok (.iload_n 2, 1) := by decide +kernel
theorem dX5_index_19 : decode cX5_index 19 = .ok (.invokestatic 99, 3) := by decide +kernel
theorem dX5_index_22 : decode cX5_index 22 = .ok (.aload_n 0, 1) := by decide +kernel
theorem dX5_index_23 : decode cX5_index 23 = .ok (.getfield 22, 3) := by decide +kernel
theorem dX5_index_26 : decode cX5_index 26 = .ok (.getfield 90, 3) := by decide +kernel
theorem dX5_index_29 : decode cX5_index 29 = .ok (.if_icmp .ne 25, 3) := by decide +kernel
theorem dX5_index_32 : decode cX5_index 32 = .ok (.aload_n 0, 1) := by decide +kernel
theorem dX5_index_33 : decode cX5_index 33 = .ok (.iload_n 2, 1) := by decide +kernel
theorem dX5_index_34 : decode cX5_index 34 = .ok (.invokevirtual 111, 3) := by decide +kernel
theorem dX5_index_37 : decode cX5_index 37 = .ok (.istore_n 3, 1) := by decide +kernel
theorem dX5_index_38 : decode cX5_index 38 = .ok (.iload_n 1, 1) := by decide +kernel
theorem dX5_index_39 : decode cX5_index 39 = .ok (.bipush (-5), 2) := by decide +kernel
theorem dX5_index_41 : decode cX5_index 41 = .ok (.if_icmp .eq 11, 3) := by decide +kernel
theorem dX5_index_44 : decode cX5_index 44 = .ok (.iload_n 1, 1) := by decide +kernel
theorem dX5_index_45 : decode cX5_index 45 = .ok (.iload_n 3, 1) := by decide +kernel
theorem dX5_index_46 : decode cX5_index 46 = .ok (.if_icmp .eq 6, 3) := by decide +kernel
theorem dX5_index_49 : decode cX5_index 49 = .ok (.bipush (-5), 2) := by decide +kernel
theorem dX5_index_51 : decode cX5_index 51 = .ok (.ireturn, 1) := by decide +kernel
theorem dX5_index_52 : decode cX5_index 52 = .ok (.iload_n 3, 1) := by decide +kernel
theorem dX5_index_53 : decode cX5_index 53 = .ok (.istore_n 1, 1) := by decide +kernel
theorem dX5_index_54 : decode cX5_index 54 = .ok (.iinc 2 1, 3) := by decide +kernel
theorem dX5_index_57 : decode cX5_index 57 = .ok (.goto (-52), 3) := by decide +kernel
theorem dX5_index_60 : decode cX5_index 60 = .ok (.iload_n 1, 1) := by decide +kernel
theorem dX5_index_61 : decode cX5_index 61 = .ok (.ireturn, 1) := by decide +kernel
theorem dX5_signWritten_0 : decode cX5_signWritten 0 = .ok (.iload_n 1, 1) := by decide +kernel
theorem dX5_signWritten_1 : decode cX5_signWritten 1 = .ok (.istore_n 2, 1) := by decide +kernel
theorem dX5_signWritten_2 : decode cX5_signWritten 2 = .ok (.iconst 0, 1) := by decide +kernel
theorem dX5_signWritten_3 : decode cX5_signWritten 3 = .ok (.istore_n 3, 1) := by decide +kernel
theorem dX5_signWritten_4 : decode cX5_signWritten 4 = .ok (.iload_n 3, 1) := by decide +kernel
theorem dX5_signWritten_5 : decode cX5_signWritten 5 = .ok (.aload_n 0, 1) := by decide +kernel
theorem dX5_signWritten_6 : decode cX5_signWritten 6 = .ok (.getfield 22, 3) := by decide +kernel
theorem dX5_signWritten_9 : decode cX5_signWritten 9 = .ok (.getfield 35, 3) := by decide +kernel
theorem dX5_signWritten_12 : decode cX5_signWritten 12 = .ok (.if_icmp .ge 57, 3) := by decide +kernel
theorem dX5_signWritten_15 : decode cX5_signWritten 15 = .ok (.aload_n 0, 1) := by decide +kernel
theorem dX5_signWritten_16 : decode cX5_signWritten 16 = .ok (.getfield 9, 3) := by decide +kernel
theorem dX5_signWritten_19 : decode cX5_signWritten 19 = .ok (.iload_n 3, 1) := by decide +kernel
theorem dX5_signWritten_20 : decode cX5_signWritten 20 = .ok (.iaload, 1) := by decide +kernel
theorem dX5_signWritten_21 : decode cX5_signWritten 21 = .ok (.ifCond .eq 42, 3) := by decide +kernel
theorem dX5_signWritten_24 : decode cX5_signWritten 24 = .ok (.iconst 1, 1) := by decide +kernel
theorem dX5_signWritten_25 : decode cX5_signWritten 25 = .ok (.aload_n 0, 1) := by decide +kernel
theorem dX5_signWritten_26 : decode cX5_signWritten 26 = .ok (.getfield 9, 3) := by decide +kernel
theorem dX5_signWritten_29 : decode cX5_signWritten 29 = .ok (.iload_n 3, 1) := by decide +kernel
theorem dX5_signWritten_30 : decode cX5_signWritten 30 = .ok (.iaload, 1) := by decide +kernel
theorem dX5_signWritten_31 : decode cX5_signWritten 31 = .ok (.invokestatic 114, 3) := by decide +kernel
theorem dX5_signWritten_34 : decode cX5_signWritten 34 = .ok (.iadd, 1) := by decide +kernel
theorem dX5_signWritten_35 : decode cX5_signWritten 35 = .ok (.aload_n 0, 1) := by decide +kernel
theorem dX5_signWritten_36 : decode cX5_signWritten 36 = .ok (.getfield 22, 3) := by decide +kernel
theorem dX5_signWritten_39 : decode cX5_signWritten 39 = .ok (.getfield 117, 3) := by decide +kernel
theorem dX5_signWritten_42 : decode cX5_signWritten 42 = .ok (.iadd, 1) := by decide +kernel
theorem dX5_signWritten_43 : decode cX5_signWritten 43 = .ok (.istore 4, 2) := by decide +kernel
theorem dX5_signWritten_45 : decode cX5_signWritten 45 = .ok (.iload_n 2, 1) := by decide +kernel
theorem dX5_signWritten_46 : decode cX5_signWritten 46 = .ok (.iload 4, 2) := by decide +kernel
theorem dX5_signWritten_48 : decode cX5_signWritten 48 = .ok (.if_icmp .ge 10, 3) := by decide +kernel
theorem dX5_signWritten_51 : decode cX5_signWritten 51 = .ok (.aload_n 0, 1) := by decide +kernel
theorem dX5_signWritten_52 : decode cX5_signWritten 52 = .ok (.iload_n 3, 1) := by decide +kernel
theorem dX5_signWritten_53 : decode cX5_signWritten 53 = .ok (.iload_n 2, 1) := by decide +kernel
theorem dX5_signWritten_54 : decode cX5_signWritten 54 = .ok (.invokevirtual 120, 3) := by decide +kernel
theorem dX5_signWritten_57 : decode cX5_signWritten 57 = .ok (.ireturn, 1) := by decide +kernel
theorem dX5_signWritten_58 : decode cX5_signWritten 58 = .ok (.iload_n 2, 1) := by decide +kernel
theorem dX5_signWritten_59 : decode cX5_signWritten 59 = .ok (.iload 4, 2) := by decide +kernel
theorem dX5_signWritten_61 : decode cX5_signWritten 61 = .ok (.isub, 1) := by decide +kernel
theorem dX5_signWritten_62 : decode cX5_signWritten 62 = .ok (.istore_n 2, 1) := by decide +kernel
theorem dX5_signWritten_63 : decode cX5_signWritten 63 = .ok (.iinc 3 1, 3) := by decide +kernel
theorem dX5_signWritten_66 : decode cX5_signWritten 66 = .ok (.goto (-62), 3) := by decide +kernel
theorem dX5_signWritten_69 : decode cX5_signWritten 69 = .ok (.iload_n 1, 1) := by decide +kernel
theorem dX5_signWritten_70 : decode cX5_signWritten 70 = .ok (.ifCond .ne 8, 3) := by decide +kernel
theorem dX5_signWritten_73 : decode cX5_signWritten 73 = .ok (.bipush 48, 2) := by decide +kernel
theorem dX5_signWritten_75 : decode cX5_signWritten 75 = .ok (.goto 5, 3) := by decide +kernel
theorem dX5_signWritten_78 : decode cX5_signWritten 78 = .ok (.bipush (-5), 2) := by decide +kernel
theorem dX5_signWritten_80 : decode cX5_signWritten 80 = .ok (.ireturn, 1) := by decide +kernel
theorem dX5_signOfTerm_0 : decode cX5_signOfTerm 0 = .ok (.aload_n 0, 1) := by decide +kernel
theorem dX5_signOfTerm_1 : decode cX5_signOfTerm 1 = .ok (.getfield 9, 3) := by decide +kernel
theorem dX5_signOfTerm_4 : decode cX5_signOfTerm 4 = .ok (.iload_n 1, 1) := by decide +kernel
theorem dX5_signOfTerm_5 : decode cX5_signOfTerm 5 = .ok (.iaload, 1) := by decide +kernel
theorem dX5_signOfTerm_6 : decode cX5_signOfTerm 6 = .ok (.istore_n 3, 1) := by decide +kernel
theorem dX5_signOfTerm_7 : decode cX5_signOfTerm 7 = .ok (.iload_n 2, 1) := by decide +kernel
theorem dX5_signOfTerm_8 : decode cX5_signOfTerm 8 = .ok (.ifCond .ne 15, 3) := by decide +kernel
theorem dX5_signOfTerm_11 : decode cX5_signOfTerm 11 = .ok (.iload_n 3, 1) := by decide +kernel
theorem dX5_signOfTerm_12 : decode cX5_signOfTerm 12 = .ok (.ifCond .ge 8, 3) := by decide +kernel
theorem dX5_signOfTerm_15 : decode cX5_signOfTerm 15 = .ok (.bipush 45, 2) := by decide +kernel
theorem dX5_signOfTerm_17 : decode cX5_signOfTerm 17 = .ok (.goto 5, 3) := by decide +kernel
theorem dX5_signOfTerm_20 : decode cX5_signOfTerm 20 = .ok (.bipush 43, 2) := by decide +kernel
theorem dX5_signOfTerm_22 : decode cX5_signOfTerm 22 = .ok (.ireturn, 1) := by decide +kernel
theorem dX5_signOfTerm_23 : decode cX5_signOfTerm 23 = .ok (.iload_n 3, 1) := by decide +kernel
theorem dX5_signOfTerm_24 : decode cX5_signOfTerm 24 = .ok (.invokestatic 114, 3) := by decide +kernel
theorem dX5_signOfTerm_27 : decode cX5_signOfTerm 27 = .ok (.istore 4, 2) := by decide +kernel
theorem dX5_signOfTerm_29 : decode cX5_signOfTerm 29 = .ok (.iload_n 2, 1) := by decide +kernel
theorem dX5_signOfTerm_30 : decode cX5_signOfTerm 30 = .ok (.iload 4, 2) := by decide +kernel
theorem dX5_signOfTerm_32 : decode cX5_signOfTerm 32 = .ok (.if_icmp .le 25, 3) := by decide +kernel
theorem dX5_signOfTerm_35 : decode cX5_signOfTerm 35 = .ok (.bipush 48, 2) := by decide +kernel
theorem dX5_signOfTerm_37 : decode cX5_signOfTerm 37 = .ok (.aload_n 0, 1) := by decide +kernel
theorem dX5_signOfTerm_38 : decode cX5_signOfTerm 38 = .ok (.getfield 22, 3) := by decide +kernel
theorem dX5_signOfTerm_41 : decode cX5_signOfTerm 41 = .ok (.getfield 66, 3) := by decide +kernel
theorem dX5_signOfTerm_44 : decode cX5_signOfTerm 44 = .ok (.iload_n 1, 1) := by decide +kernel
theorem dX5_signOfTerm_45 : decode cX5_signOfTerm 45 = .ok (.iaload, 1) := by decide +kernel
theorem dX5_signOfTerm_46 : decode cX5_signOfTerm 46 = .ok (.iload_n 2, 1) := by decide +kernel
theorem dX5_signOfTerm_47 : decode cX5_signOfTerm 47 = .ok (.iload 4, 2) := by decide +kernel
theorem dX5_signOfTerm_49 : decode cX5_signOfTerm 49 = .ok (.isub, 1) := by decide +kernel
theorem dX5_signOfTerm_50 : decode cX5_signOfTerm 50 = .ok (.iconst 1, 1) := by decide +kernel
theorem dX5_signOfTerm_51 : decode cX5_signOfTerm 51 = .ok (.isub, 1) := by decide +kernel
theorem dX5_signOfTerm_52 : decode cX5_signOfTerm 52 = .ok (.invokestatic 123, 3) := by decide +kernel
theorem dX5_signOfTerm_55 : decode cX5_signOfTerm 55 = .ok (.iadd, 1) := by decide +kernel
theorem dX5_signOfTerm_56 : decode cX5_signOfTerm 56 = .ok (.ireturn, 1) := by decide +kernel
theorem dX5_signOfTerm_57 : decode cX5_signOfTerm 57 = .ok (.iload_n 2, 1) := by decide +kernel
theorem dX5_signOfTerm_58 : decode cX5_signOfTerm 58 = .ok (.iload 4, 2) := by decide +kernel
theorem dX5_signOfTerm_60 : decode cX5_signOfTerm 60 = .ok (.if_icmp .ne 6, 3) := by decide +kernel
theorem dX5_signOfTerm_63 : decode cX5_signOfTerm 63 = .ok (.bipush 42, 2) := by decide +kernel
theorem dX5_signOfTerm_65 : decode cX5_signOfTerm 65 = .ok (.ireturn, 1) := by decide +kernel
theorem dX5_signOfTerm_66 : decode cX5_signOfTerm 66 = .ok (.iload_n 3, 1) := by decide +kernel
theorem dX5_signOfTerm_67 : decode cX5_signOfTerm 67 = .ok (.invokestatic 126, 3) := by decide +kernel
theorem dX5_signOfTerm_70 : decode cX5_signOfTerm 70 = .ok (.istore 5, 2) := by decide +kernel
theorem dX5_signOfTerm_72 : decode cX5_signOfTerm 72 = .ok (.bipush 48, 2) := by decide +kernel
theorem dX5_signOfTerm_74 : decode cX5_signOfTerm 74 = .ok (.iload_n 2, 1) := by decide +kernel
theorem dX5_signOfTerm_75 : decode cX5_signOfTerm 75 = .ok (.iload 4, 2) := by decide +kernel
theorem dX5_signOfTerm_77 : decode cX5_signOfTerm 77 = .ok (.iconst 1, 1) := by decide +kernel
theorem dX5_signOfTerm_78 : decode cX5_signOfTerm 78 = .ok (.isub, 1) := by decide +kernel
theorem dX5_signOfTerm_79 : decode cX5_signOfTerm 79 = .ok (.if_icmp .ne 11, 3) := by decide +kernel
theorem dX5_signOfTerm_82 : decode cX5_signOfTerm 82 = .ok (.iload 5, 2) := by decide +kernel
theorem dX5_signOfTerm_84 : decode cX5_signOfTerm 84 = .ok (.bipush 10, 2) := by decide +kernel
theorem dX5_signOfTerm_86 : decode cX5_signOfTerm 86 = .ok (.irem, 1) := by decide +kernel
theorem dX5_signOfTerm_87 : decode cX5_signOfTerm 87 = .ok (.goto 8, 3) := by decide +kernel
theorem dX5_signOfTerm_90 : decode cX5_signOfTerm 90 = .ok (.iload 5, 2) := by decide +kernel
theorem dX5_signOfTerm_92 : decode cX5_signOfTerm 92 = .ok (.bipush 10, 2) := by decide +kernel
theorem dX5_signOfTerm_94 : decode cX5_signOfTerm 94 = .ok (.idiv, 1) := by decide +kernel
theorem dX5_signOfTerm_95 : decode cX5_signOfTerm 95 = .ok (.iadd, 1) := by decide +kernel
theorem dX5_signOfTerm_96 : decode cX5_signOfTerm 96 = .ok (.ireturn, 1) := by decide +kernel
theorem dX5_factorLength_0 : decode cX5_factorLength 0 = .ok (.iload_n 0, 1) := by decide +kernel
theorem dX5_factorLength_1 : decode cX5_factorLength 1 = .ok (.invokestatic 126, 3) := by decide +kernel
theorem dX5_factorLength_4 : decode cX5_factorLength 4 = .ok (.istore_n 1, 1) := by decide +kernel
theorem dX5_factorLength_5 : decode cX5_factorLength 5 = .ok (.iload_n 1, 1) := by decide +kernel
theorem dX5_factorLength_6 : decode cX5_factorLength 6 = .ok (.iconst 1, 1) := by decide +kernel
theorem dX5_factorLength_7 : decode cX5_factorLength 7 = .ok (.if_icmp .ne 5, 3) := by decide +kernel
theorem dX5_factorLength_10 : decode cX5_factorLength 10 = .ok (.iconst 0, 1) := by decide +kernel
theorem dX5_factorLength_11 : decode cX5_factorLength 11 = .ok (.ireturn, 1) := by decide +kernel
theorem dX5_factorLength_12 : decode cX5_factorLength 12 = .ok (.iload_n 1, 1) := by decide +kernel
theorem dX5_factorLength_13 : decode cX5_factorLength 13 = .ok (.bipush 10, 2) := by decide +kernel
theorem dX5_factorLength_15 : decode cX5_factorLength 15 = .ok (.if_icmp .ge 7, 3) := by decide +kernel
theorem dX5_factorLength_18 : decode cX5_factorLength 18 = .ok (.iconst 2, 1) := by decide +kernel
theorem dX5_factorLength_19 : decode cX5_factorLength 19 = .ok (.goto 4, 3) := by decide +kernel
theorem dX5_factorLength_22 : decode cX5_factorLength 22 = .ok (.iconst 3, 1) := by decide +kernel
theorem dX5_factorLength_23 : decode cX5_factorLength 23 = .ok (.ireturn, 1) := by decide +kernel
theorem dX5_pointOf_0 : decode cX5_pointOf 0 = .ok (.iload_n 1, 1) := by decide +kernel
theorem dX5_pointOf_1 : decode cX5_pointOf 1 = .ok (.istore_n 2, 1) := by decide +kernel
theorem dX5_pointOf_2 : decode cX5_pointOf 2 = .ok (.iconst 0, 1) := by decide +kernel
theorem dX5_pointOf_3 : decode cX5_pointOf 3 = .ok (.istore_n 3, 1) := by decide +kernel
theorem dX5_pointOf_4 : decode cX5_pointOf 4 = .ok (.iload_n 3, 1) := by decide +kernel
theorem dX5_pointOf_5 : decode cX5_pointOf 5 = .ok (.bipush 8, 2) := by decide +kernel
theorem dX5_pointOf_7 : decode cX5_pointOf 7 = .ok (.if_icmp .ge 26, 3) := by decide +kernel
theorem dX5_pointOf_10 : decode cX5_pointOf 10 = .ok (.iload_n 0, 1) := by decide +kernel
theorem dX5_pointOf_11 : decode cX5_pointOf 11 = .ok (.iload_n 3, 1) := by decide +kernel
theorem dX5_pointOf_12 : decode cX5_pointOf 12 = .ok (.ishr, 1) := by decide +kernel
theorem dX5_pointOf_13 : decode cX5_pointOf 13 = .ok (.iconst 1, 1) := by decide +kernel
theorem dX5_pointOf_14 : decode cX5_pointOf 14 = .ok (.iand, 1) := by decide +kernel
theorem dX5_pointOf_15 : decode cX5_pointOf 15 = .ok (.ifCond .eq 12, 3) := by decide +kernel
theorem dX5_pointOf_18 : decode cX5_pointOf 18 = .ok (.iload_n 2, 1) := by decide +kernel
theorem dX5_pointOf_19 : decode cX5_pointOf 19 = .ok (.ifCond .ne 5, 3) := by decide +kernel
theorem dX5_pointOf_22 : decode cX5_pointOf 22 = .ok (.iload_n 3, 1) := by decide +kernel
theorem dX5_pointOf_23 : decode cX5_pointOf 23 = .ok (.ireturn, 1) := by decide +kernel
theorem dX5_pointOf_24 : decode cX5_pointOf 24 = .ok (.iinc 2 (-1), 3) := by decide +kernel
theorem dX5_pointOf_27 : decode cX5_pointOf 27 = .ok (.iinc 3 1, 3) := by decide +kernel
theorem dX5_pointOf_30 : decode cX5_pointOf 30 = .ok (.goto (-26), 3) := by decide +kernel
theorem dX5_pointOf_33 : decode cX5_pointOf 33 = .ok (.iconst 0, 1) := by decide +kernel
theorem dX5_pointOf_34 : decode cX5_pointOf 34 = .ok (.ireturn, 1) := by decide +kernel
theorem dX6_init_0 : decode cX6_init 0 = .ok (.aload_n 0, 1) := by decide +kernel
theorem dX6_init_1 : decode cX6_init 1 = .ok (.invokespecial 1, 3) := by decide +kernel
theorem dX6_init_4 : decode cX6_init 4 = .ok (.aload_n 0, 1) := by decide +kernel
theorem dX6_init_5 : decode cX6_init 5 = .ok (.new 7, 3) := by decide +kernel
theorem dX6_init_8 : decode cX6_init 8 = .ok (.dup, 1) := by decide +kernel
theorem dX6_init_9 : decode cX6_init 9 = .ok (.invokespecial 9, 3) := by decide +kernel
theorem dX6_init_12 : decode cX6_init 12 = .ok (.putfield 10, 3) := by decide +kernel
theorem dX6_init_15 : decode cX6_init 15 = .ok (.aload_n 0, 1) := by decide +kernel
theorem dX6_init_16 : decode cX6_init 16 = .ok (.new 16, 3) := by decide +kernel
theorem dX6_init_19 : decode cX6_init 19 = .ok (.dup, 1) := by decide +kernel
theorem dX6_init_20 : decode cX6_init 20 = .ok (.aload_n 0, 1) := by decide +kernel
theorem dX6_init_21 : decode cX6_init 21 = .ok (.getfield 10, 3) := by decide +kernel
theorem dX6_init_24 : decode cX6_init 24 = .ok (.invokespecial 18, 3) := by decide +kernel
theorem dX6_init_27 : decode cX6_init 27 = .ok (.putfield 21, 3) := by decide +kernel
theorem dX6_init_30 : decode cX6_init 30 = .ok (.aload_n 0, 1) := by decide +kernel
theorem dX6_init_31 : decode cX6_init 31 = .ok (.new 25, 3) := by decide +kernel
theorem dX6_init_34 : decode cX6_init 34 = .ok (.dup, 1) := by decide +kernel
theorem dX6_init_35 : decode cX6_init 35 = .ok (.iconst 4, 1) := by decide +kernel
theorem dX6_init_36 : decode cX6_init 36 = .ok (.invokespecial 27, 3) := by decide +kernel
theorem dX6_init_39 : decode cX6_init 39 = .ok (.putfield 30, 3) := by decide +kernel
theorem dX6_init_42 : decode cX6_init 42 = .ok (.aload_n 0, 1) := by decide +kernel
theorem dX6_init_43 : decode cX6_init 43 = .ok (.new 25, 3) := by decide +kernel
theorem dX6_init_46 : decode cX6_init 46 = .ok (.dup, 1) := by decide +kernel
theorem dX6_init_47 : decode cX6_init 47 = .ok (.bipush 8, 2) := by decide +kernel
theorem dX6_init_49 : decode cX6_init 49 = .ok (.invokespecial 27, 3) := by decide +kernel
theorem dX6_init_52 : decode cX6_init 52 = .ok (.putfield 34, 3) := by decide +kernel
theorem dX6_init_55 : decode cX6_init 55 = .ok (.aload_n 0, 1) := by decide +kernel
theorem dX6_init_56 : decode cX6_init 56 = .ok (.new 25, 3) := by decide +kernel
theorem dX6_init_59 : decode cX6_init 59 = .ok (.dup, 1) := by decide +kernel
theorem dX6_init_60 : decode cX6_init 60 = .ok (.bipush 8, 2) := by decide +kernel
theorem dX6_init_62 : decode cX6_init 62 = .ok (.invokespecial 27, 3) := by decide +kernel
theorem dX6_init_65 : decode cX6_init 65 = .ok (.putfield 37, 3) := by decide +kernel
theorem dX6_init_68 : decode cX6_init 68 = .ok (.aload_n 0, 1) := by decide +kernel
theorem dX6_init_69 : decode cX6_init 69 = .ok (.getfield 10, 3) := by decide +kernel
theorem dX6_init_72 : decode cX6_init 72 = .ok (.bipush 6, 2) := by decide +kernel
theorem dX6_init_74 : decode cX6_init 74 = .ok (.iconst 3, 1) := by decide +kernel
theorem dX6_init_75 : decode cX6_init 75 = .ok (.iconst 2, 1) := by decide +kernel
theorem dX6_init_76 : decode cX6_init 76 = .ok (.invokevirtual 40, 3) := by decide +kernel
theorem dX6_init_79 : decode cX6_init 79 = .ok (.return_, 1) := by decide +kernel
theorem dX6_copyFrom_0 : decode cX6_copyFrom 0 = .ok (.aload_n 0, 1) := by decide +kernel
theorem dX6_copyFrom_1 : decode cX6_copyFrom 1 = .ok (.getfield 10, 3) := by decide +kernel
theorem dX6_copyFrom_4 : decode cX6_copyFrom 4 = .ok (.aload_n 1, 1) := by decide +kernel
theorem dX6_copyFrom_5 : decode cX6_copyFrom 5 = .ok (.getfield 10, 3) := by decide +kernel
theorem dX6_copyFrom_8 : decode cX6_copyFrom 8 = .ok (.invokevirtual 44, 3) := by decide +kernel
theorem dX6_copyFrom_11 : decode cX6_copyFrom 11 = .ok (.aload_n 0, 1) := by decide +kernel
theorem dX6_copyFrom_12 : decode cX6_copyFrom 12 = .ok (.getfield 21, 3) := by decide +kernel
theorem dX6_copyFrom_15 : decode cX6_copyFrom 15 = .ok (.aload_n 1, 1) := by decide +kernel
theorem dX6_copyFrom_16 : decode cX6_copyFrom 16 = .ok (.getfield 21, 3) := by decide +kernel
theorem dX6_copyFrom_19 : decode cX6_copyFrom 19 = .ok (.invokevirtual 47, 3) := by decide +kernel
theorem dX6_copyFrom_22 : decode cX6_copyFrom 22 = .ok (.aload_n 0, 1) := by decide +kernel
theorem dX6_copyFrom_23 : decode cX6_copyFrom 23 = .ok (.getfield 30, 3) := by decide +kernel
theorem dX6_copyFrom_26 : decode cX6_copyFrom 26 = .ok (.aload_n 1, 1) := by decide +kernel
theorem dX6_copyFrom_27 : decode cX6_copyFrom 27 = .ok (.getfield 30, 3) := by decide +kernel
theorem dX6_copyFrom_30 : decode cX6_copyFrom 30 = .ok (.invokevirtual 50, 3) := by decide +kernel
theorem dX6_copyFrom_33 : decode cX6_copyFrom 33 = .ok (.aload_n 0, 1) := by decide +kernel
theorem dX6_copyFrom_34 : decode cX6_copyFrom 34 = .ok (.getfield 34, 3) := by decide +kernel
theorem dX6_copyFrom_37 : decode cX6_copyFrom 37 = .ok (.aload_n 1, 1) := by decide +kernel
theorem dX6_copyFrom_38 : decode cX6_copyFrom 38 = .ok (.getfield 34, 3) := by decide +kernel
theorem dX6_copyFrom_41 : decode cX6_copyFrom 41 = .ok (.invokevirtual 50, 3) := by decide +kernel
theorem dX6_copyFrom_44 : decode cX6_copyFrom 44 = .ok (.aload_n 0, 1) := by decide +kernel
theorem dX6_copyFrom_45 : decode cX6_copyFrom 45 = .ok (.getfield 37, 3) := by decide +kernel
theorem dX6_copyFrom_48 : decode cX6_copyFrom 48 = .ok (.aload_n 1, 1) := by decide +kernel
theorem dX6_copyFrom_49 : decode cX6_copyFrom 49 = .ok (.getfield 37, 3) := by decide +kernel
theorem dX6_copyFrom_52 : decode cX6_copyFrom 52 = .ok (.invokevirtual 50, 3) := by decide +kernel
theorem dX6_copyFrom_55 : decode cX6_copyFrom 55 = .ok (.return_, 1) := by decide +kernel
theorem dX7_init_0 : decode cX7_init 0 = .ok (.aload_n 0, 1) := by decide +kernel
theorem dX7_init_1 : decode cX7_init 1 = .ok (.invokespecial 1, 3) := by decide +kernel
theorem dX7_init_4 : decode cX7_init 4 = .ok (.aload_n 0, 1) := by decide +kernel
theorem dX7_init_5 : decode cX7_init 5 = .ok (.iconst (-1), 1) := by decide +kernel
theorem dX7_init_6 : decode cX7_init 6 = .ok (.putfield 9, 3) := by decide +kernel
theorem dX7_init_9 : decode cX7_init 9 = .ok (.aload_n 0, 1) := by decide +kernel
theorem dX7_init_10 : decode cX7_init 10 = .ok (.iconst 0, 1) := by decide +kernel
theorem dX7_init_11 : decode cX7_init 11 = .ok (.putfield 13, 3) := by decide +kernel
theorem dX7_init_14 : decode cX7_init 14 = .ok (.aload_n 0, 1) := by decide +kernel
theorem dX7_init_15 : decode cX7_init 15 = .ok (.bipush 60, 2) := by decide +kernel
theorem dX7_init_17 : decode cX7_init 17 = .ok (.newarray .long, 2) := by decide +kernel
theorem dX7_init_19 : decode cX7_init 19 = .ok (.putfield 16, 3) := by decide +kernel
theorem dX7_init_22 : decode cX7_init 22 = .ok (.return_, 1) := by decide +kernel
theorem dX7_become_0 : decode cX7_become 0 = .ok (.aload_n 0, 1) := by decide +kernel
theorem dX7_become_1 : decode cX7_become 1 = .ok (.iload_n 1, 1) := by decide +kernel
theorem dX7_become_2 : decode cX7_become 2 = .ok (.putfield 9, 3) := by decide +kernel
theorem dX7_become_5 : decode cX7_become 5 = .ok (.aload_n 0, 1) := by decide +kernel
theorem dX7_become_6 : decode cX7_become 6 = .ok (.iconst 0, 1) := by decide +kernel
theorem dX7_become_7 : decode cX7_become 7 = .ok (.iload_n 2, 1) := by decide +kernel
theorem dX7_become_8 : decode cX7_become 8 = .ok (.bipush 60, 2) := by decide +kernel
theorem dX7_become_10 : decode cX7_become 10 = .ok (.invokestatic 20, 3) := by decide +kernel
theorem dX7_become_13 : decode cX7_become 13 = .ok (.invokestatic 26, 3) := by decide +kernel
theorem dX7_become_16 : decode cX7_become 16 = .ok (.putfield 13, 3) := by decide +kernel
theorem dX7_become_19 : decode cX7_become 19 = .ok (.iconst 0, 1) := by decide +kernel
theorem dX7_become_20 : decode cX7_become 20 = .ok (.istore_n 3, 1) := by decide +kernel
theorem dX7_become_21 : decode cX7_become 21 = .ok (.iload_n 3, 1) := by decide +kernel
theorem dX7_become_22 : decode cX7_become 22 = .ok (.bipush 60, 2) := by decide +kernel
theorem dX7_become_24 : decode cX7_become 24 = .ok (.if_icmp .ge 16, 3) := by decide +kernel
theorem dX7_become_27 : decode cX7_become 27 = .ok (.aload_n 0, 1) := by decide +kernel
theorem dX7_become_28 : decode cX7_become 28 = .ok (.getfield 16, 3) := by decide +kernel
theorem dX7_become_31 : decode cX7_become 31 = .ok (.iload_n 3, 1) := by decide +kernel
theorem dX7_become_32 : decode cX7_become 32 = .ok (.lconst 0, 1) := by decide +kernel
theorem dX7_become_33 : decode cX7_become 33 = .ok (.lastore, 1) := by decide +kernel
theorem dX7_become_34 : decode cX7_become 34 = .ok (.iinc 3 1, 3) := by decide +kernel
theorem dX7_become_37 : decode cX7_become 37 = .ok (.goto (-16), 3) := by decide +kernel
theorem dX7_become_40 : decode cX7_become 40 = .ok (.return_, 1) := by decide +kernel
theorem dX7_isEmpty_0 : decode cX7_isEmpty 0 = .ok (.aload_n 0, 1) := by decide +kernel
theorem dX7_isEmpty_1 : decode cX7_isEmpty 1 = .ok (.getfield 9, 3) := by decide +kernel
theorem dX7_isEmpty_4 : decode cX7_isEmpty 4 = .ok (.iconst (-1), 1) := by decide +kernel
theorem dX7_isEmpty_5 : decode cX7_isEmpty 5 = .ok (.if_icmp .ne 7, 3) := by decide +kernel
theorem dX7_isEmpty_8 : decode cX7_isEmpty 8 = .ok (.iconst 1, 1) := by decide +kernel
theorem dX7_isEmpty_9 : decode cX7_isEmpty 9 = .ok (.goto 4, 3) := by decide +kernel
theorem dX7_isEmpty_12 : decode cX7_isEmpty 12 = .ok (.iconst 0, 1) := by decide +kernel
theorem dX7_isEmpty_13 : decode cX7_isEmpty 13 = .ok (.ireturn, 1) := by decide +kernel
theorem dX7_hasPlace_0 : decode cX7_hasPlace 0 = .ok (.iload_n 1, 1) := by decide +kernel
theorem dX7_hasPlace_1 : decode cX7_hasPlace 1 = .ok (.ifCond .lt 15, 3) := by decide +kernel
theorem dX7_hasPlace_4 : decode cX7_hasPlace 4 = .ok (.iload_n 1, 1) := by decide +kernel
theorem dX7_hasPlace_5 : decode cX7_hasPlace 5 = .ok (.aload_n 0, 1) := by decide +kernel
theorem dX7_hasPlace_6 : decode cX7_hasPlace 6 = .ok (.getfield 13, 3) := by decide +kernel
theorem dX7_hasPlace_9 : decode cX7_hasPlace 9 = .ok (.if_icmp .ge 7, 3) := by decide +kernel
theorem dX7_hasPlace_12 : decode cX7_hasPlace 12 = .ok (.iconst 1, 1) := by decide +kernel
theorem dX7_hasPlace_13 : decode cX7_hasPlace 13 = .ok (.goto 4, 3) := by decide +kernel
theorem dX7_hasPlace_16 : decode cX7_hasPlace 16 = .ok (.iconst 0, 1) := by decide +kernel
theorem dX7_hasPlace_17 : decode cX7_hasPlace 17 = .ok (.ireturn, 1) := by decide +kernel
theorem dX7_hasPlaces_0 : decode cX7_hasPlaces 0 = .ok (.iload_n 2, 1) := by decide +kernel
theorem dX7_hasPlaces_1 : decode cX7_hasPlaces 1 = .ok (.ifCond .lt 29, 3) := by decide +kernel
theorem dX7_hasPlaces_4 : decode cX7_hasPlaces 4 = .ok (.iload_n 2, 1) := by decide +kernel
theorem dX7_hasPlaces_5 : decode cX7_hasPlaces 5 = .ok (.aload_n 0, 1) := by decide +kernel
theorem dX7_hasPlaces_6 : decode cX7_hasPlaces 6 = .ok (.getfield 13, 3) := by decide +kernel
theorem dX7_hasPlaces_9 : decode cX7_hasPlaces 9 = .ok (.if_icmp .gt 21, 3) := by decide +kernel
theorem dX7_hasPlaces_12 : decode cX7_hasPlaces 12 = .ok (.iload_n 1, 1) := by decide +kernel
theorem dX7_hasPlaces_13 : decode cX7_hasPlaces 13 = .ok (.ifCond .lt 17, 3) := by decide +kernel
theorem dX7_hasPlaces_16 : decode cX7_hasPlaces 16 = .ok (.iload_n 1, 1) := by decide +kernel
theorem dX7_hasPlaces_17 : decode cX7_hasPlaces 17 = .ok (.aload_n 0, 1) := by decide +kernel
theorem dX7_hasPlaces_18 : decode cX7_hasPlaces 18 = .ok (.getfield 13, 3) := by decide +kernel
theorem dX7_hasPlaces_21 : decode cX7_hasPlaces 21 = .ok (.iload_n 2, 1) := by decide +kernel
theorem dX7_hasPlaces_22 : decode cX7_hasPlaces 22 = .ok (.isub, 1) := by decide +kernel
theorem dX7_hasPlaces_23 : decode cX7_hasPlaces 23 = .ok (.if_icmp .gt 7, 3) := by decide +kernel
theorem dX7_hasPlaces_26 : decode cX7_hasPlaces 26 = .ok (.iconst 1, 1) := by decide +kernel
theorem dX7_hasPlaces_27 : decode cX7_hasPlaces 27 = .ok (.goto 4, 3) := by decide +kernel
theorem dX7_hasPlaces_30 : decode cX7_hasPlaces 30 = .ok (.iconst 0, 1) := by decide +kernel
theorem dX7_hasPlaces_31 : decode cX7_hasPlaces 31 = .ok (.ireturn, 1) := by decide +kernel
theorem dX7_asItem_0 : decode cX7_asItem 0 = .ok (.aload_n 0, 1) := by decide +kernel
theorem dX7_asItem_1 : decode cX7_asItem 1 = .ok (.getfield 9, 3) := by decide +kernel
theorem dX7_asItem_4 : decode cX7_asItem 4 = .ok (.tableswitch 62 0 4 #[36, 41, 46, 62, 50], 36) := by decide +kernel
theorem dX7_asItem_40 : decode cX7_asItem 40 = .ok (.lload_n 1, 1) := by decide +kernel
theorem dX7_asItem_41 : decode cX7_asItem 41 = .ok (.l2i, 1) := by decide +kernel
theorem dX7_asItem_42 : decode cX7_asItem 42 = .ok (.i2b, 1) := by decide +kernel
theorem dX7_asItem_43 : decode cX7_asItem 43 = .ok (.i2l, 1) := by decide +kernel
theorem dX7_asItem_44 : decode cX7_asItem 44 = .ok (.lreturn, 1) := by decide +kernel
theorem dX7_asItem_45 : decode cX7_asItem 45 = .ok (.lload_n 1, 1) := by decide +kernel
theorem dX7_asItem_46 : decode cX7_asItem 46 = .ok (.l2i, 1) := by decide +kernel
theorem dX7_asItem_47 : decode cX7_asItem 47 = .ok (.i2s, 1) := by decide +kernel
theorem dX7_asItem_48 : decode cX7_asItem 48 = .ok (.i2l, 1) := by decide +kernel
theorem dX7_asItem_49 : decode cX7_asItem 49 = .ok (.lreturn, 1) := by decide +kernel
theorem dX7_asItem_50 : decode cX7_asItem 50 = .ok (.lload_n 1, 1) := by decide +kernel
theorem dX7_asItem_51 : decode cX7_asItem 51 = .ok (.l2i, 1) := by decide +kernel
theorem dX7_asItem_52 : decode cX7_asItem 52 = .ok (.i2l, 1) := by decide +kernel
theorem dX7_asItem_53 : decode cX7_asItem 53 = .ok (.lreturn, 1) := by decide +kernel
theorem dX7_asItem_54 : decode cX7_asItem 54 = .ok (.lload_n 1, 1) := by decide +kernel
theorem dX7_asItem_55 : decode cX7_asItem 55 = .ok (.lconst 0, 1) := by decide +kernel
theorem dX7_asItem_56 : decode cX7_asItem 56 = .ok (.lcmp, 1) := by decide +kernel
theorem dX7_asItem_57 : decode cX7_asItem 57 = .ok (.ifCond .eq 7, 3) := by decide +kernel
theorem dX7_asItem_60 : decode cX7_asItem 60 = .ok (.lconst 1, 1) := by decide +kernel
theorem dX7_asItem_61 : decode cX7_asItem 61 = .ok (.goto 4, 3) := by decide +kernel
theorem dX7_asItem_64 : decode cX7_asItem 64 = .ok (.lconst 0, 1) := by decide +kernel
theorem dX7_asItem_65 : decode cX7_asItem 65 = .ok (.lreturn, 1) := by decide +kernel
theorem dX7_asItem_66 : decode cX7_asItem 66 = .ok (.lload_n 1, 1) := by decide +kernel
theorem dX7_asItem_67 : decode cX7_asItem 67 = .ok (.lreturn, 1) := by decide +kernel
theorem dX8_init_0 : decode cX8_init 0 = .ok (.aload_n 0, 1) := by decide +kernel
theorem dX8_init_1 : decode cX8_init 1 = .ok (.invokespecial 1, 3) := by decide +kernel
theorem dX8_init_4 : decode cX8_init 4 = .ok (.aload_n 0, 1) := by decide +kernel
theorem dX8_init_5 : decode cX8_init 5 = .ok (.bipush 6, 2) := by decide +kernel
theorem dX8_init_7 : decode cX8_init 7 = .ok (.newarray .int, 2) := by decide +kernel
theorem dX8_init_9 : decode cX8_init 9 = .ok (.putfield 9, 3) := by decide +kernel
theorem dX8_init_12 : decode cX8_init 12 = .ok (.aload_n 0, 1) := by decide +kernel
theorem dX8_init_13 : decode cX8_init 13 = .ok (.iconst 0, 1) := by decide +kernel
theorem dX8_init_14 : decode cX8_init 14 = .ok (.putfield 13, 3) := by decide +kernel
theorem dX8_init_17 : decode cX8_init 17 = .ok (.aload_n 0, 1) := by decide +kernel
theorem dX8_init_18 : decode cX8_init 18 = .ok (.iconst 0, 1) := by decide +kernel
theorem dX8_init_19 : decode cX8_init 19 = .ok (.putfield 17, 3) := by decide +kernel
theorem dX8_init_22 : decode cX8_init 22 = .ok (.return_, 1) := by decide +kernel
theorem dX8_becomeFor_0 : decode cX8_becomeFor 0 = .ok (.aload_n 0, 1) := by decide +kernel
theorem dX8_becomeFor_1 : decode cX8_becomeFor 1 = .ok (.aload_n 1, 1) := by decide +kernel
theorem dX8_becomeFor_2 : decode cX8_becomeFor 2 = .ok (.getfield 20, 3) := by decide +kernel
theorem dX8_becomeFor_5 : decode cX8_becomeFor 5 = .ok (.iconst 1, 1) := by decide +kernel
theorem dX8_becomeFor_6 : decode cX8_becomeFor 6 = .ok (.iadd, 1) := by decide +kernel
theorem dX8_becomeFor_7 : decode cX8_becomeFor 7 = .ok (.putfield 13, 3) := by decide +kernel
theorem dX8_becomeFor_10 : decode cX8_becomeFor 10 = .ok (.aload_n 0, 1) := by decide +kernel
theorem dX8_becomeFor_11 : decode cX8_becomeFor 11 = .ok (.bipush 6, 2) := by decide +kernel
theorem dX8_becomeFor_13 : decode cX8_becomeFor 13 = .ok (.aload_n 1, 1) := by decide +kernel
theorem dX8_becomeFor_14 : decode cX8_becomeFor 14 = .ok (.getfield 20, 3) := by decide +kernel
theorem dX8_becomeFor_17 : decode cX8_becomeFor 17 = .ok (.aload_n 1, 1) := by decide +kernel
theorem dX8_becomeFor_18 : decode cX8_becomeFor 18 = .ok (.getfield 25, 3) := by decide +kernel
theorem dX8_becomeFor_21 : decode cX8_becomeFor 21 = .ok (.iadd, 1) := by decide +kernel
theorem dX8_becomeFor_22 : decode cX8_becomeFor 22 = .ok (.iconst 1, 1) := by decide +kernel
theorem dX8_becomeFor_23 : decode cX8_becomeFor 23 = .ok (.iadd, 1) := by decide +kernel
theorem dX8_becomeFor_24 : decode cX8_becomeFor 24 = .ok (.invokestatic 28, 3) := by decide +kernel
theorem dX8_becomeFor_27 : decode cX8_becomeFor 27 = .ok (.putfield 17, 3) := by decide +kernel
theorem dX8_becomeFor_30 : decode cX8_becomeFor 30 = .ok (.return_, 1) := by decide +kernel
theorem dX8_take_0 : decode cX8_take 0 = .ok (.aload_n 0, 1) := by decide +kernel
theorem dX8_take_1 : decode cX8_take 1 = .ok (.aload_n 1, 1) := by decide +kernel
theorem dX8_take_2 : decode cX8_take 2 = .ok (.invokevirtual 34, 3) := by decide +kernel
theorem dX8_take_5 : decode cX8_take 5 = .ok (.iload_n 2, 1) := by decide +kernel
theorem dX8_take_6 : decode cX8_take 6 = .ok (.istore_n 3, 1) := by decide +kernel
theorem dX8_take_7 : decode cX8_take 7 = .ok (.iconst 0, 1) := by decide +kernel
theorem dX8_take_8 : decode cX8_take 8 = .ok (.istore 4, 2) := by decide +kernel
theorem dX8_take_10 : decode cX8_take 10 = .ok (.aload_n 0, 1) := by decide +kernel
theorem dX8_take_11 : decode cX8_take 11 = .ok (.getfield 17, 3) := by decide +kernel
theorem dX8_take_14 : decode cX8_take 14 = .ok (.iconst 1, 1) := by decide +kernel
theorem dX8_take_15 : decode cX8_take 15 = .ok (.isub, 1) := by decide +kernel
theorem dX8_take_16 : decode cX8_take 16 = .ok (.istore 5, 2) := by decide +kernel
theorem dX8_take_18 : decode cX8_take 18 = .ok (.iload 5, 2) := by decide +kernel
theorem dX8_take_20 : decode cX8_take 20 = .ok (.ifCond .lt 61, 3) := by decide +kernel
theorem dX8_take_23 : decode cX8_take 23 = .ok (.iload_n 3, 1) := by decide +kernel
theorem dX8_take_24 : decode cX8_take 24 = .ok (.bipush 10, 2) := by decide +kernel
theorem dX8_take_26 : decode cX8_take 26 = .ok (.irem, 1) := by decide +kernel
theorem dX8_take_27 : decode cX8_take 27 = .ok (.iconst 1, 1) := by decide +kernel
theorem dX8_take_28 : decode cX8_take 28 = .ok (.isub, 1) := by decide +kernel
theorem dX8_take_29 : decode cX8_take 29 = .ok (.istore 6, 2) := by decide +kernel
theorem dX8_take_31 : decode cX8_take 31 = .ok (.iload_n 3, 1) := by decide +kernel
theorem dX8_take_32 : decode cX8_take 32 = .ok (.bipush 10, 2) := by decide +kernel
theorem dX8_take_34 : decode cX8_take 34 = .ok (.idiv, 1) := by decide +kernel
theorem dX8_take_35 : decode cX8_take 35 = .ok (.istore_n 3, 1) := by decide +kernel
theorem dX8_take_36 : decode cX8_take 36 = .ok (.aload_n 1, 1) := by decide +kernel
theorem dX8_take_37 : decode cX8_take 37 = .ok (.iload 6, 2) := by decide +kernel
theorem dX8_take_39 : decode cX8_take 39 = .ok (.invokevirtual 38, 3) := by decide +kernel
theorem dX8_take_42 : decode cX8_take 42 = .ok (.ifCond .eq 13, 3) := by decide +kernel
theorem dX8_take_45 : decode cX8_take 45 = .ok (.iload 4, 2) := by decide +kernel
theorem dX8_take_47 : decode cX8_take 47 = .ok (.iload 6, 2) := by decide +kernel
theorem dX8_take_49 : decode cX8_take 49 = .ok (.ishr, 1) := by decide +kernel
theorem dX8_take_50 : decode cX8_take 50 = .ok (.iconst 1, 1) := by decide +kernel
theorem dX8_take_51 : decode cX8_take 51 = .ok (.iand, 1) := by decide +kernel
theorem dX8_take_52 : decode cX8_take 52 = .ok (.ifCond .eq 5, 3) := by decide +kernel
theorem dX8_take_55 : decode cX8_take 55 = .ok (.iconst 0, 1) := by decide +kernel
theorem dX8_take_56 : decode cX8_take 56 = .ok (.ireturn, 1) := by decide +kernel
theorem dX8_take_57 : decode cX8_take 57 = .ok (.iload 4, 2) := by decide +kernel
theorem dX8_take_59 : decode cX8_take 59 = .ok (.iconst 1, 1) := by decide +kernel
theorem dX8_take_60 : decode cX8_take 60 = .ok (.iload 6, 2) := by decide +kernel
theorem dX8_take_62 : decode cX8_take 62 = .ok (.ishl, 1) := by decide +kernel
theorem dX8_take_63 : decode cX8_take 63 = .ok (.ior, 1) := by decide +kernel
theorem dX8_take_64 : decode cX8_take 64 = .ok (.istore 4, 2) := by decide +kernel
theorem dX8_take_66 : decode cX8_take 66 = .ok (.aload_n 0, 1) := by decide +kernel
theorem dX8_take_67 : decode cX8_take 67 = .ok (.getfield 9, 3) := by decide +kernel
theorem dX8_take_70 : decode cX8_take 70 = .ok (.iload 5, 2) := by decide +kernel
theorem dX8_take_72 : decode cX8_take 72 = .ok (.iload 6, 2) := by decide +kernel
theorem dX8_take_74 : decode cX8_take 74 = .ok (.iastore, 1) := by decide +kernel
theorem dX8_take_75 : decode cX8_take 75 = .ok (.iinc 5 (-1), 3) := by decide +kernel
theorem dX8_take_78 : decode cX8_take 78 = .ok (.goto (-60), 3) := by decide +kernel
theorem dX8_take_81 : decode cX8_take 81 = .ok (.iload_n 3, 1) := by decide +kernel
theorem dX8_take_82 : decode cX8_take 82 = .ok (.ifCond .ne 7, 3) := by decide +kernel
theorem dX8_take_85 : decode cX8_take 85 = .ok (.iconst 1, 1) := by decide +kernel
theorem dX8_take_86 : decode cX8_take 86 = .ok (.goto 4, 3) := by decide +kernel
theorem dX8_take_89 : decode cX8_take 89 = .ok (.iconst 0, 1) := by decide +kernel
theorem dX8_take_90 : decode cX8_take 90 = .ok (.ireturn, 1) := by decide +kernel
theorem dX8_choices_0 : decode cX8_choices 0 = .ok (.iconst 1, 1) := by decide +kernel
theorem dX8_choices_1 : decode cX8_choices 1 = .ok (.aload_n 0, 1) := by decide +kernel
theorem dX8_choices_2 : decode cX8_choices 2 = .ok (.getfield 13, 3) := by decide +kernel
theorem dX8_choices_5 : decode cX8_choices 5 = .ok (.ishl, 1) := by decide +kernel
theorem dX8_choices_6 : decode cX8_choices 6 = .ok (.ireturn, 1) := by decide +kernel
theorem dX8_blockOf_0 : decode cX8_blockOf 0 = .ok (.iconst 0, 1) := by decide +kernel
theorem dX8_blockOf_1 : decode cX8_blockOf 1 = .ok (.istore_n 3, 1) := by decide +kernel
theorem dX8_blockOf_2 : decode cX8_blockOf 2 = .ok (.iconst 0, 1) := by decide +kernel
theorem dX8_blockOf_3 : decode cX8_blockOf 3 = .ok (.istore 4, 2) := by decide +kernel
theorem dX8_blockOf_5 : decode cX8_blockOf 5 = .ok (.iload 4, 2) := by decide +kernel
theorem dX8_blockOf_7 : decode cX8_blockOf 7 = .ok (.aload_n 0, 1) := by decide +kernel
theorem dX8_blockOf_8 : decode cX8_blockOf 8 = .ok (.getfield 13, 3) := by decide +kernel
theorem dX8_blockOf_11 : decode cX8_blockOf 11 = .ok (.if_icmp .ge 30, 3) := by decide +kernel
theorem dX8_blockOf_14 : decode cX8_blockOf 14 = .ok (.iload_n 3, 1) := by decide +kernel
theorem dX8_blockOf_15 : decode cX8_blockOf 15 = .ok (.iconst 1, 1) := by decide +kernel
theorem dX8_blockOf_16 : decode cX8_blockOf 16 = .ok (.aload_n 0, 1) := by decide +kernel
theorem dX8_blockOf_17 : decode cX8_blockOf 17 = .ok (.getfield 9, 3) := by decide +kernel
theorem dX8_blockOf_20 : decode cX8_blockOf 20 = .ok (.iconst 2, 1) := by decide +kernel
theorem dX8_blockOf_21 : decode cX8_blockOf 21 = .ok (.iload 4, 2) := by decide +kernel
theorem dX8_blockOf_23 : decode cX8_blockOf 23 = .ok (.imul, 1) := by decide +kernel
theorem dX8_blockOf_24 : decode cX8_blockOf 24 = .ok (.iload_n 2, 1) := by decide +kernel
theorem dX8_blockOf_25 : decode cX8_blockOf 25 = .ok (.iload 4, 2) := by decide +kernel
theorem dX8_blockOf_27 : decode cX8_blockOf 27 = .ok (.ishr, 1) := by decide +kernel
theorem dX8_blockOf_28 : decode cX8_blockOf 28 = .ok (.iconst 1, 1) := by decide +kernel
theorem dX8_blockOf_29 : decode cX8_blockOf 29 = .ok (.iand, 1) := by decide +kernel
theorem dX8_blockOf_30 : decode cX8_blockOf 30 = .ok (.iadd, 1) := by decide +kernel
theorem dX8_blockOf_31 : decode cX8_blockOf 31 = .ok (.iaload, 1) := by decide +kernel
theorem dX8_blockOf_32 : decode cX8_blockOf 32 = .ok (.ishl, 1) := by decide +kernel
theorem dX8_blockOf_33 : decode cX8_blockOf 33 = .ok (.ior, 1) := by decide +kernel
theorem dX8_blockOf_34 : decode cX8_blockOf 34 = .ok (.istore_n 3, 1) := by decide +kernel
theorem dX8_blockOf_35 : decode cX8_blockOf 35 = .ok (.iinc 4 1, 3) := by decide +kernel
theorem dX8_blockOf_38 : decode cX8_blockOf 38 = .ok (.goto (-33), 3) := by decide +kernel
theorem dX8_blockOf_41 : decode cX8_blockOf 41 = .ok (.iconst 2, 1) := by decide +kernel
theorem dX8_blockOf_42 : decode cX8_blockOf 42 = .ok (.aload_n 0, 1) := by decide +kernel
theorem dX8_blockOf_43 : decode cX8_blockOf 43 = .ok (.getfield 13, 3) := by decide +kernel
theorem dX8_blockOf_46 : decode cX8_blockOf 46 = .ok (.imul, 1) := by decide +kernel
theorem dX8_blockOf_47 : decode cX8_blockOf 47 = .ok (.istore 4, 2) := by decide +kernel
theorem dX8_blockOf_49 : decode cX8_blockOf 49 = .ok (.iload 4, 2) := by decide +kernel
theorem dX8_blockOf_51 : decode cX8_blockOf 51 = .ok (.aload_n 0, 1) := by decide +kernel
theorem dX8_blockOf_52 : decode cX8_blockOf 52 = .ok (.getfield 17, 3) := by decide +kernel
theorem dX8_blockOf_55 : decode cX8_blockOf 55 = .ok (.if_icmp .ge 21, 3) := by decide +kernel
theorem dX8_blockOf_58 : decode cX8_blockOf 58 = .ok (.iload_n 3, 1) := by decide +kernel
theorem dX8_blockOf_59 : decode cX8_blockOf 59 = .ok (.iconst 1, 1) := by decide +kernel
theorem dX8_blockOf_60 : decode cX8_blockOf 60 = .ok (.aload_n 0, 1) := by decide +kernel
theorem dX8_blockOf_61 : decode cX8_blockOf 61 = .ok (.getfield 9, 3) := by decide +kernel
theorem dX8_blockOf_64 : decode cX8_blockOf 64 = .ok (.iload 4, 2) := by decide +kernel
theorem dX8_blockOf_66 : decode cX8_blockOf 66 = .ok (.iaload, 1) := by decide +kernel
theorem dX8_blockOf_67 : decode cX8_blockOf 67 = .ok (.ishl, 1) := by decide +kernel
theorem dX8_blockOf_68 : decode cX8_blockOf 68 = .ok (.ior, 1) := by decide +kernel
theorem dX8_blockOf_69 : decode cX8_blockOf 69 = .ok (.istore_n 3, 1) := by decide +kernel
theorem dX8_blockOf_70 : decode cX8_blockOf 70 = .ok (.iinc 4 1, 3) := by decide +kernel
theorem dX8_blockOf_73 : decode cX8_blockOf 73 = .ok (.goto (-24), 3) := by decide +kernel
theorem dX8_blockOf_76 : decode cX8_blockOf 76 = .ok (.aload_n 1, 1) := by decide +kernel
theorem dX8_blockOf_77 : decode cX8_blockOf 77 = .ok (.iload_n 3, 1) := by decide +kernel
theorem dX8_blockOf_78 : decode cX8_blockOf 78 = .ok (.invokevirtual 42, 3) := by decide +kernel
theorem dX8_blockOf_81 : decode cX8_blockOf 81 = .ok (.ireturn, 1) := by decide +kernel
theorem dX8_signOf_0 : decode cX8_signOf 0 = .ok (.iload_n 0, 1) := by decide +kernel
theorem dX8_signOf_1 : decode cX8_signOf 1 = .ok (.invokestatic 46, 3) := by decide +kernel
theorem dX8_signOf_4 : decode cX8_signOf 4 = .ok (.iconst 1, 1) := by decide +kernel
theorem dX8_signOf_5 : decode cX8_signOf 5 = .ok (.iand, 1) := by decide +kernel
theorem dX8_signOf_6 : decode cX8_signOf 6 = .ok (.ifCond .ne 7, 3) := by decide +kernel
theorem dX8_signOf_9 : decode cX8_signOf 9 = .ok (.iconst 1, 1) := by decide +kernel
theorem dX8_signOf_10 : decode cX8_signOf 10 = .ok (.goto 4, 3) := by decide +kernel
theorem dX8_signOf_13 : decode cX8_signOf 13 = .ok (.iconst (-1), 1) := by decide +kernel
theorem dX8_signOf_14 : decode cX8_signOf 14 = .ok (.ireturn, 1) := by decide +kernel
theorem dX9_init_0 : decode cX9_init 0 = .ok (.aload_n 0, 1) := by decide +kernel
theorem dX9_init_1 : decode cX9_init 1 = .ok (.invokespecial 3, 3) := by decide +kernel
theorem dX9_init_4 : decode cX9_init 4 = .ok (.aload_n 0, 1) := by decide +kernel
theorem dX9_init_5 : decode cX9_init 5 = .ok (.new 9, 3) := by decide +kernel
theorem dX9_init_8 : decode cX9_init 8 = .ok (.dup, 1) := by decide +kernel
theorem dX9_init_9 : decode cX9_init 9 = .ok (.invokespecial 11, 3) := by decide +kernel
theorem dX9_init_12 : decode cX9_init 12 = .ok (.putfield 12, 3) := by decide +kernel
theorem dX9_init_15 : decode cX9_init 15 = .ok (.aload_n 0, 1) := by decide +kernel
theorem dX9_init_16 : decode cX9_init 16 = .ok (.new 9, 3) := by decide +kernel
theorem dX9_init_19 : decode cX9_init 19 = .ok (.dup, 1) := by decide +kernel
theorem dX9_init_20 : decode cX9_init 20 = .ok (.invokespecial 11, 3) := by decide +kernel
theorem dX9_init_23 : decode cX9_init 23 = .ok (.putfield 18, 3) := by decide +kernel
theorem dX9_init_26 : decode cX9_init 26 = .ok (.aload_n 0, 1) := by decide +kernel
theorem dX9_init_27 : decode cX9_init 27 = .ok (.iconst 0, 1) := by decide +kernel
theorem dX9_init_28 : decode cX9_init 28 = .ok (.putfield 21, 3) := by decide +kernel
theorem dX9_init_31 : decode cX9_init 31 = .ok (.aload_n 0, 1) := by decide +kernel
theorem dX9_init_32 : decode cX9_init 32 = .ok (.new 25, 3) := by decide +kernel
theorem dX9_init_35 : decode cX9_init 35 = .ok (.dup, 1) := by decide +kernel
theorem dX9_init_36 : decode cX9_init 36 = .ok (.aload_n 0, 1) := by decide +kernel
theorem dX9_init_37 : decode cX9_init 37 = .ok (.getfield 12, 3) := by decide +kernel
theorem dX9_init_40 : decode cX9_init 40 = .ok (.getfield 27, 3) := by decide +kernel
theorem dX9_init_43 : decode cX9_init 43 = .ok (.invokespecial 31, 3) := by decide +kernel
theorem dX9_init_46 : decode cX9_init 46 = .ok (.putfield 34, 3) := by decide +kernel
theorem dX9_init_49 : decode cX9_init 49 = .ok (.aload_n 0, 1) := by decide +kernel
theorem dX9_init_50 : decode cX9_init 50 = .ok (.new 38, 3) := by decide +kernel
theorem dX9_init_53 : decode cX9_init 53 = .ok (.dup, 1) := by decide +kernel
theorem dX9_init_54 : decode cX9_init 54 = .ok (.invokespecial 40, 3) := by decide +kernel
theorem dX9_init_57 : decode cX9_init 57 = .ok (.putfield 41, 3) := by decide +kernel
theorem dX9_init_60 : decode cX9_init 60 = .ok (.aload_n 0, 1) := by decide +kernel
theorem dX9_init_61 : decode cX9_init 61 = .ok (.new 45, 3) := by decide +kernel
theorem dX9_init_64 : decode cX9_init 64 = .ok (.dup, 1) := by decide +kernel
theorem dX9_init_65 : decode cX9_init 65 = .ok (.invokespecial 47, 3) := by decide +kernel
theorem dX9_init_68 : decode cX9_init 68 = .ok (.putfield 48, 3) := by decide +kernel
theorem dX9_init_71 : decode cX9_init 71 = .ok (.aload_n 0, 1) := by decide +kernel
theorem dX9_init_72 : decode cX9_init 72 = .ok (.new 52, 3) := by decide +kernel
theorem dX9_init_75 : decode cX9_init 75 = .ok (.dup, 1) := by decide +kernel
theorem dX9_init_76 : decode cX9_init 76 = .ok (.invokespecial 54, 3) := by decide +kernel
theorem dX9_init_79 : decode cX9_init 79 = .ok (.putfield 55, 3) := by decide +kernel
theorem dX9_init_82 : decode cX9_init 82 = .ok (.aload_n 0, 1) := by decide +kernel
theorem dX9_init_83 : decode cX9_init 83 = .ok (.new 59, 3) := by decide +kernel
theorem dX9_init_86 : decode cX9_init 86 = .ok (.dup, 1) := by decide +kernel
theorem dX9_init_87 : decode cX9_init 87 = .ok (.invokespecial 61, 3) := by decide +kernel
theorem dX9_init_90 : decode cX9_init 90 = .ok (.putfield 62, 3) := by decide +kernel
theorem dX9_init_93 : decode cX9_init 93 = .ok (.aload_n 0, 1) := by decide +kernel
theorem dX9_init_94 : decode cX9_init 94 = .ok (.bipush 6, 2) := by decide +kernel
theorem dX9_init_96 : decode cX9_init 96 = .ok (.anewarray 66, 3) := by decide +kernel
theorem dX9_init_99 : decode cX9_init 99 = .ok (.putfield 68, 3) := by decide +kernel
theorem dX9_init_102 : decode cX9_init 102 = .ok (.iconst 0, 1) := by decide +kernel
theorem dX9_init_103 : decode cX9_init 103 = .ok (.istore_n 1, 1) := by decide +kernel
theorem dX9_init_104 : decode cX9_init 104 = .ok (.iload_n 1, 1) := by decide +kernel
theorem dX9_init_105 : decode cX9_init 105 = .ok (.bipush 6, 2) := by decide +kernel
theorem dX9_init_107 : decode cX9_init 107 = .ok (.if_icmp .ge 22, 3) := by decide +kernel
theorem dX9_init_110 : decode cX9_init 110 = .ok (.aload_n 0, 1) := by decide +kernel
theorem dX9_init_111 : decode cX9_init 111 = .ok (.getfield 68, 3) := by decide +kernel
theorem dX9_init_114 : decode cX9_init 114 = .ok (.iload_n 1, 1) := by decide +kernel
theorem dX9_init_115 : decode cX9_init 115 = .ok (.new 66, 3) := by decide +kernel
theorem dX9_init_118 : decode cX9_init 118 = .ok (.dup, 1) := by decide +kernel
theorem dX9_init_119 : decode cX9_init 119 = .ok (.invokespecial 72, 3) := by decide +kernel
theorem dX9_init_122 : decode cX9_init 122 = .ok (.aastore, 1) := by decide +kernel
theorem dX9_init_123 : decode cX9_init 123 = .ok (.iinc 1 1, 3) := by decide +kernel
theorem dX9_init_126 : decode cX9_init 126 = .ok (.goto (-22), 3) := by decide +kernel
theorem dX9_init_129 : decode cX9_init 129 = .ok (.return_, 1) := by decide +kernel
theorem dX9_size_0 : decode cX9_size 0 = .ok (.iload_n 1, 1) := by decide +kernel
theorem dX9_size_1 : decode cX9_size 1 = .ok (.iconst 4, 1) := by decide +kernel
theorem dX9_size_2 : decode cX9_size 2 = .ok (.if_icmp .lt 31, 3) := by decide +kernel
theorem dX9_size_5 : decode cX9_size 5 = .ok (.iload_n 1, 1) := by decide +kernel
theorem dX9_size_6 : decode cX9_size 6 = .ok (.bipush 8, 2) := by decide +kernel
theorem dX9_size_8 : decode cX9_size 8 = .ok (.if_icmp .gt 25, 3) := by decide +kernel
theorem dX9_size_11 : decode cX9_size 11 = .ok (.iload_n 2, 1) := by decide +kernel
theorem dX9_size_12 : decode cX9_size 12 = .ok (.iconst 2, 1) := by decide +kernel
theorem dX9_size_13 : decode cX9_size 13 = .ok (.if_icmp .lt 20, 3) := by decide +kernel
theorem dX9_size_16 : decode cX9_size 16 = .ok (.iload_n 2, 1) := by decide +kernel
theorem dX9_size_17 : decode cX9_size 17 = .ok (.iconst 3, 1) := by decide +kernel
theorem dX9_size_18 : decode cX9_size 18 = .ok (.if_icmp .gt 15, 3) := by decide +kernel
theorem dX9_size_21 : decode cX9_size 21 = .ok (.iload_n 3, 1) := by decide +kernel
theorem dX9_size_22 : decode cX9_size 22 = .ok (.iconst 1, 1) := by decide +kernel
theorem dX9_size_23 : decode cX9_size 23 = .ok (.if_icmp .lt 10, 3) := by decide +kernel
theorem dX9_size_26 : decode cX9_size 26 = .ok (.iload_n 3, 1) := by decide +kernel
theorem dX9_size_27 : decode cX9_size 27 = .ok (.iload_n 2, 1) := by decide +kernel
theorem dX9_size_28 : decode cX9_size 28 = .ok (.iconst 1, 1) := by decide +kernel
theorem dX9_size_29 : decode cX9_size 29 = .ok (.isub, 1) := by decide +kernel
theorem dX9_size_30 : decode cX9_size 30 = .ok (.if_icmp .le 6, 3) := by decide +kernel
theorem dX9_size_33 : decode cX9_size 33 = .ok (.bipush (-2), 2) := by decide +kernel
theorem dX9_size_35 : decode cX9_size 35 = .ok (.ireturn, 1) := by decide +kernel
theorem dX9_size_36 : decode cX9_size 36 = .ok (.aload_n 0, 1) := by decide +kernel
theorem dX9_size_37 : decode cX9_size 37 = .ok (.getfield 12, 3) := by decide +kernel
theorem dX9_size_40 : decode cX9_size 40 = .ok (.getfield 27, 3) := by decide +kernel
theorem dX9_size_43 : decode cX9_size 43 = .ok (.invokevirtual 73, 3) := by decide +kernel
theorem dX9_size_46 : decode cX9_size 46 = .ok (.istore 4, 2) := by decide +kernel
theorem dX9_size_48 : decode cX9_size 48 = .ok (.aload_n 0, 1) := by decide +kernel
theorem dX9_size_49 : decode cX9_size 49 = .ok (.getfield 12, 3) := by decide +kernel
theorem dX9_size_52 : decode cX9_size 52 = .ok (.getfield 27, 3) := by decide +kernel
theorem dX9_size_55 : decode cX9_size 55 = .ok (.iload_n 1, 1) := by decide +kernel
theorem dX9_size_56 : decode cX9_size 56 = .ok (.iload_n 2, 1) := by decide +kernel
theorem dX9_size_57 : decode cX9_size 57 = .ok (.iload_n 3, 1) := by decide +kernel
theorem dX9_size_58 : decode cX9_size 58 = .ok (.invokevirtual 79, 3) := by decide +kernel
theorem dX9_size_61 : decode cX9_size 61 = .ok (.aload_n 0, 1) := by decide +kernel
theorem dX9_size_62 : decode cX9_size 62 = .ok (.getfield 12, 3) := by decide +kernel
theorem dX9_size_65 : decode cX9_size 65 = .ok (.getfield 83, 3) := by decide +kernel
theorem dX9_size_68 : decode cX9_size 68 = .ok (.invokevirtual 86, 3) := by decide +kernel
theorem dX9_size_71 : decode cX9_size 71 = .ok (.iload 4, 2) := by decide +kernel
theorem dX9_size_73 : decode cX9_size 73 = .ok (.ireturn, 1) := by decide +kernel
theorem dX9_count_0 : decode cX9_count 0 = .ok (.aload_n 0, 1) := by decide +kernel
theorem dX9_count_1 : decode cX9_count 1 = .ok (.getfield 12, 3) := by decide +kernel
theorem dX9_count_4 : decode cX9_count 4 = .ok (.getfield 27, 3) := by decide +kernel
theorem dX9_count_7 : decode cX9_count 7 = .ok (.iload_n 1, 1) := by decide +kernel
theorem dX9_count_8 : decode cX9_count 8 = .ok (.invokevirtual 89, 3) := by decide +kernel
theorem dX9_count_11 : decode cX9_count 11 = .ok (.ifCond .ne 5, 3) := by decide +kernel
theorem dX9_count_14 : decode cX9_count 14 = .ok (.iconst (-1), 1) := by decide +kernel
theorem dX9_count_15 : decode cX9_count 15 = .ok (.ireturn, 1) := by decide +kernel
theorem dX9_count_16 : decode cX9_count 16 = .ok (.iload_n 2, 1) := by decide +kernel
theorem dX9_count_17 : decode cX9_count 17 = .ok (.invokestatic 93, 3) := by decide +kernel
theorem dX9_count_20 : decode cX9_count 20 = .ok (.ifCond .ne 6, 3) := by decide +kernel
theorem dX9_count_23 : decode cX9_count 23 = .ok (.bipush (-2), 2) := by decide +kernel
theorem dX9_count_25 : decode cX9_count 25 = .ok (.ireturn, 1) := by decide +kernel
theorem dX9_count_26 : decode cX9_count 26 = .ok (.aload_n 0, 1) := by decide +kernel
theorem dX9_count_27 : decode cX9_count 27 = .ok (.getfield 12, 3) := by decide +kernel
theorem dX9_count_30 : decode cX9_count 30 = .ok (.getfield 83, 3) := by decide +kernel
theorem dX9_count_33 : decode cX9_count 33 = .ok (.getfield 96, 3) := by decide +kernel
theorem dX9_count_36 : decode cX9_count 36 = .ok (.iload_n 1, 1) := by decide +kernel
theorem dX9_count_37 : decode cX9_count 37 = .ok (.iaload, 1) := by decide +kernel
theorem dX9_count_38 : decode cX9_count 38 = .ok (.istore_n 3, 1) := by decide +kernel
theorem dX9_count_39 : decode cX9_count 39 = .ok (.aload_n 0, 1) := by decide +kernel
theorem dX9_count_40 : decode cX9_count 40 = .ok (.getfield 12, 3) := by decide +kernel
theorem dX9_count_43 : decode cX9_count 43 = .ok (.getfield 83, 3) := by decide +kernel
theorem dX9_count_46 : decode cX9_count 46 = .ok (.getfield 96, 3) := by decide +kernel
theorem dX9_count_49 : decode cX9_count 49 = .ok (.iload_n 1, 1) := by decide +kernel
theorem dX9_count_50 : decode cX9_count 50 = .ok (.iload_n 2, 1) := by decide +kernel
theorem dX9_count_51 : decode cX9_count 51 = .ok (.iastore, 1) := by decide +kernel
theorem dX9_count_52 : decode cX9_count 52 = .ok (.iload_n 3, 1) := by decide +kernel
theorem dX9_count_53 : decode cX9_count 53 = .ok (.bipush 100, 2) := by decide +kernel
theorem dX9_count_55 : decode cX9_count 55 = .ok (.iadd, 1) := by decide +kernel
theorem dX9_count_56 : decode cX9_count 56 = .ok (.ireturn, 1) := by decide +kernel
theorem dX9_twist_0 : decode cX9_twist 0 = .ok (.aload_n 0, 1) := by decide +kernel
theorem dX9_twist_1 : decode cX9_twist 1 = .ok (.getfield 41, 3) := by decide +kernel
theorem dX9_twist_4 : decode cX9_twist 4 = .ok (.aload_n 0, 1) := by decide +kernel
theorem dX9_twist_5 : decode cX9_twist 5 = .ok (.getfield 12, 3) := by decide +kernel
theorem dX9_twist_8 : decode cX9_twist 8 = .ok (.getfield 27, 3) := by decide +kernel
theorem dX9_twist_11 : decode cX9_twist 11 = .ok (.iload_n 1, 1) := by decide +kernel
theorem dX9_twist_12 : decode cX9_twist 12 = .ok (.invokevirtual 100, 3) := by decide +kernel
theorem dX9_twist_15 : decode cX9_twist 15 = .ok (.ifCond .eq 19, 3) := by decide +kernel
theorem dX9_twist_18 : decode cX9_twist 18 = .ok (.iload_n 2, 1) := by decide +kernel
theorem dX9_twist_19 : decode cX9_twist 19 = .ok (.bipush (-9), 2) := by decide +kernel
theorem dX9_twist_21 : decode cX9_twist 21 = .ok (.if_icmp .lt 13, 3) := by decide +kernel
theorem dX9_twist_24 : decode cX9_twist 24 = .ok (.iload_n 2, 1) := by decide +kernel
theorem dX9_twist_25 : decode cX9_twist 25 = .ok (.bipush 9, 2) := by decide +kernel
theorem dX9_twist_27 : decode cX9_twist 27 = .ok (.if_icmp .gt 7, 3) := by decide +kernel
theorem dX9_twist_30 : decode cX9_twist 30 = .ok (.iload_n 2, 1) := by decide +kernel
theorem dX9_twist_31 : decode cX9_twist 31 = .ok (.ifCond .ne 6, 3) := by decide +kernel
theorem dX9_twist_34 : decode cX9_twist 34 = .ok (.bipush (-2), 2) := by decide +kernel
theorem dX9_twist_36 : decode cX9_twist 36 = .ok (.ireturn, 1) := by decide +kernel
theorem dX9_twist_37 : decode cX9_twist 37 = .ok (.aload_n 0, 1) := by decide +kernel
theorem dX9_twist_38 : decode cX9_twist 38 = .ok (.getfield 12, 3) := by decide +kernel
theorem dX9_twist_41 : decode cX9_twist 41 = .ok (.getfield 83, 3) := by decide +kernel
theorem dX9_twist_44 : decode cX9_twist 44 = .ok (.aload_n 0, 1) := by decide +kernel
theorem dX9_twist_45 : decode cX9_twist 45 = .ok (.getfield 41, 3) := by decide +kernel
theorem dX9_twist_48 : decode cX9_twist 48 = .ok (.iload_n 2, 1) := by decide +kernel
theorem dX9_twist_49 : decode cX9_twist 49 = .ok (.invokevirtual 104, 3) := by decide +kernel
theorem dX9_twist_52 : decode cX9_twist 52 = .ok (.ifCond .ne 6, 3) := by decide +kernel
theorem dX9_twist_55 : decode cX9_twist 55 = .ok (.bipush (-3), 2) := by decide +kernel
theorem dX9_twist_57 : decode cX9_twist 57 = .ok (.ireturn, 1) := by decide +kernel
theorem dX9_twist_58 : decode cX9_twist 58 = .ok (.aload_n 0, 1) := by decide +kernel
theorem dX9_twist_59 : decode cX9_twist 59 = .ok (.getfield 12, 3) := by decide +kernel
theorem dX9_twist_62 : decode cX9_twist 62 = .ok (.getfield 83, 3) := by decide +kernel
theorem dX9_twist_65 : decode cX9_twist 65 = .ok (.invokevirtual 108, 3) := by decide +kernel
theorem dX9_twist_68 : decode cX9_twist 68 = .ok (.ireturn, 1) := by decide +kernel
theorem dX9_turn_0 : decode cX9_turn 0 = .ok (.aload_n 0, 1) := by decide +kernel
theorem dX9_turn_1 : decode cX9_turn 1 = .ok (.getfield 12, 3) := by decide +kernel
theorem dX9_turn_4 : decode cX9_turn 4 = .ok (.getfield 83, 3) := by decide +kernel
theorem dX9_turn_7 : decode cX9_turn 7 = .ok (.invokevirtual 111, 3) := by decide +kernel
theorem dX9_turn_10 : decode cX9_turn 10 = .ok (.aload_n 0, 1) := by decide +kernel
theorem dX9_turn_11 : decode cX9_turn 11 = .ok (.getfield 12, 3) := by decide +kernel
theorem dX9_turn_14 : decode cX9_turn 14 = .ok (.getfield 83, 3) := by decide +kernel
theorem dX9_turn_17 : decode cX9_turn 17 = .ok (.invokevirtual 108, 3) := by decide +kernel
theorem dX9_turn_20 : decode cX9_turn 20 = .ok (.ireturn, 1) := by decide +kernel
theorem dX9_clear_0 : decode cX9_clear 0 = .ok (.aload_n 0, 1) := by decide +kernel
theorem dX9_clear_1 : decode cX9_clear 1 = .ok (.getfield 12, 3) := by decide +kernel
theorem dX9_clear_4 : decode cX9_clear 4 = .ok (.getfield 83, 3) := by decide +kernel
theorem dX9_clear_7 : decode cX9_clear 7 = .ok (.invokevirtual 114, 3) := by decide +kernel
theorem dX9_clear_10 : decode cX9_clear 10 = .ok (.istore_n 1, 1) := by decide +kernel
theorem dX9_clear_11 : decode cX9_clear 11 = .ok (.aload_n 0, 1) := by decide +kernel
theorem dX9_clear_12 : decode cX9_clear 12 = .ok (.getfield 12, 3) := by decide +kernel
theorem dX9_clear_15 : decode cX9_clear 15 = .ok (.getfield 83, 3) := by decide +kernel
theorem dX9_clear_18 : decode cX9_clear 18 = .ok (.invokevirtual 117, 3) := by decide +kernel
theorem dX9_clear_21 : decode cX9_clear 21 = .ok (.iload_n 1, 1) := by decide +kernel
theorem dX9_clear_22 : decode cX9_clear 22 = .ok (.ireturn, 1) := by decide +kernel
theorem dX9_put_0 : decode cX9_put 0 = .ok (.aload_n 0, 1) := by decide +kernel
theorem dX9_put_1 : decode cX9_put 1 = .ok (.getfield 12, 3) := by decide +kernel
theorem dX9_put_4 : decode cX9_put 4 = .ok (.getfield 27, 3) := by decide +kernel
theorem dX9_put_7 : decode cX9_put 7 = .ok (.iload_n 1, 1) := by decide +kernel
theorem dX9_put_8 : decode cX9_put 8 = .ok (.invokevirtual 89, 3) := by decide +kernel
theorem dX9_put_11 : decode cX9_put 11 = .ok (.ifCond .ne 5, 3) := by decide +kernel
theorem dX9_put_14 : decode cX9_put 14 = .ok (.iconst (-1), 1) := by decide +kernel
theorem dX9_put_15 : decode cX9_put 15 = .ok (.ireturn, 1) := by decide +kernel
theorem dX9_put_16 : decode cX9_put 16 = .ok (.iload_n 2, 1) := by decide +kernel
theorem dX9_put_17 : decode cX9_put 17 = .ok (.ifCond .eq 11, 3) := by decide +kernel
theorem dX9_put_20 : decode cX9_put 20 = .ok (.iload_n 2, 1) := by decide +kernel
theorem dX9_put_21 : decode cX9_put 21 = .ok (.iconst 1, 1) := by decide +kernel
theorem dX9_put_22 : decode cX9_put 22 = .ok (.if_icmp .eq 6, 3) := by decide +kernel
theorem dX9_put_25 : decode cX9_put 25 = .ok (.bipush (-2), 2) := by decide +kernel
theorem dX9_put_27 : decode cX9_put 27 = .ok (.ireturn, 1) := by decide +kernel
theorem dX9_put_28 : decode cX9_put 28 = .ok (.aload_n 0, 1) := by decide +kernel
theorem dX9_put_29 : decode cX9_put 29 = .ok (.getfield 12, 3) := by decide +kernel
theorem dX9_put_32 : decode cX9_put 32 = .ok (.getfield 83, 3) := by decide +kernel
theorem dX9_put_35 : decode cX9_put 35 = .ok (.getfield 120, 3) := by decide +kernel
theorem dX9_put_38 : decode cX9_put 38 = .ok (.iload_n 1, 1) := by decide +kernel
theorem dX9_put_39 : decode cX9_put 39 = .ok (.invokestatic 124, 3) := by decide +kernel
theorem dX9_put_42 : decode cX9_put 42 = .ok (.ifCond .eq 7, 3) := by decide +kernel
theorem dX9_put_45 : decode cX9_put 45 = .ok (.iconst 1, 1) := by decide +kernel
theorem dX9_put_46 : decode cX9_put 46 = .ok (.goto 4, 3) := by decide +kernel
theorem dX9_put_49 : decode cX9_put 49 = .ok (.iconst 0, 1) := by decide +kernel
theorem dX9_put_50 : decode cX9_put 50 = .ok (.istore_n 3, 1) := by decide +kernel
theorem dX9_put_51 : decode cX9_put 51 = .ok (.iload_n 3, 1) := by decide +kernel
theorem dX9_put_52 : decode cX9_put 52 = .ok (.iload_n 2, 1) := by decide +kernel
theorem dX9_put_53 : decode cX9_put 53 = .ok (.if_icmp .eq 14, 3) := by decide +kernel
theorem dX9_put_56 : decode cX9_put 56 = .ok (.aload_n 0, 1) := by decide +kernel
theorem dX9_put_57 : decode cX9_put 57 = .ok (.getfield 12, 3) := by decide +kernel
theorem dX9_put_60 : decode cX9_put 60 = .ok (.getfield 83, 3) := by decide +kernel
theorem dX9_put_63 : decode cX9_put 63 = .ok (.iload_n 1, 1) := by decide +kernel
theorem dX9_put_64 : decode cX9_put 64 = .ok (.invokevirtual 128, 3) := by decide +kernel
theorem dX9_put_67 : decode cX9_put 67 = .ok (.iload_n 3, 1) := by decide +kernel
theorem dX9_put_68 : decode cX9_put 68 = .ok (.ireturn, 1) := by decide +kernel
theorem dX9_swap_0 : decode cX9_swap 0 = .ok (.aload_n 0, 1) := by decide +kernel
theorem dX9_swap_1 : decode cX9_swap 1 = .ok (.getfield 12, 3) := by decide +kernel
theorem dX9_swap_4 : decode cX9_swap 4 = .ok (.getfield 83, 3) := by decide +kernel
theorem dX9_swap_7 : decode cX9_swap 7 = .ok (.invokevirtual 132, 3) := by decide +kernel
theorem dX9_swap_10 : decode cX9_swap 10 = .ok (.ifCond .ne 6, 3) := by decide +kernel
theorem dX9_swap_13 : decode cX9_swap 13 = .ok (.bipush (-3), 2) := by decide +kernel
theorem dX9_swap_15 : decode cX9_swap 15 = .ok (.ireturn, 1) := by decide +kernel
theorem dX9_swap_16 : decode cX9_swap 16 = .ok (.aload_n 0, 1) := by decide +kernel
theorem dX9_swap_17 : decode cX9_swap 17 = .ok (.getfield 12, 3) := by decide +kernel
theorem dX9_swap_20 : decode cX9_swap 20 = .ok (.getfield 83, 3) := by decide +kernel
theorem dX9_swap_23 : decode cX9_swap 23 = .ok (.invokevirtual 136, 3) := by decide +kernel
theorem dX9_swap_26 : decode cX9_swap 26 = .ok (.aload_n 0, 1) := by decide +kernel
theorem dX9_swap_27 : decode cX9_swap 27 = .ok (.getfield 12, 3) := by decide +kernel
theorem dX9_swap_30 : decode cX9_swap 30 = .ok (.getfield 83, 3) := by decide +kernel
theorem dX9_swap_33 : decode cX9_swap 33 = .ok (.getfield 120, 3) := by decide +kernel
theorem dX9_swap_36 : decode cX9_swap 36 = .ok (.invokestatic 139, 3) := by decide +kernel
theorem dX9_swap_39 : decode cX9_swap 39 = .ok (.ireturn, 1) := by decide +kernel
theorem dX9_keep_0 : decode cX9_keep 0 = .ok (.aload_n 0, 1) := by decide +kernel
theorem dX9_keep_1 : decode cX9_keep 1 = .ok (.getfield 12, 3) := by decide +kernel
theorem dX9_keep_4 : decode cX9_keep 4 = .ok (.getfield 83, 3) := by decide +kernel
theorem dX9_keep_7 : decode cX9_keep 7 = .ok (.aload_n 0, 1) := by decide +kernel
theorem dX9_keep_8 : decode cX9_keep 8 = .ok (.getfield 12, 3) := by decide +kernel
theorem dX9_keep_11 : decode cX9_keep 11 = .ok (.getfield 83, 3) := by decide +kernel
theorem dX9_keep_14 : decode cX9_keep 14 = .ok (.getfield 120, 3) := by decide +kernel
theorem dX9_keep_17 : decode cX9_keep 17 = .ok (.putfield 143, 3) := by decide +kernel
theorem dX9_keep_20 : decode cX9_keep 20 = .ok (.aload_n 0, 1) := by decide +kernel
theorem dX9_keep_21 : decode cX9_keep 21 = .ok (.getfield 12, 3) := by decide +kernel
theorem dX9_keep_24 : decode cX9_keep 24 = .ok (.getfield 83, 3) := by decide +kernel
theorem dX9_keep_27 : decode cX9_keep 27 = .ok (.getfield 143, 3) := by decide +kernel
theorem dX9_keep_30 : decode cX9_keep 30 = .ok (.invokestatic 139, 3) := by decide +kernel
theorem dX9_keep_33 : decode cX9_keep 33 = .ok (.ireturn, 1) := by decide +kernel
theorem dX9_differ_0 : decode cX9_differ 0 = .ok (.aload_n 0, 1) := by decide +kernel
theorem dX9_differ_1 : decode cX9_differ 1 = .ok (.getfield 12, 3) := by decide +kernel
theorem dX9_differ_4 : decode cX9_differ 4 = .ok (.getfield 83, 3) := by decide +kernel
theorem dX9_differ_7 : decode cX9_differ 7 = .ok (.invokevirtual 146, 3) := by decide +kernel
theorem dX9_differ_10 : decode cX9_differ 10 = .ok (.aload_n 0, 1) := by decide +kernel
theorem dX9_differ_11 : decode cX9_differ 11 = .ok (.getfield 12, 3) := by decide +kernel
theorem dX9_differ_14 : decode cX9_differ 14 = .ok (.getfield 83, 3) := by decide +kernel
theorem dX9_differ_17 : decode cX9_differ 17 = .ok (.invokevirtual 108, 3) := by decide +kernel
theorem dX9_differ_20 : decode cX9_differ 20 = .ok (.ireturn, 1) := by decide +kernel
theorem dX9_exchange_0 : decode cX9_exchange 0 = .ok (.aload_n 0, 1) := by decide +kernel
theorem dX9_exchange_1 : decode cX9_exchange 1 = .ok (.getfield 12, 3) := by decide +kernel
theorem dX9_exchange_4 : decode cX9_exchange 4 = .ok (.getfield 27, 3) := by decide +kernel
theorem dX9_exchange_7 : decode cX9_exchange 7 = .ok (.iload_n 1, 1) := by decide +kernel
theorem dX9_exchange_8 : decode cX9_exchange 8 = .ok (.invokevirtual 149, 3) := by decide +kernel
theorem dX9_exchange_11 : decode cX9_exchange 11 = .ok (.ifCond .eq 22, 3) := by decide +kernel
theorem dX9_exchange_14 : decode cX9_exchange 14 = .ok (.aload_n 0, 1) := by decide +kernel
theorem dX9_exchange_15 : decode cX9_exchange 15 = .ok (.getfield 12, 3) := by decide +kernel
theorem dX9_exchange_18 : decode cX9_exchange 18 = .ok (.getfield 27, 3) := by decide +kernel
theorem dX9_exchange_21 : decode cX9_exchange 21 = .ok (.iload_n 2, 1) := by decide +kernel
theorem dX9_exchange_22 : decode cX9_exchange 22 = .ok (.invokevirtual 149, 3) := by decide +kernel
theorem dX9_exchange_25 : decode cX9_exchange 25 = .ok (.ifCond .eq 8, 3) := by decide +kernel
theorem dX9_exchange_28 : decode cX9_exchange 28 = .ok (.iload_n 1, 1) := by decide +kernel
theorem dX9_exchange_29 : decode cX9_exchange 29 = .ok (.iload_n 2, 1) := by decide +kernel
theorem dX9_exchange_30 : decode cX9_exchange 30 = .ok (.if_icmp .ne 5, 3) := by decide +kernel
theorem dX9_exchange_33 : decode cX9_exchange 33 = .ok (.iconst (-1), 1) := by decide +kernel
theorem dX9_exchange_34 : decode cX9_exchange 34 = .ok (.ireturn, 1) := by decide +kernel
theorem dX9_exchange_35 : decode cX9_exchange 35 = .ok (.aload_n 0, 1) := by decide +kernel
theorem dX9_exchange_36 : decode cX9_exchange 36 = .ok (.getfield 12, 3) := by decide +kernel
theorem dX9_exchange_39 : decode cX9_exchange 39 = .ok (.getfield 83, 3) := by decide +kernel
theorem dX9_exchange_42 : decode cX9_exchange 42 = .ok (.iload_n 1, 1) := by decide +kernel
theorem dX9_exchange_43 : decode cX9_exchange 43 = .ok (.iload_n 2, 1) := by decide +kernel
theorem dX9_exchange_44 : decode cX9_exchange 44 = .ok (.invokevirtual 152, 3) := by decide +kernel
theorem dX9_exchange_47 : decode cX9_exchange 47 = .ok (.iconst 1, 1) := by decide +kernel
theorem dX9_exchange_48 : decode cX9_exchange 48 = .ok (.ireturn, 1) := by decide +kernel
theorem dX9_feed_0 : decode cX9_feed 0 = .ok (.iload_n 1, 1) := by decide +kernel
theorem dX9_feed_1 : decode cX9_feed 1 = .ok (.ifCond .lt 9, 3) := by decide +kernel
theorem dX9_feed_4 : decode cX9_feed 4 = .ok (.iload_n 1, 1) := by decide +kernel
theorem dX9_feed_5 : decode cX9_feed 5 = .ok (.bipush 127, 2) := by decide +kernel
theorem dX9_feed_7 : decode cX9_feed 7 = .ok (.if_icmp .le 6, 3) := by decide +kernel
theorem dX9_feed_10 : decode cX9_feed 10 = .ok (.bipush (-2), 2) := by decide +kernel
theorem dX9_feed_12 : decode cX9_feed 12 = .ok (.ireturn, 1) := by decide +kernel
theorem dX9_feed_13 : decode cX9_feed 13 = .ok (.aload_n 0, 1) := by decide +kernel
theorem dX9_feed_14 : decode cX9_feed 14 = .ok (.getfield 62, 3) := by decide +kernel
theorem dX9_feed_17 : decode cX9_feed 17 = .ok (.iload_n 1, 1) := by decide +kernel
theorem dX9_feed_18 : decode cX9_feed 18 = .ok (.invokevirtual 156, 3) := by decide +kernel
theorem dX9_feed_21 : decode cX9_feed 21 = .ok (.ifCond .ne 6, 3) := by decide +kernel
theorem dX9_feed_24 : decode cX9_feed 24 = .ok (.bipush (-4), 2) := by decide +kernel
theorem dX9_feed_26 : decode cX9_feed 26 = .ok (.ireturn, 1) := by decide +kernel
theorem dX9_feed_27 : decode cX9_feed 27 = .ok (.aload_n 0, 1) := by decide +kernel
theorem dX9_feed_28 : decode cX9_feed 28 = .ok (.getfield 62, 3) := by decide +kernel
theorem dX9_feed_31 : decode cX9_feed 31 = .ok (.getfield 159, 3) := by decide +kernel
theorem dX9_feed_34 : decode cX9_feed 34 = .ok (.ireturn, 1) := by decide +kernel
theorem dX9_read_0 : decode cX9_read 0 = .ok (.aload_n 0, 1) := by decide +kernel
theorem dX9_read_1 : decode cX9_read 1 = .ok (.getfield 62, 3) := by decide +kernel
theorem dX9_read_4 : decode cX9_read 4 = .ok (.invokevirtual 163, 3) := by decide +kernel
theorem dX9_read_7 : decode cX9_read 7 = .ok (.istore_n 1, 1) := by decide +kernel
theorem dX9_read_8 : decode cX9_read 8 = .ok (.aload_n 0, 1) := by decide +kernel
theorem dX9_read_9 : decode cX9_read 9 = .ok (.getfield 62, 3) := by decide +kernel
theorem dX9_read_12 : decode cX9_read 12 = .ok (.iconst 0, 1) := by decide +kernel
theorem dX9_read_13 : decode cX9_read 13 = .ok (.putfield 159, 3) := by decide +kernel
theorem dX9_read_16 : decode cX9_read 16 = .ok (.iload_n 1, 1) := by decide +kernel
theorem dX9_read_17 : decode cX9_read 17 = .ok (.ifCond .lt 8, 3) := by decide +kernel
theorem dX9_read_20 : decode cX9_read 20 = .ok (.bipush (-10), 2) := by decide +kernel
theorem dX9_read_22 : decode cX9_read 22 = .ok (.iload_n 1, 1) := by decide +kernel
theorem dX9_read_23 : decode cX9_read 23 = .ok (.isub, 1) := by decide +kernel
theorem dX9_read_24 : decode cX9_read 24 = .ok (.ireturn, 1) := by decide +kernel
theorem dX9_read_25 : decode cX9_read 25 = .ok (.iconst 0, 1) := by decide +kernel
theorem dX9_read_26 : decode cX9_read 26 = .ok (.istore_n 2, 1) := by decide +kernel
theorem dX9_read_27 : decode cX9_read 27 = .ok (.iconst 0, 1) := by decide +kernel
theorem dX9_read_28 : decode cX9_read 28 = .ok (.istore_n 3, 1) := by decide +kernel
theorem dX9_read_29 : decode cX9_read 29 = .ok (.iload_n 3, 1) := by decide +kernel
theorem dX9_read_30 : decode cX9_read 30 = .ok (.aload_n 0, 1) := by decide +kernel
theorem dX9_read_31 : decode cX9_read 31 = .ok (.getfield 62, 3) := by decide +kernel
theorem dX9_read_34 : decode cX9_read 34 = .ok (.getfield 166, 3) := by decide +kernel
theorem dX9_read_37 : decode cX9_read 37 = .ok (.if_icmp .ge 59, 3) := by decide +kernel
theorem dX9_read_40 : decode cX9_read 40 = .ok (.aload_n 0, 1) := by decide +kernel
theorem dX9_read_41 : decode cX9_read 41 = .ok (.aload_n 0, 1) := by decide +kernel
theorem dX9_read_42 : decode cX9_read 42 = .ok (.getfield 62, 3) := by decide +kernel
theorem dX9_read_45 : decode cX9_read 45 = .ok (.getfield 169, 3) := by decide +kernel
theorem dX9_read_48 : decode cX9_read 48 = .ok (.iload_n 3, 1) := by decide +kernel
theorem dX9_read_49 : decode cX9_read 49 = .ok (.iaload, 1) := by decide +kernel
theorem dX9_read_50 : decode cX9_read 50 = .ok (.aload_n 0, 1) := by decide +kernel
theorem dX9_read_51 : decode cX9_read 51 = .ok (.getfield 62, 3) := by decide +kernel
theorem dX9_read_54 : decode cX9_read 54 = .ok (.iload_n 3, 1) := by decide +kernel
theorem dX9_read_55 : decode cX9_read 55 = .ok (.iconst 0, 1) := by decide +kernel
theorem dX9_read_56 : decode cX9_read 56 = .ok (.invokevirtual 172, 3) := by decide +kernel
theorem dX9_read_59 : decode cX9_read 59 = .ok (.aload_n 0, 1) := by decide +kernel
theorem dX9_read_60 : decode cX9_read 60 = .ok (.getfield 62, 3) := by decide +kernel
theorem dX9_read_63 : decode cX9_read 63 = .ok (.iload_n 3, 1) := by decide +kernel
theorem dX9_read_64 : decode cX9_read 64 = .ok (.iconst 1, 1) := by decide +kernel
theorem dX9_read_65 : decode cX9_read 65 = .ok (.invokevirtual 172, 3) := by decide +kernel
theorem dX9_read_68 : decode cX9_read 68 = .ok (.aload_n 0, 1) := by decide +kernel
theorem dX9_read_69 : decode cX9_read 69 = .ok (.getfield 62, 3) := by decide +kernel
theorem dX9_read_72 : decode cX9_read 72 = .ok (.iload_n 3, 1) := by decide +kernel
theorem dX9_read_73 : decode cX9_read 73 = .ok (.iconst 2, 1) := by decide +kernel
theorem dX9_read_74 : decode cX9_read 74 = .ok (.invokevirtual 172, 3) := by decide +kernel
theorem dX9_read_77 : decode cX9_read 77 = .ok (.invokevirtual 176, 3) := by decide +kernel
theorem dX9_read_80 : decode cX9_read 80 = .ok (.istore 4, 2) := by decide +kernel
theorem dX9_read_82 : decode cX9_read 82 = .ok (.iload 4, 2) := by decide +kernel
theorem dX9_read_84 : decode cX9_read 84 = .ok (.ifCond .lt 6, 3) := by decide +kernel
theorem dX9_read_87 : decode cX9_read 87 = .ok (.iinc 2 1, 3) := by decide +kernel
theorem dX9_read_90 : decode cX9_read 90 = .ok (.iinc 3 1, 3) := by decide +kernel
theorem dX9_read_93 : decode cX9_read 93 = .ok (.goto (-64), 3) := by decide +kernel
theorem dX9_read_96 : decode cX9_read 96 = .ok (.iload_n 2, 1) := by decide +kernel
theorem dX9_read_97 : decode cX9_read 97 = .ok (.ireturn, 1) := by decide +kernel
theorem dX9_doClause_0 : decode cX9_doClause 0 = .ok (.iload_n 1, 1) := by decide +kernel
theorem dX9_doClause_1 : decode cX9_doClause 1 = .ok (.tableswitch 119 0 7 #[47, 56, 63, 70, 99, 104, 109, 114], 47) := by decide +kernel
theorem dX9_doClause_48 : decode cX9_doClause 48 = .ok (.aload_n 0, 1) := by decide +kernel
theorem dX9_doClause_49 : decode cX9_doClause 49 = .ok (.iload_n 2, 1) := by decide +kernel
theorem dX9_doClause_50 : decode cX9_doClause 50 = .ok (.iload_n 3, 1) := by decide +kernel
theorem dX9_doClause_51 : decode cX9_doClause 51 = .ok (.iload 4, 2) := by decide +kernel
theorem dX9_doClause_53 : decode cX9_doClause 53 = .ok (.invokevirtual 180, 3) := by decide +kernel
theorem dX9_doClause_56 : decode cX9_doClause 56 = .ok (.ireturn, 1) := by decide +kernel
theorem dX9_doClause_57 : decode cX9_doClause 57 = .ok (.aload_n 0, 1) := by decide +kernel
theorem dX9_doClause_58 : decode cX9_doClause 58 = .ok (.iload_n 2, 1) := by decide +kernel
theorem dX9_doClause_59 : decode cX9_doClause 59 = .ok (.iload_n 3, 1) := by decide +kernel
theorem dX9_doClause_60 : decode cX9_doClause 60 = .ok (.invokevirtual 184, 3) := by decide +kernel
theorem dX9_doClause_63 : decode cX9_doClause 63 = .ok (.ireturn, 1) := by decide +kernel
theorem dX9_doClause_64 : decode cX9_doClause 64 = .ok (.aload_n 0, 1) := by decide +kernel
theorem dX9_doClause_65 : decode cX9_doClause 65 = .ok (.iload_n 2, 1) := by decide +kernel
theorem dX9_doClause_66 : decode cX9_doClause 66 = .ok (.iload_n 3, 1) := by decide +kernel
theorem dX9_doClause_67 : decode cX9_doClause 67 = .ok (.invokevirtual 187, 3) := by decide +kernel
theorem dX9_doClause_70 : decode cX9_doClause 70 = .ok (.ireturn, 1) := by decide +kernel
theorem dX9_doClause_71 : decode cX9_doClause 71 = .ok (.aload_n 0, 1) := by decide +kernel
theorem dX9_doClause_72 : decode cX9_doClause 72 = .ok (.getfield 12, 3) := by decide +kernel
theorem dX9_doClause_75 : decode cX9_doClause 75 = .ok (.getfield 27, 3) := by decide +kernel
theorem dX9_doClause_78 : decode cX9_doClause 78 = .ok (.iload_n 2, 1) := by decide +kernel
theorem dX9_doClause_79 : decode cX9_doClause 79 = .ok (.invokevirtual 89, 3) := by decide +kernel
theorem dX9_doClause_82 : decode cX9_doClause 82 = .ok (.ifCond .ne 5, 3) := by decide +kernel
theorem dX9_doClause_85 : decode cX9_doClause 85 = .ok (.iconst (-1), 1) := by decide +kernel
theorem dX9_doClause_86 : decode cX9_doClause 86 = .ok (.ireturn, 1) := by decide +kernel
theorem dX9_doClause_87 : decode cX9_doClause 87 = .ok (.aload_n 0, 1) := by decide +kernel
theorem dX9_doClause_88 : decode cX9_doClause 88 = .ok (.getfield 12, 3) := by decide +kernel
theorem dX9_doClause_91 : decode cX9_doClause 91 = .ok (.getfield 83, 3) := by decide +kernel
theorem dX9_doClause_94 : decode cX9_doClause 94 = .ok (.iload_n 2, 1) := by decide +kernel
theorem dX9_doClause_95 : decode cX9_doClause 95 = .ok (.invokevirtual 128, 3) := by decide +kernel
theorem dX9_doClause_98 : decode cX9_doClause 98 = .ok (.iconst 0, 1) := by decide +kernel
theorem dX9_doClause_99 : decode cX9_doClause 99 = .ok (.ireturn, 1) := by decide +kernel
theorem dX9_doClause_100 : decode cX9_doClause 100 = .ok (.aload_n 0, 1) := by decide +kernel
theorem dX9_doClause_101 : decode cX9_doClause 101 = .ok (.invokevirtual 190, 3) := by decide +kernel
theorem dX9_doClause_104 : decode cX9_doClause 104 = .ok (.ireturn, 1) := by decide +kernel
theorem dX9_doClause_105 : decode cX9_doClause 105 = .ok (.aload_n 0, 1) := by decide +kernel
theorem dX9_doClause_106 : decode cX9_doClause 106 = .ok (.invokevirtual 193, 3) := by decide +kernel
theorem dX9_doClause_109 : decode cX9_doClause 109 = .ok (.ireturn, 1) := by decide +kernel
theorem dX9_doClause_110 : decode cX9_doClause 110 = .ok (.aload_n 0, 1) := by decide +kernel
theorem dX9_doClause_111 : decode cX9_doClause 111 = .ok (.invokevirtual 196, 3) := by decide +kernel
theorem dX9_doClause_114 : decode cX9_doClause 114 = .ok (.ireturn, 1) := by decide +kernel
theorem dX9_doClause_115 : decode cX9_doClause 115 = .ok (.aload_n 0, 1) := by decide +kernel
theorem dX9_doClause_116 : decode cX9_doClause 116 = .ok (.invokevirtual 199, 3) := by decide +kernel
theorem dX9_doClause_119 : decode cX9_doClause 119 = .ok (.ireturn, 1) := by decide +kernel
theorem dX9_doClause_120 : decode cX9_doClause 120 = .ok (.iconst (-1), 1) := by decide +kernel
theorem dX9_doClause_121 : decode cX9_doClause 121 = .ok (.ireturn, 1) := by decide +kernel
theorem dX9_told_0 : decode cX9_told 0 = .ok (.iload_n 1, 1) := by decide +kernel
theorem dX9_told_1 : decode cX9_told 1 = .ok (.tableswitch 189 0 9 #[55, 66, 77, 88, 107, 126, 140, 151, 165, 178], 55) := by decide +kernel
theorem dX9_told_56 : decode cX9_told 56 = .ok (.aload_n 0, 1) := by decide +kernel
theorem dX9_told_57 : decode cX9_told 57 = .ok (.getfield 12, 3) := by decide +kernel
theorem dX9_told_60 : decode cX9_told 60 = .ok (.getfield 27, 3) := by decide +kernel
theorem dX9_told_63 : decode cX9_told 63 = .ok (.getfield 202, 3) := by decide +kernel
theorem dX9_told_66 : decode cX9_told 66 = .ok (.ireturn, 1) := by decide +kernel
theorem dX9_told_67 : decode cX9_told 67 = .ok (.aload_n 0, 1) := by decide +kernel
theorem dX9_told_68 : decode cX9_told 68 = .ok (.getfield 12, 3) := by decide +kernel
theorem dX9_told_71 : decode cX9_told 71 = .ok (.getfield 83, 3) := by decide +kernel
theorem dX9_told_74 : decode cX9_told 74 = .ok (.invokevirtual 108, 3) := by decide +kernel
theorem dX9_told_77 : decode cX9_told 77 = .ok (.ireturn, 1) := by decide +kernel
theorem dX9_told_78 : decode cX9_told 78 = .ok (.aload_n 0, 1) := by decide +kernel
theorem dX9_told_79 : decode cX9_told 79 = .ok (.getfield 12, 3) := by decide +kernel
theorem dX9_told_82 : decode cX9_told 82 = .ok (.getfield 83, 3) := by decide +kernel
theorem dX9_told_85 : decode cX9_told 85 = .ok (.invokevirtual 205, 3) := by decide +kernel
theorem dX9_told_88 : decode cX9_told 88 = .ok (.ireturn, 1) := by decide +kernel
theorem dX9_told_89 : decode cX9_told 89 = .ok (.aload_n 0, 1) := by decide +kernel
theorem dX9_told_90 : decode cX9_told 90 = .ok (.getfield 12, 3) := by decide +kernel
theorem dX9_told_93 : decode cX9_told 93 = .ok (.getfield 83, 3) := by decide +kernel
theorem dX9_told_96 : decode cX9_told 96 = .ok (.invokevirtual 208, 3) := by decide +kernel
theorem dX9_told_99 : decode cX9_told 99 = .ok (.ifCond .eq 7, 3) := by decide +kernel
theorem dX9_told_102 : decode cX9_told 102 = .ok (.iconst 1, 1) := by decide +kernel
theorem dX9_told_103 : decode cX9_told 103 = .ok (.goto 4, 3) := by decide +kernel
theorem dX9_told_106 : decode cX9_told 106 = .ok (.iconst 0, 1) := by decide +kernel
theorem dX9_told_107 : decode cX9_told 107 = .ok (.ireturn, 1) := by decide +kernel
theorem dX9_told_108 : decode cX9_told 108 = .ok (.aload_n 0, 1) := by decide +kernel
theorem dX9_told_109 : decode cX9_told 109 = .ok (.getfield 12, 3) := by decide +kernel
theorem dX9_told_112 : decode cX9_told 112 = .ok (.getfield 83, 3) := by decide +kernel
theorem dX9_told_115 : decode cX9_told 115 = .ok (.invokevirtual 211, 3) := by decide +kernel
theorem dX9_told_118 : decode cX9_told 118 = .ok (.ifCond .eq 7, 3) := by decide +kernel
theorem dX9_told_121 : decode cX9_told 121 = .ok (.iconst 1, 1) := by decide +kernel
theorem dX9_told_122 : decode cX9_told 122 = .ok (.goto 4, 3) := by decide +kernel
theorem dX9_told_125 : decode cX9_told 125 = .ok (.iconst 0, 1) := by decide +kernel
theorem dX9_told_126 : decode cX9_told 126 = .ok (.ireturn, 1) := by decide +kernel
theorem dX9_told_127 : decode cX9_told 127 = .ok (.aload_n 0, 1) := by decide +kernel
theorem dX9_told_128 : decode cX9_told 128 = .ok (.getfield 12, 3) := by decide +kernel
theorem dX9_told_131 : decode cX9_told 131 = .ok (.getfield 83, 3) := by decide +kernel
theorem dX9_told_134 : decode cX9_told 134 = .ok (.getfield 120, 3) := by decide +kernel
theorem dX9_told_137 : decode cX9_told 137 = .ok (.invokestatic 139, 3) := by decide +kernel
theorem dX9_told_140 : decode cX9_told 140 = .ok (.ireturn, 1) := by decide +kernel
theorem dX9_told_141 : decode cX9_told 141 = .ok (.aload_n 0, 1) := by decide +kernel
theorem dX9_told_142 : decode cX9_told 142 = .ok (.getfield 12, 3) := by decide +kernel
theorem dX9_told_145 : decode cX9_told 145 = .ok (.getfield 83, 3) := by decide +kernel
theorem dX9_told_148 : decode cX9_told 148 = .ok (.invokevirtual 214, 3) := by decide +kernel
theorem dX9_told_151 : decode cX9_told 151 = .ok (.ireturn, 1) := by decide +kernel
theorem dX9_told_152 : decode cX9_told 152 = .ok (.aload_n 0, 1) := by decide +kernel
theorem dX9_told_153 : decode cX9_told 153 = .ok (.getfield 12, 3) := by decide +kernel
theorem dX9_told_156 : decode cX9_told 156 = .ok (.getfield 83, 3) := by decide +kernel
theorem dX9_told_159 : decode cX9_told 159 = .ok (.getfield 143, 3) := by decide +kernel
theorem dX9_told_162 : decode cX9_told 162 = .ok (.invokestatic 139, 3) := by decide +kernel
theorem dX9_told_165 : decode cX9_told 165 = .ok (.ireturn, 1) := by decide +kernel
theorem dX9_told_166 : decode cX9_told 166 = .ok (.iconst 1, 1) := by decide +kernel
theorem dX9_told_167 : decode cX9_told 167 = .ok (.aload_n 0, 1) := by decide +kernel
theorem dX9_told_168 : decode cX9_told 168 = .ok (.getfield 12, 3) := by decide +kernel
theorem dX9_told_171 : decode cX9_told 171 = .ok (.getfield 27, 3) := by decide +kernel
theorem dX9_told_174 : decode cX9_told 174 = .ok (.getfield 217, 3) := by decide +kernel
theorem dX9_told_177 : decode cX9_told 177 = .ok (.ishl, 1) := by decide +kernel
theorem dX9_told_178 : decode cX9_told 178 = .ok (.ireturn, 1) := by decide +kernel
theorem dX9_told_179 : decode cX9_told 179 = .ok (.aload_n 0, 1) := by decide +kernel
theorem dX9_told_180 : decode cX9_told 180 = .ok (.getfield 12, 3) := by decide +kernel
theorem dX9_told_183 : decode cX9_told 183 = .ok (.getfield 27, 3) := by decide +kernel
theorem dX9_told_186 : decode cX9_told 186 = .ok (.invokevirtual 73, 3) := by decide +kernel
theorem dX9_told_189 : decode cX9_told 189 = .ok (.ireturn, 1) := by decide +kernel
theorem dX9_told_190 : decode cX9_told 190 = .ok (.iconst (-1), 1) := by decide +kernel
theorem dX9_told_191 : decode cX9_told 191 = .ok (.ireturn, 1) := by decide +kernel
theorem dX9_block_0 : decode cX9_block 0 = .ok (.aload_n 0, 1) := by decide +kernel
theorem dX9_block_1 : decode cX9_block 1 = .ok (.getfield 12, 3) := by decide +kernel
theorem dX9_block_4 : decode cX9_block 4 = .ok (.getfield 27, 3) := by decide +kernel
theorem dX9_block_7 : decode cX9_block 7 = .ok (.iload_n 1, 1) := by decide +kernel
theorem dX9_block_8 : decode cX9_block 8 = .ok (.invokevirtual 89, 3) := by decide +kernel
theorem dX9_block_11 : decode cX9_block 11 = .ok (.ifCond .eq 18, 3) := by decide +kernel
theorem dX9_block_14 : decode cX9_block 14 = .ok (.aload_n 0, 1) := by decide +kernel
theorem dX9_block_15 : decode cX9_block 15 = .ok (.getfield 12, 3) := by decide +kernel
theorem dX9_block_18 : decode cX9_block 18 = .ok (.getfield 27, 3) := by decide +kernel
theorem dX9_block_21 : decode cX9_block 21 = .ok (.getfield 220, 3) := by decide +kernel
theorem dX9_block_24 : decode cX9_block 24 = .ok (.iload_n 1, 1) := by decide +kernel
theorem dX9_block_25 : decode cX9_block 25 = .ok (.iaload, 1) := by decide +kernel
theorem dX9_block_26 : decode cX9_block 26 = .ok (.goto 4, 3) := by decide +kernel
theorem dX9_block_29 : decode cX9_block 29 = .ok (.iconst (-1), 1) := by decide +kernel
theorem dX9_block_30 : decode cX9_block 30 = .ok (.ireturn, 1) := by decide +kernel
theorem dX9_number_0 : decode cX9_number 0 = .ok (.aload_n 0, 1) := by decide +kernel
theorem dX9_number_1 : decode cX9_number 1 = .ok (.getfield 12, 3) := by decide +kernel
theorem dX9_number_4 : decode cX9_number 4 = .ok (.getfield 27, 3) := by decide +kernel
theorem dX9_number_7 : decode cX9_number 7 = .ok (.iload_n 1, 1) := by decide +kernel
theorem dX9_number_8 : decode cX9_number 8 = .ok (.bipush 8, 2) := by decide +kernel
theorem dX9_number_10 : decode cX9_number 10 = .ok (.invokevirtual 223, 3) := by decide +kernel
theorem dX9_number_13 : decode cX9_number 13 = .ok (.ifCond .eq 17, 3) := by decide +kernel
theorem dX9_number_16 : decode cX9_number 16 = .ok (.aload_n 0, 1) := by decide +kernel
theorem dX9_number_17 : decode cX9_number 17 = .ok (.getfield 12, 3) := by decide +kernel
theorem dX9_number_20 : decode cX9_number 20 = .ok (.getfield 27, 3) := by decide +kernel
theorem dX9_number_23 : decode cX9_number 23 = .ok (.iload_n 1, 1) := by decide +kernel
theorem dX9_number_24 : decode cX9_number 24 = .ok (.invokevirtual 227, 3) := by decide +kernel
theorem dX9_number_27 : decode cX9_number 27 = .ok (.goto 4, 3) := by decide +kernel
theorem dX9_number_30 : decode cX9_number 30 = .ok (.iconst (-1), 1) := by decide +kernel
theorem dX9_number_31 : decode cX9_number 31 = .ok (.ireturn, 1) := by decide +kernel
theorem dX9_of_0 : decode cX9_of 0 = .ok (.aload_n 0, 1) := by decide +kernel
theorem dX9_of_1 : decode cX9_of 1 = .ok (.getfield 12, 3) := by decide +kernel
theorem dX9_of_4 : decode cX9_of 4 = .ok (.getfield 27, 3) := by decide +kernel
theorem dX9_of_7 : decode cX9_of 7 = .ok (.iload_n 1, 1) := by decide +kernel
theorem dX9_of_8 : decode cX9_of 8 = .ok (.invokevirtual 89, 3) := by decide +kernel
theorem dX9_of_11 : decode cX9_of 11 = .ok (.ifCond .ne 5, 3) := by decide +kernel
theorem dX9_of_14 : decode cX9_of 14 = .ok (.iconst (-1), 1) := by decide +kernel
theorem dX9_of_15 : decode cX9_of 15 = .ok (.ireturn, 1) := by decide +kernel
theorem dX9_of_16 : decode cX9_of 16 = .ok (.iload_n 2, 1) := by decide +kernel
theorem dX9_of_17 : decode cX9_of 17 = .ok (.tableswitch 89 0 2 #[27, 43, 66], 27) := by decide +kernel
theorem dX9_of_44 : decode cX9_of 44 = .ok (.aload_n 0, 1) := by decide +kernel
theorem dX9_of_45 : decode cX9_of 45 = .ok (.getfield 12, 3) := by decide +kernel
theorem dX9_of_48 : decode cX9_of 48 = .ok (.getfield 83, 3) := by decide +kernel
theorem dX9_of_51 : decode cX9_of 51 = .ok (.getfield 96, 3) := by decide +kernel
theorem dX9_of_54 : decode cX9_of 54 = .ok (.iload_n 1, 1) := by decide +kernel
theorem dX9_of_55 : decode cX9_of 55 = .ok (.iaload, 1) := by decide +kernel
theorem dX9_of_56 : decode cX9_of 56 = .ok (.bipush 100, 2) := by decide +kernel
theorem dX9_of_58 : decode cX9_of 58 = .ok (.iadd, 1) := by decide +kernel
theorem dX9_of_59 : decode cX9_of 59 = .ok (.ireturn, 1) := by decide +kernel
theorem dX9_of_60 : decode cX9_of 60 = .ok (.aload_n 0, 1) := by decide +kernel
theorem dX9_of_61 : decode cX9_of 61 = .ok (.getfield 12, 3) := by decide +kernel
theorem dX9_of_64 : decode cX9_of 64 = .ok (.getfield 83, 3) := by decide +kernel
theorem dX9_of_67 : decode cX9_of 67 = .ok (.getfield 120, 3) := by decide +kernel
theorem dX9_of_70 : decode cX9_of 70 = .ok (.iload_n 1, 1) := by decide +kernel
theorem dX9_of_71 : decode cX9_of 71 = .ok (.invokestatic 124, 3) := by decide +kernel
theorem dX9_of_74 : decode cX9_of 74 = .ok (.ifCond .eq 7, 3) := by decide +kernel
theorem dX9_of_77 : decode cX9_of 77 = .ok (.iconst 1, 1) := by decide +kernel
theorem dX9_of_78 : decode cX9_of 78 = .ok (.goto 4, 3) := by decide +kernel
theorem dX9_of_81 : decode cX9_of 81 = .ok (.iconst 0, 1) := by decide +kernel
theorem dX9_of_82 : decode cX9_of 82 = .ok (.ireturn, 1) := by decide +kernel
theorem dX9_of_83 : decode cX9_of 83 = .ok (.aload_n 0, 1) := by decide +kernel
theorem dX9_of_84 : decode cX9_of 84 = .ok (.getfield 12, 3) := by decide +kernel
theorem dX9_of_87 : decode cX9_of 87 = .ok (.getfield 83, 3) := by decide +kernel
theorem dX9_of_90 : decode cX9_of 90 = .ok (.getfield 143, 3) := by decide +kernel
theorem dX9_of_93 : decode cX9_of 93 = .ok (.iload_n 1, 1) := by decide +kernel
theorem dX9_of_94 : decode cX9_of 94 = .ok (.invokestatic 124, 3) := by decide +kernel
theorem dX9_of_97 : decode cX9_of 97 = .ok (.ifCond .eq 7, 3) := by decide +kernel
theorem dX9_of_100 : decode cX9_of 100 = .ok (.iconst 1, 1) := by decide +kernel
theorem dX9_of_101 : decode cX9_of 101 = .ok (.goto 4, 3) := by decide +kernel
theorem dX9_of_104 : decode cX9_of 104 = .ok (.iconst 0, 1) := by decide +kernel
theorem dX9_of_105 : decode cX9_of 105 = .ok (.ireturn, 1) := by decide +kernel
theorem dX9_of_106 : decode cX9_of 106 = .ok (.iconst (-1), 1) := by decide +kernel
theorem dX9_of_107 : decode cX9_of 107 = .ok (.ireturn, 1) := by decide +kernel
theorem dX9_sum_0 : decode cX9_sum 0 = .ok (.aload_n 0, 1) := by decide +kernel
theorem dX9_sum_1 : decode cX9_sum 1 = .ok (.getfield 12, 3) := by decide +kernel
theorem dX9_sum_4 : decode cX9_sum 4 = .ok (.getfield 27, 3) := by decide +kernel
theorem dX9_sum_7 : decode cX9_sum 7 = .ok (.iload_n 1, 1) := by decide +kernel
theorem dX9_sum_8 : decode cX9_sum 8 = .ok (.aload_n 0, 1) := by decide +kernel
theorem dX9_sum_9 : decode cX9_sum 9 = .ok (.getfield 12, 3) := by decide +kernel
theorem dX9_sum_12 : decode cX9_sum 12 = .ok (.getfield 27, 3) := by decide +kernel
theorem dX9_sum_15 : decode cX9_sum 15 = .ok (.getfield 230, 3) := by decide +kernel
theorem dX9_sum_18 : decode cX9_sum 18 = .ok (.invokevirtual 223, 3) := by decide +kernel
theorem dX9_sum_21 : decode cX9_sum 21 = .ok (.ifCond .eq 21, 3) := by decide +kernel
theorem dX9_sum_24 : decode cX9_sum 24 = .ok (.aload_n 0, 1) := by decide +kernel
theorem dX9_sum_25 : decode cX9_sum 25 = .ok (.getfield 12, 3) := by decide +kernel
theorem dX9_sum_28 : decode cX9_sum 28 = .ok (.getfield 83, 3) := by decide +kernel
theorem dX9_sum_31 : decode cX9_sum 31 = .ok (.iload_n 1, 1) := by decide +kernel
theorem dX9_sum_32 : decode cX9_sum 32 = .ok (.invokevirtual 233, 3) := by decide +kernel
theorem dX9_sum_35 : decode cX9_sum 35 = .ok (.sipush 10000, 3) := by decide +kernel
theorem dX9_sum_38 : decode cX9_sum 38 = .ok (.iadd, 1) := by decide +kernel
theorem dX9_sum_39 : decode cX9_sum 39 = .ok (.goto 4, 3) := by decide +kernel
theorem dX9_sum_42 : decode cX9_sum 42 = .ok (.iconst (-1), 1) := by decide +kernel
theorem dX9_sum_43 : decode cX9_sum 43 = .ok (.ireturn, 1) := by decide +kernel
theorem dX9_amiss_0 : decode cX9_amiss 0 = .ok (.aload_n 0, 1) := by decide +kernel
theorem dX9_amiss_1 : decode cX9_amiss 1 = .ok (.getfield 12, 3) := by decide +kernel
theorem dX9_amiss_4 : decode cX9_amiss 4 = .ok (.getfield 83, 3) := by decide +kernel
theorem dX9_amiss_7 : decode cX9_amiss 7 = .ok (.iconst 0, 1) := by decide +kernel
theorem dX9_amiss_8 : decode cX9_amiss 8 = .ok (.aload_n 0, 1) := by decide +kernel
theorem dX9_amiss_9 : decode cX9_amiss 9 = .ok (.getfield 12, 3) := by decide +kernel
theorem dX9_amiss_12 : decode cX9_amiss 12 = .ok (.getfield 27, 3) := by decide +kernel
theorem dX9_amiss_15 : decode cX9_amiss 15 = .ok (.getfield 217, 3) := by decide +kernel
theorem dX9_amiss_18 : decode cX9_amiss 18 = .ok (.invokevirtual 236, 3) := by decide +kernel
theorem dX9_amiss_21 : decode cX9_amiss 21 = .ok (.ireturn, 1) := by decide +kernel
theorem dX9_cover_0 : decode cX9_cover 0 = .ok (.aload_n 0, 1) := by decide +kernel
theorem dX9_cover_1 : decode cX9_cover 1 = .ok (.getfield 12, 3) := by decide +kernel
theorem dX9_cover_4 : decode cX9_cover 4 = .ok (.getfield 27, 3) := by decide +kernel
theorem dX9_cover_7 : decode cX9_cover 7 = .ok (.iload_n 1, 1) := by decide +kernel
theorem dX9_cover_8 : decode cX9_cover 8 = .ok (.aload_n 0, 1) := by decide +kernel
theorem dX9_cover_9 : decode cX9_cover 9 = .ok (.getfield 12, 3) := by decide +kernel
theorem dX9_cover_12 : decode cX9_cover 12 = .ok (.getfield 27, 3) := by decide +kernel
theorem dX9_cover_15 : decode cX9_cover 15 = .ok (.getfield 230, 3) := by decide +kernel
theorem dX9_cover_18 : decode cX9_cover 18 = .ok (.invokevirtual 223, 3) := by decide +kernel
theorem dX9_cover_21 : decode cX9_cover 21 = .ok (.ifCond .eq 17, 3) := by decide +kernel
theorem dX9_cover_24 : decode cX9_cover 24 = .ok (.aload_n 0, 1) := by decide +kernel
theorem dX9_cover_25 : decode cX9_cover 25 = .ok (.getfield 12, 3) := by decide +kernel
theorem dX9_cover_28 : decode cX9_cover 28 = .ok (.getfield 83, 3) := by decide +kernel
theorem dX9_cover_31 : decode cX9_cover 31 = .ok (.iload_n 1, 1) := by decide +kernel
theorem dX9_cover_32 : decode cX9_cover 32 = .ok (.invokevirtual 239, 3) := by decide +kernel
theorem dX9_cover_35 : decode cX9_cover 35 = .ok (.goto 4, 3) := by decide +kernel
theorem dX9_cover_38 : decode cX9_cover 38 = .ok (.iconst (-1), 1) := by decide +kernel
theorem dX9_cover_39 : decode cX9_cover 39 = .ok (.ireturn, 1) := by decide +kernel
theorem dX9_written_0 : decode cX9_written 0 = .ok (.iload_n 1, 1) := by decide +kernel
theorem dX9_written_1 : decode cX9_written 1 = .ok (.ifCond .ge 7, 3) := by decide +kernel
theorem dX9_written_4 : decode cX9_written 4 = .ok (.iconst (-1), 1) := by decide +kernel
theorem dX9_written_5 : decode cX9_written 5 = .ok (.goto 14, 3) := by decide +kernel
theorem dX9_written_8 : decode cX9_written 8 = .ok (.aload_n 0, 1) := by decide +kernel
theorem dX9_written_9 : decode cX9_written 9 = .ok (.getfield 12, 3) := by decide +kernel
theorem dX9_written_12 : decode cX9_written 12 = .ok (.getfield 83, 3) := by decide +kernel
theorem dX9_written_15 : decode cX9_written 15 = .ok (.iload_n 1, 1) := by decide +kernel
theorem dX9_written_16 : decode cX9_written 16 = .ok (.invokevirtual 242, 3) := by decide +kernel
theorem dX9_written_19 : decode cX9_written 19 = .ok (.ireturn, 1) := by decide +kernel
theorem dX9_open_0 : decode cX9_open 0 = .ok (.iload_n 1, 1) := by decide +kernel
theorem dX9_open_1 : decode cX9_open 1 = .ok (.ifCond .lt 8, 3) := by decide +kernel
theorem dX9_open_4 : decode cX9_open 4 = .ok (.iload_n 1, 1) := by decide +kernel
theorem dX9_open_5 : decode cX9_open 5 = .ok (.iconst 2, 1) := by decide +kernel
theorem dX9_open_6 : decode cX9_open 6 = .ok (.if_icmp .le 5, 3) := by decide +kernel
theorem dX9_open_9 : decode cX9_open 9 = .ok (.iconst (-1), 1) := by decide +kernel
theorem dX9_open_10 : decode cX9_open 10 = .ok (.ireturn, 1) := by decide +kernel
theorem dX9_open_11 : decode cX9_open 11 = .ok (.aload_n 0, 1) := by decide +kernel
theorem dX9_open_12 : decode cX9_open 12 = .ok (.getfield 48, 3) := by decide +kernel
theorem dX9_open_15 : decode cX9_open 15 = .ok (.aload_n 0, 1) := by decide +kernel
theorem dX9_open_16 : decode cX9_open 16 = .ok (.getfield 12, 3) := by decide +kernel
theorem dX9_open_19 : decode cX9_open 19 = .ok (.getfield 83, 3) := by decide +kernel
theorem dX9_open_22 : decode cX9_open 22 = .ok (.invokevirtual 245, 3) := by decide +kernel
theorem dX9_open_25 : decode cX9_open 25 = .ok (.iload_n 1, 1) := by decide +kernel
theorem dX9_open_26 : decode cX9_open 26 = .ok (.ifCond .ne 11, 3) := by decide +kernel
theorem dX9_open_29 : decode cX9_open 29 = .ok (.aload_n 0, 1) := by decide +kernel
theorem dX9_open_30 : decode cX9_open 30 = .ok (.getfield 48, 3) := by decide +kernel
theorem dX9_open_33 : decode cX9_open 33 = .ok (.getfield 249, 3) := by decide +kernel
theorem dX9_open_36 : decode cX9_open 36 = .ok (.ireturn, 1) := by decide +kernel
theorem dX9_open_37 : decode cX9_open 37 = .ok (.aload_n 0, 1) := by decide +kernel
theorem dX9_open_38 : decode cX9_open 38 = .ok (.getfield 48, 3) := by decide +kernel
theorem dX9_open_41 : decode cX9_open 41 = .ok (.getfield 249, 3) := by decide +kernel
theorem dX9_open_44 : decode cX9_open 44 = .ok (.ifCond .ne 6, 3) := by decide +kernel
theorem dX9_open_47 : decode cX9_open 47 = .ok (.bipush (-5), 2) := by decide +kernel
theorem dX9_open_49 : decode cX9_open 49 = .ok (.ireturn, 1) := by decide +kernel
theorem dX9_open_50 : decode cX9_open 50 = .ok (.iload_n 1, 1) := by decide +kernel
theorem dX9_open_51 : decode cX9_open 51 = .ok (.iconst 1, 1) := by decide +kernel
theorem dX9_open_52 : decode cX9_open 52 = .ok (.if_icmp .ne 13, 3) := by decide +kernel
theorem dX9_open_55 : decode cX9_open 55 = .ok (.aload_n 0, 1) := by decide +kernel
theorem dX9_open_56 : decode cX9_open 56 = .ok (.getfield 48, 3) := by decide +kernel
theorem dX9_open_59 : decode cX9_open 59 = .ok (.getfield 252, 3) := by decide +kernel
theorem dX9_open_62 : decode cX9_open 62 = .ok (.goto 12, 3) := by decide +kernel
theorem dX9_open_65 : decode cX9_open 65 = .ok (.aload_n 0, 1) := by decide +kernel
theorem dX9_open_66 : decode cX9_open 66 = .ok (.getfield 48, 3) := by decide +kernel
theorem dX9_open_69 : decode cX9_open 69 = .ok (.getfield 255, 3) := by decide +kernel
theorem dX9_open_72 : decode cX9_open 72 = .ok (.iconst 1, 1) := by decide +kernel
theorem dX9_open_73 : decode cX9_open 73 = .ok (.iadd, 1) := by decide +kernel
theorem dX9_open_74 : decode cX9_open 74 = .ok (.ireturn, 1) := by decide +kernel
theorem dX9_parted_0 : decode cX9_parted 0 = .ok (.iload_n 1, 1) := by decide +kernel
theorem dX9_parted_1 : decode cX9_parted 1 = .ok (.invokestatic 258, 3) := by decide +kernel
theorem dX9_parted_4 : decode cX9_parted 4 = .ok (.ifCond .ne 6, 3) := by decide +kernel
theorem dX9_parted_7 : decode cX9_parted 7 = .ok (.bipush (-2), 2) := by decide +kernel
theorem dX9_parted_9 : decode cX9_parted 9 = .ok (.ireturn, 1) := by decide +kernel
theorem dX9_parted_10 : decode cX9_parted 10 = .ok (.aload_n 0, 1) := by decide +kernel
theorem dX9_parted_11 : decode cX9_parted 11 = .ok (.getfield 12, 3) := by decide +kernel
theorem dX9_parted_14 : decode cX9_parted 14 = .ok (.getfield 27, 3) := by decide +kernel
theorem dX9_parted_17 : decode cX9_parted 17 = .ok (.invokestatic 261, 3) := by decide +kernel
theorem dX9_parted_20 : decode cX9_parted 20 = .ok (.ifCond .ne 6, 3) := by decide +kernel
theorem dX9_parted_23 : decode cX9_parted 23 = .ok (.bipush (-3), 2) := by decide +kernel
theorem dX9_parted_25 : decode cX9_parted 25 = .ok (.ireturn, 1) := by decide +kernel
theorem dX9_parted_26 : decode cX9_parted 26 = .ok (.aload_n 0, 1) := by decide +kernel
theorem dX9_parted_27 : decode cX9_parted 27 = .ok (.getfield 55, 3) := by decide +kernel
theorem dX9_parted_30 : decode cX9_parted 30 = .ok (.aload_n 0, 1) := by decide +kernel
theorem dX9_parted_31 : decode cX9_parted 31 = .ok (.getfield 12, 3) := by decide +kernel
theorem dX9_parted_34 : decode cX9_parted 34 = .ok (.getfield 27, 3) := by decide +kernel
theorem dX9_parted_37 : decode cX9_parted 37 = .ok (.iload_n 1, 1) := by decide +kernel
theorem dX9_parted_38 : decode cX9_parted 38 = .ok (.invokevirtual 265, 3) := by decide +kernel
theorem dX9_parted_41 : decode cX9_parted 41 = .ok (.aload_n 0, 1) := by decide +kernel
theorem dX9_parted_42 : decode cX9_parted 42 = .ok (.getfield 55, 3) := by decide +kernel
theorem dX9_parted_45 : decode cX9_parted 45 = .ok (.getfield 268, 3) := by decide +kernel
theorem dX9_parted_48 : decode cX9_parted 48 = .ok (.ireturn, 1) := by decide +kernel
theorem dX9_part_0 : decode cX9_part 0 = .ok (.aload_n 0, 1) := by decide +kernel
theorem dX9_part_1 : decode cX9_part 1 = .ok (.getfield 12, 3) := by decide +kernel
theorem dX9_part_4 : decode cX9_part 4 = .ok (.getfield 27, 3) := by decide +kernel
theorem dX9_part_7 : decode cX9_part 7 = .ok (.iload_n 2, 1) := by decide +kernel
theorem dX9_part_8 : decode cX9_part 8 = .ok (.invokevirtual 89, 3) := by decide +kernel
theorem dX9_part_11 : decode cX9_part 11 = .ok (.ifCond .ne 5, 3) := by decide +kernel
theorem dX9_part_14 : decode cX9_part 14 = .ok (.iconst (-1), 1) := by decide +kernel
theorem dX9_part_15 : decode cX9_part 15 = .ok (.ireturn, 1) := by decide +kernel
theorem dX9_part_16 : decode cX9_part 16 = .ok (.aload_n 0, 1) := by decide +kernel
theorem dX9_part_17 : decode cX9_part 17 = .ok (.iload_n 1, 1) := by decide +kernel
theorem dX9_part_18 : decode cX9_part 18 = .ok (.invokevirtual 271, 3) := by decide +kernel
theorem dX9_part_21 : decode cX9_part 21 = .ok (.istore_n 3, 1) := by decide +kernel
theorem dX9_part_22 : decode cX9_part 22 = .ok (.iload_n 3, 1) := by decide +kernel
theorem dX9_part_23 : decode cX9_part 23 = .ok (.ifCond .ge 5, 3) := by decide +kernel
theorem dX9_part_26 : decode cX9_part 26 = .ok (.iload_n 3, 1) := by decide +kernel
theorem dX9_part_27 : decode cX9_part 27 = .ok (.ireturn, 1) := by decide +kernel
theorem dX9_part_28 : decode cX9_part 28 = .ok (.iload_n 3, 1) := by decide +kernel
theorem dX9_part_29 : decode cX9_part 29 = .ok (.ifCond .ne 8, 3) := by decide +kernel
theorem dX9_part_32 : decode cX9_part 32 = .ok (.bipush (-5), 2) := by decide +kernel
theorem dX9_part_34 : decode cX9_part 34 = .ok (.goto 11, 3) := by decide +kernel
theorem dX9_part_37 : decode cX9_part 37 = .ok (.aload_n 0, 1) := by decide +kernel
theorem dX9_part_38 : decode cX9_part 38 = .ok (.getfield 55, 3) := by decide +kernel
theorem dX9_part_41 : decode cX9_part 41 = .ok (.iload_n 2, 1) := by decide +kernel
theorem dX9_part_42 : decode cX9_part 42 = .ok (.invokevirtual 274, 3) := by decide +kernel
theorem dX9_part_45 : decode cX9_part 45 = .ok (.ireturn, 1) := by decide +kernel
theorem dX9_see_0 : decode cX9_see 0 = .ok (.iload_n 1, 1) := by decide +kernel
theorem dX9_see_1 : decode cX9_see 1 = .ok (.iconst (-1), 1) := by decide +kernel
theorem dX9_see_2 : decode cX9_see 2 = .ok (.if_icmp .ne 14, 3) := by decide +kernel
theorem dX9_see_5 : decode cX9_see 5 = .ok (.aload_n 0, 1) := by decide +kernel
theorem dX9_see_6 : decode cX9_see 6 = .ok (.getfield 12, 3) := by decide +kernel
theorem dX9_see_9 : decode cX9_see 9 = .ok (.getfield 277, 3) := by decide +kernel
theorem dX9_see_12 : decode cX9_see 12 = .ok (.invokevirtual 281, 3) := by decide +kernel
theorem dX9_see_15 : decode cX9_see 15 = .ok (.ireturn, 1) := by decide +kernel
theorem dX9_see_16 : decode cX9_see 16 = .ok (.aload_n 0, 1) := by decide +kernel
theorem dX9_see_17 : decode cX9_see 17 = .ok (.getfield 12, 3) := by decide +kernel
theorem dX9_see_20 : decode cX9_see 20 = .ok (.getfield 27, 3) := by decide +kernel
theorem dX9_see_23 : decode cX9_see 23 = .ok (.iload_n 1, 1) := by decide +kernel
theorem dX9_see_24 : decode cX9_see 24 = .ok (.aload_n 0, 1) := by decide +kernel
theorem dX9_see_25 : decode cX9_see 25 = .ok (.getfield 12, 3) := by decide +kernel
theorem dX9_see_28 : decode cX9_see 28 = .ok (.getfield 27, 3) := by decide +kernel
theorem dX9_see_31 : decode cX9_see 31 = .ok (.getfield 217, 3) := by decide +kernel
theorem dX9_see_34 : decode cX9_see 34 = .ok (.invokevirtual 223, 3) := by decide +kernel
theorem dX9_see_37 : decode cX9_see 37 = .ok (.ifCond .ne 5, 3) := by decide +kernel
theorem dX9_see_40 : decode cX9_see 40 = .ok (.iconst (-1), 1) := by decide +kernel
theorem dX9_see_41 : decode cX9_see 41 = .ok (.ireturn, 1) := by decide +kernel
theorem dX9_see_42 : decode cX9_see 42 = .ok (.iload_n 2, 1) := by decide +kernel
theorem dX9_see_43 : decode cX9_see 43 = .ok (.sipush (-999), 3) := by decide +kernel
theorem dX9_see_46 : decode cX9_see 46 = .ok (.if_icmp .lt 10, 3) := by decide +kernel
theorem dX9_see_49 : decode cX9_see 49 = .ok (.iload_n 2, 1) := by decide +kernel
theorem dX9_see_50 : decode cX9_see 50 = .ok (.sipush 999, 3) := by decide +kernel
theorem dX9_see_53 : decode cX9_see 53 = .ok (.if_icmp .le 6, 3) := by decide +kernel
theorem dX9_see_56 : decode cX9_see 56 = .ok (.bipush (-2), 2) := by decide +kernel
theorem dX9_see_58 : decode cX9_see 58 = .ok (.ireturn, 1) := by decide +kernel
theorem dX9_see_59 : decode cX9_see 59 = .ok (.aload_n 0, 1) := by decide +kernel
theorem dX9_see_60 : decode cX9_see 60 = .ok (.getfield 12, 3) := by decide +kernel
theorem dX9_see_63 : decode cX9_see 63 = .ok (.getfield 277, 3) := by decide +kernel
theorem dX9_see_66 : decode cX9_see 66 = .ok (.iload_n 1, 1) := by decide +kernel
theorem dX9_see_67 : decode cX9_see 67 = .ok (.iload_n 2, 1) := by decide +kernel
theorem dX9_see_68 : decode cX9_see 68 = .ok (.invokevirtual 285, 3) := by decide +kernel
theorem dX9_see_71 : decode cX9_see 71 = .ok (.ireturn, 1) := by decide +kernel
theorem dX9_fits_0 : decode cX9_fits 0 = .ok (.aload_n 0, 1) := by decide +kernel
theorem dX9_fits_1 : decode cX9_fits 1 = .ok (.getfield 12, 3) := by decide +kernel
theorem dX9_fits_4 : decode cX9_fits 4 = .ok (.getfield 27, 3) := by decide +kernel
theorem dX9_fits_7 : decode cX9_fits 7 = .ok (.iload_n 1, 1) := by decide +kernel
theorem dX9_fits_8 : decode cX9_fits 8 = .ok (.invokevirtual 89, 3) := by decide +kernel
theorem dX9_fits_11 : decode cX9_fits 11 = .ok (.ifCond .eq 12, 3) := by decide +kernel
theorem dX9_fits_14 : decode cX9_fits 14 = .ok (.iload_n 2, 1) := by decide +kernel
theorem dX9_fits_15 : decode cX9_fits 15 = .ok (.ifCond .lt 8, 3) := by decide +kernel
theorem dX9_fits_18 : decode cX9_fits 18 = .ok (.iload_n 2, 1) := by decide +kernel
theorem dX9_fits_19 : decode cX9_fits 19 = .ok (.iconst 1, 1) := by decide +kernel
theorem dX9_fits_20 : decode cX9_fits 20 = .ok (.if_icmp .le 5, 3) := by decide +kernel
theorem dX9_fits_23 : decode cX9_fits 23 = .ok (.iconst (-1), 1) := by decide +kernel
theorem dX9_fits_24 : decode cX9_fits 24 = .ok (.ireturn, 1) := by decide +kernel
theorem dX9_fits_25 : decode cX9_fits 25 = .ok (.bipush (-9), 2) := by decide +kernel
theorem dX9_fits_27 : decode cX9_fits 27 = .ok (.istore_n 3, 1) := by decide +kernel
theorem dX9_fits_28 : decode cX9_fits 28 = .ok (.bipush 9, 2) := by decide +kernel
theorem dX9_fits_30 : decode cX9_fits 30 = .ok (.istore 4, 2) := by decide +kernel
theorem dX9_fits_32 : decode cX9_fits 32 = .ok (.iconst 0, 1) := by decide +kernel
theorem dX9_fits_33 : decode cX9_fits 33 = .ok (.istore 5, 2) := by decide +kernel
theorem dX9_fits_35 : decode cX9_fits 35 = .ok (.iload 5, 2) := by decide +kernel
theorem dX9_fits_37 : decode cX9_fits 37 = .ok (.aload_n 0, 1) := by decide +kernel
theorem dX9_fits_38 : decode cX9_fits 38 = .ok (.getfield 12, 3) := by decide +kernel
theorem dX9_fits_41 : decode cX9_fits 41 = .ok (.getfield 277, 3) := by decide +kernel
theorem dX9_fits_44 : decode cX9_fits 44 = .ok (.getfield 288, 3) := by decide +kernel
theorem dX9_fits_47 : decode cX9_fits 47 = .ok (.if_icmp .ge 138, 3) := by decide +kernel
theorem dX9_fits_50 : decode cX9_fits 50 = .ok (.aload_n 0, 1) := by decide +kernel
theorem dX9_fits_51 : decode cX9_fits 51 = .ok (.getfield 12, 3) := by decide +kernel
theorem dX9_fits_54 : decode cX9_fits 54 = .ok (.getfield 277, 3) := by decide +kernel
theorem dX9_fits_57 : decode cX9_fits 57 = .ok (.getfield 289, 3) := by decide +kernel
theorem dX9_fits_60 : decode cX9_fits 60 = .ok (.iload 5, 2) := by decide +kernel
theorem dX9_fits_62 : decode cX9_fits 62 = .ok (.iaload, 1) := by decide +kernel
theorem dX9_fits_63 : decode cX9_fits 63 = .ok (.istore 6, 2) := by decide +kernel
theorem dX9_fits_65 : decode cX9_fits 65 = .ok (.aload_n 0, 1) := by decide +kernel
theorem dX9_fits_66 : decode cX9_fits 66 = .ok (.getfield 12, 3) := by decide +kernel
theorem dX9_fits_69 : decode cX9_fits 69 = .ok (.getfield 27, 3) := by decide +kernel
theorem dX9_fits_72 : decode cX9_fits 72 = .ok (.iload 6, 2) := by decide +kernel
theorem dX9_fits_74 : decode cX9_fits 74 = .ok (.aload_n 0, 1) := by decide +kernel
theorem dX9_fits_75 : decode cX9_fits 75 = .ok (.getfield 12, 3) := by decide +kernel
theorem dX9_fits_78 : decode cX9_fits 78 = .ok (.getfield 27, 3) := by decide +kernel
theorem dX9_fits_81 : decode cX9_fits 81 = .ok (.getfield 217, 3) := by decide +kernel
theorem dX9_fits_84 : decode cX9_fits 84 = .ok (.invokevirtual 223, 3) := by decide +kernel
theorem dX9_fits_87 : decode cX9_fits 87 = .ok (.ifCond .ne 5, 3) := by decide +kernel
theorem dX9_fits_90 : decode cX9_fits 90 = .ok (.iconst 0, 1) := by decide +kernel
theorem dX9_fits_91 : decode cX9_fits 91 = .ok (.ireturn, 1) := by decide +kernel
theorem dX9_fits_92 : decode cX9_fits 92 = .ok (.aload_n 0, 1) := by decide +kernel
theorem dX9_fits_93 : decode cX9_fits 93 = .ok (.getfield 12, 3) := by decide +kernel
theorem dX9_fits_96 : decode cX9_fits 96 = .ok (.getfield 277, 3) := by decide +kernel
theorem dX9_fits_99 : decode cX9_fits 99 = .ok (.getfield 292, 3) := by decide +kernel
theorem dX9_fits_102 : decode cX9_fits 102 = .ok (.iload 5, 2) := by decide +kernel
theorem dX9_fits_104 : decode cX9_fits 104 = .ok (.iaload, 1) := by decide +kernel
theorem dX9_fits_105 : decode cX9_fits 105 = .ok (.aload_n 0, 1) := by decide +kernel
theorem dX9_fits_106 : decode cX9_fits 106 = .ok (.getfield 12, 3) := by decide +kernel
theorem dX9_fits_109 : decode cX9_fits 109 = .ok (.getfield 83, 3) := by decide +kernel
theorem dX9_fits_112 : decode cX9_fits 112 = .ok (.iload 6, 2) := by decide +kernel
theorem dX9_fits_114 : decode cX9_fits 114 = .ok (.invokevirtual 233, 3) := by decide +kernel
theorem dX9_fits_117 : decode cX9_fits 117 = .ok (.isub, 1) := by decide +kernel
theorem dX9_fits_118 : decode cX9_fits 118 = .ok (.istore 7, 2) := by decide +kernel
theorem dX9_fits_120 : decode cX9_fits 120 = .ok (.aload_n 0, 1) := by decide +kernel
theorem dX9_fits_121 : decode cX9_fits 121 = .ok (.getfield 12, 3) := by decide +kernel
theorem dX9_fits_124 : decode cX9_fits 124 = .ok (.getfield 27, 3) := by decide +kernel
theorem dX9_fits_127 : decode cX9_fits 127 = .ok (.iload_n 1, 1) := by decide +kernel
theorem dX9_fits_128 : decode cX9_fits 128 = .ok (.iload 6, 2) := by decide +kernel
theorem dX9_fits_130 : decode cX9_fits 130 = .ok (.invokevirtual 295, 3) := by decide +kernel
theorem dX9_fits_133 : decode cX9_fits 133 = .ok (.ifCond .eq 39, 3) := by decide +kernel
theorem dX9_fits_136 : decode cX9_fits 136 = .ok (.aload_n 0, 1) := by decide +kernel
theorem dX9_fits_137 : decode cX9_fits 137 = .ok (.getfield 12, 3) := by decide +kernel
theorem dX9_fits_140 : decode cX9_fits 140 = .ok (.getfield 83, 3) := by decide +kernel
theorem dX9_fits_143 : decode cX9_fits 143 = .ok (.getfield 96, 3) := by decide +kernel
theorem dX9_fits_146 : decode cX9_fits 146 = .ok (.iload_n 1, 1) := by decide +kernel
theorem dX9_fits_147 : decode cX9_fits 147 = .ok (.iaload, 1) := by decide +kernel
theorem dX9_fits_148 : decode cX9_fits 148 = .ok (.iload 7, 2) := by decide +kernel
theorem dX9_fits_150 : decode cX9_fits 150 = .ok (.iadd, 1) := by decide +kernel
theorem dX9_fits_151 : decode cX9_fits 151 = .ok (.istore 8, 2) := by decide +kernel
theorem dX9_fits_153 : decode cX9_fits 153 = .ok (.iload_n 3, 1) := by decide +kernel
theorem dX9_fits_154 : decode cX9_fits 154 = .ok (.iload 8, 2) := by decide +kernel
theorem dX9_fits_156 : decode cX9_fits 156 = .ok (.invokestatic 298, 3) := by decide +kernel
theorem dX9_fits_159 : decode cX9_fits 159 = .ok (.istore_n 3, 1) := by decide +kernel
theorem dX9_fits_160 : decode cX9_fits 160 = .ok (.iload 4, 2) := by decide +kernel
theorem dX9_fits_162 : decode cX9_fits 162 = .ok (.iload 8, 2) := by decide +kernel
theorem dX9_fits_164 : decode cX9_fits 164 = .ok (.invokestatic 303, 3) := by decide +kernel
theorem dX9_fits_167 : decode cX9_fits 167 = .ok (.istore 4, 2) := by decide +kernel
theorem dX9_fits_169 : decode cX9_fits 169 = .ok (.goto 10, 3) := by decide +kernel
theorem dX9_fits_172 : decode cX9_fits 172 = .ok (.iload 7, 2) := by decide +kernel
theorem dX9_fits_174 : decode cX9_fits 174 = .ok (.ifCond .eq 5, 3) := by decide +kernel
theorem dX9_fits_177 : decode cX9_fits 177 = .ok (.iconst 0, 1) := by decide +kernel
theorem dX9_fits_178 : decode cX9_fits 178 = .ok (.ireturn, 1) := by decide +kernel
theorem dX9_fits_179 : decode cX9_fits 179 = .ok (.iinc 5 1, 3) := by decide +kernel
theorem dX9_fits_182 : decode cX9_fits 182 = .ok (.goto (-147), 3) := by decide +kernel
theorem dX9_fits_185 : decode cX9_fits 185 = .ok (.iload_n 3, 1) := by decide +kernel
theorem dX9_fits_186 : decode cX9_fits 186 = .ok (.iload 4, 2) := by decide +kernel
theorem dX9_fits_188 : decode cX9_fits 188 = .ok (.if_icmp .le 5, 3) := by decide +kernel
theorem dX9_fits_191 : decode cX9_fits 191 = .ok (.iconst 0, 1) := by decide +kernel
theorem dX9_fits_192 : decode cX9_fits 192 = .ok (.ireturn, 1) := by decide +kernel
theorem dX9_fits_193 : decode cX9_fits 193 = .ok (.iload_n 2, 1) := by decide +kernel
theorem dX9_fits_194 : decode cX9_fits 194 = .ok (.ifCond .ne 12, 3) := by decide +kernel
theorem dX9_fits_197 : decode cX9_fits 197 = .ok (.iload 4, 2) := by decide +kernel
theorem dX9_fits_199 : decode cX9_fits 199 = .ok (.iload_n 3, 1) := by decide +kernel
theorem dX9_fits_200 : decode cX9_fits 200 = .ok (.isub, 1) := by decide +kernel
theorem dX9_fits_201 : decode cX9_fits 201 = .ok (.iconst 1, 1) := by decide +kernel
theorem dX9_fits_202 : decode cX9_fits 202 = .ok (.iadd, 1) := by decide +kernel
theorem dX9_fits_203 : decode cX9_fits 203 = .ok (.goto 7, 3) := by decide +kernel
theorem dX9_fits_206 : decode cX9_fits 206 = .ok (.iload_n 3, 1) := by decide +kernel
theorem dX9_fits_207 : decode cX9_fits 207 = .ok (.bipush 10, 2) := by decide +kernel
theorem dX9_fits_209 : decode cX9_fits 209 = .ok (.iadd, 1) := by decide +kernel
theorem dX9_fits_210 : decode cX9_fits 210 = .ok (.ireturn, 1) := by decide +kernel
theorem dX9_odds_0 : decode cX9_odds 0 = .ok (.aload_n 0, 1) := by decide +kernel
theorem dX9_odds_1 : decode cX9_odds 1 = .ok (.getfield 12, 3) := by decide +kernel
theorem dX9_odds_4 : decode cX9_odds 4 = .ok (.getfield 27, 3) := by decide +kernel
theorem dX9_odds_7 : decode cX9_odds 7 = .ok (.iload_n 1, 1) := by decide +kernel
theorem dX9_odds_8 : decode cX9_odds 8 = .ok (.aload_n 0, 1) := by decide +kernel
theorem dX9_odds_9 : decode cX9_odds 9 = .ok (.getfield 12, 3) := by decide +kernel
theorem dX9_odds_12 : decode cX9_odds 12 = .ok (.getfield 27, 3) := by decide +kernel
theorem dX9_odds_15 : decode cX9_odds 15 = .ok (.getfield 230, 3) := by decide +kernel
theorem dX9_odds_18 : decode cX9_odds 18 = .ok (.invokevirtual 223, 3) := by decide +kernel
theorem dX9_odds_21 : decode cX9_odds 21 = .ok (.ifCond .ne 7, 3) := by decide +kernel
theorem dX9_odds_24 : decode cX9_odds 24 = .ok (.ldc2_w 306, 3) := by decide +kernel
theorem dX9_odds_27 : decode cX9_odds 27 = .ok (.lreturn, 1) := by decide +kernel
theorem dX9_odds_28 : decode cX9_odds 28 = .ok (.aload_n 0, 1) := by decide +kernel
theorem dX9_odds_29 : decode cX9_odds 29 = .ok (.getfield 12, 3) := by decide +kernel
theorem dX9_odds_32 : decode cX9_odds 32 = .ok (.getfield 83, 3) := by decide +kernel
theorem dX9_odds_35 : decode cX9_odds 35 = .ok (.iload_n 1, 1) := by decide +kernel
theorem dX9_odds_36 : decode cX9_odds 36 = .ok (.invokevirtual 239, 3) := by decide +kernel
theorem dX9_odds_39 : decode cX9_odds 39 = .ok (.aload_n 0, 1) := by decide +kernel
theorem dX9_odds_40 : decode cX9_odds 40 = .ok (.getfield 12, 3) := by decide +kernel
theorem dX9_odds_43 : decode cX9_odds 43 = .ok (.getfield 27, 3) := by decide +kernel
theorem dX9_odds_46 : decode cX9_odds 46 = .ok (.iload_n 1, 1) := by decide +kernel
theorem dX9_odds_47 : decode cX9_odds 47 = .ok (.invokevirtual 308, 3) := by decide +kernel
theorem dX9_odds_50 : decode cX9_odds 50 = .ok (.iload_n 2, 1) := by decide +kernel
theorem dX9_odds_51 : decode cX9_odds 51 = .ok (.invokestatic 311, 3) := by decide +kernel
theorem dX9_odds_54 : decode cX9_odds 54 = .ok (.lreturn, 1) := by decide +kernel
theorem dX9_mean_0 : decode cX9_mean 0 = .ok (.aload_n 0, 1) := by decide +kernel
theorem dX9_mean_1 : decode cX9_mean 1 = .ok (.getfield 12, 3) := by decide +kernel
theorem dX9_mean_4 : decode cX9_mean 4 = .ok (.getfield 83, 3) := by decide +kernel
theorem dX9_mean_7 : decode cX9_mean 7 = .ok (.invokevirtual 108, 3) := by decide +kernel
theorem dX9_mean_10 : decode cX9_mean 10 = .ok (.aload_n 0, 1) := by decide +kernel
theorem dX9_mean_11 : decode cX9_mean 11 = .ok (.getfield 12, 3) := by decide +kernel
theorem dX9_mean_14 : decode cX9_mean 14 = .ok (.getfield 83, 3) := by decide +kernel
theorem dX9_mean_17 : decode cX9_mean 17 = .ok (.invokevirtual 114, 3) := by decide +kernel
theorem dX9_mean_20 : decode cX9_mean 20 = .ok (.iload_n 1, 1) := by decide +kernel
theorem dX9_mean_21 : decode cX9_mean 21 = .ok (.invokestatic 311, 3) := by decide +kernel
theorem dX9_mean_24 : decode cX9_mean 24 = .ok (.lreturn, 1) := by decide +kernel
theorem dX9_event_0 : decode cX9_event 0 = .ok (.iload_n 1, 1) := by decide +kernel
theorem dX9_event_1 : decode cX9_event 1 = .ok (.iconst (-1), 1) := by decide +kernel
theorem dX9_event_2 : decode cX9_event 2 = .ok (.if_icmp .ne 14, 3) := by decide +kernel
theorem dX9_event_5 : decode cX9_event 5 = .ok (.aload_n 0, 1) := by decide +kernel
theorem dX9_event_6 : decode cX9_event 6 = .ok (.getfield 12, 3) := by decide +kernel
theorem dX9_event_9 : decode cX9_event 9 = .ok (.getfield 315, 3) := by decide +kernel
theorem dX9_event_12 : decode cX9_event 12 = .ok (.invokevirtual 281, 3) := by decide +kernel
theorem dX9_event_15 : decode cX9_event 15 = .ok (.ireturn, 1) := by decide +kernel
theorem dX9_event_16 : decode cX9_event 16 = .ok (.iload_n 1, 1) := by decide +kernel
theorem dX9_event_17 : decode cX9_event 17 = .ok (.ifCond .lt 27, 3) := by decide +kernel
theorem dX9_event_20 : decode cX9_event 20 = .ok (.iload_n 1, 1) := by decide +kernel
theorem dX9_event_21 : decode cX9_event 21 = .ok (.iconst 4, 1) := by decide +kernel
theorem dX9_event_22 : decode cX9_event 22 = .ok (.if_icmp .gt 22, 3) := by decide +kernel
theorem dX9_event_25 : decode cX9_event 25 = .ok (.iload_n 1, 1) := by decide +kernel
theorem dX9_event_26 : decode cX9_event 26 = .ok (.iconst 3, 1) := by decide +kernel
theorem dX9_event_27 : decode cX9_event 27 = .ok (.if_icmp .lt 19, 3) := by decide +kernel
theorem dX9_event_30 : decode cX9_event 30 = .ok (.aload_n 0, 1) := by decide +kernel
theorem dX9_event_31 : decode cX9_event 31 = .ok (.getfield 12, 3) := by decide +kernel
theorem dX9_event_34 : decode cX9_event 34 = .ok (.getfield 27, 3) := by decide +kernel
theorem dX9_event_37 : decode cX9_event 37 = .ok (.iload_n 2, 1) := by decide +kernel
theorem dX9_event_38 : decode cX9_event 38 = .ok (.invokevirtual 89, 3) := by decide +kernel
theorem dX9_event_41 : decode cX9_event 41 = .ok (.ifCond .ne 5, 3) := by decide +kernel
theorem dX9_event_44 : decode cX9_event 44 = .ok (.iconst (-1), 1) := by decide +kernel
theorem dX9_event_45 : decode cX9_event 45 = .ok (.ireturn, 1) := by decide +kernel
theorem dX9_event_46 : decode cX9_event 46 = .ok (.iload_n 1, 1) := by decide +kernel
theorem dX9_event_47 : decode cX9_event 47 = .ok (.ifCond .ne 24, 3) := by decide +kernel
theorem dX9_event_50 : decode cX9_event 50 = .ok (.aload_n 0, 1) := by decide +kernel
theorem dX9_event_51 : decode cX9_event 51 = .ok (.getfield 41, 3) := by decide +kernel
theorem dX9_event_54 : decode cX9_event 54 = .ok (.aload_n 0, 1) := by decide +kernel
theorem dX9_event_55 : decode cX9_event 55 = .ok (.getfield 12, 3) := by decide +kernel
theorem dX9_event_58 : decode cX9_event 58 = .ok (.getfield 27, 3) := by decide +kernel
theorem dX9_event_61 : decode cX9_event 61 = .ok (.iload_n 2, 1) := by decide +kernel
theorem dX9_event_62 : decode cX9_event 62 = .ok (.invokevirtual 100, 3) := by decide +kernel
theorem dX9_event_65 : decode cX9_event 65 = .ok (.ifCond .ne 6, 3) := by decide +kernel
theorem dX9_event_68 : decode cX9_event 68 = .ok (.bipush (-2), 2) := by decide +kernel
theorem dX9_event_70 : decode cX9_event 70 = .ok (.ireturn, 1) := by decide +kernel
theorem dX9_event_71 : decode cX9_event 71 = .ok (.iload_n 1, 1) := by decide +kernel
theorem dX9_event_72 : decode cX9_event 72 = .ok (.iconst 1, 1) := by decide +kernel
theorem dX9_event_73 : decode cX9_event 73 = .ok (.if_icmp .eq 8, 3) := by decide +kernel
theorem dX9_event_76 : decode cX9_event 76 = .ok (.iload_n 1, 1) := by decide +kernel
theorem dX9_event_77 : decode cX9_event 77 = .ok (.iconst 2, 1) := by decide +kernel
theorem dX9_event_78 : decode cX9_event 78 = .ok (.if_icmp .ne 10, 3) := by decide +kernel
theorem dX9_event_81 : decode cX9_event 81 = .ok (.iload_n 2, 1) := by decide +kernel
theorem dX9_event_82 : decode cX9_event 82 = .ok (.ifCond .eq 6, 3) := by decide +kernel
theorem dX9_event_85 : decode cX9_event 85 = .ok (.bipush (-2), 2) := by decide +kernel
theorem dX9_event_87 : decode cX9_event 87 = .ok (.ireturn, 1) := by decide +kernel
theorem dX9_event_88 : decode cX9_event 88 = .ok (.aload_n 0, 1) := by decide +kernel
theorem dX9_event_89 : decode cX9_event 89 = .ok (.getfield 12, 3) := by decide +kernel
theorem dX9_event_92 : decode cX9_event 92 = .ok (.getfield 315, 3) := by decide +kernel
theorem dX9_event_95 : decode cX9_event 95 = .ok (.iload_n 1, 1) := by decide +kernel
theorem dX9_event_96 : decode cX9_event 96 = .ok (.iload_n 2, 1) := by decide +kernel
theorem dX9_event_97 : decode cX9_event 97 = .ok (.invokevirtual 285, 3) := by decide +kernel
theorem dX9_event_100 : decode cX9_event 100 = .ok (.ireturn, 1) := by decide +kernel
theorem dX9_after_0 : decode cX9_after 0 = .ok (.iload_n 1, 1) := by decide +kernel
theorem dX9_after_1 : decode cX9_after 1 = .ok (.ifCond .lt 8, 3) := by decide +kernel
theorem dX9_after_4 : decode cX9_after 4 = .ok (.iload_n 1, 1) := by decide +kernel
theorem dX9_after_5 : decode cX9_after 5 = .ok (.iconst 2, 1) := by decide +kernel
theorem dX9_after_6 : decode cX9_after 6 = .ok (.if_icmp .le 5, 3) := by decide +kernel
theorem dX9_after_9 : decode cX9_after 9 = .ok (.iconst (-1), 1) := by decide +kernel
theorem dX9_after_10 : decode cX9_after 10 = .ok (.ireturn, 1) := by decide +kernel
theorem dX9_after_11 : decode cX9_after 11 = .ok (.aload_n 0, 1) := by decide +kernel
theorem dX9_after_12 : decode cX9_after 12 = .ok (.getfield 34, 3) := by decide +kernel
theorem dX9_after_15 : decode cX9_after 15 = .ok (.aload_n 0, 1) := by decide +kernel
theorem dX9_after_16 : decode cX9_after 16 = .ok (.getfield 12, 3) := by decide +kernel
theorem dX9_after_19 : decode cX9_after 19 = .ok (.getfield 83, 3) := by decide +kernel
theorem dX9_after_22 : decode cX9_after 22 = .ok (.invokevirtual 318, 3) := by decide +kernel
theorem dX9_after_25 : decode cX9_after 25 = .ok (.iconst 0, 1) := by decide +kernel
theorem dX9_after_26 : decode cX9_after 26 = .ok (.istore_n 2, 1) := by decide +kernel
theorem dX9_after_27 : decode cX9_after 27 = .ok (.iload_n 2, 1) := by decide +kernel
theorem dX9_after_28 : decode cX9_after 28 = .ok (.aload_n 0, 1) := by decide +kernel
theorem dX9_after_29 : decode cX9_after 29 = .ok (.getfield 12, 3) := by decide +kernel
theorem dX9_after_32 : decode cX9_after 32 = .ok (.getfield 315, 3) := by decide +kernel
theorem dX9_after_35 : decode cX9_after 35 = .ok (.getfield 288, 3) := by decide +kernel
theorem dX9_after_38 : decode cX9_after 38 = .ok (.if_icmp .ge 37, 3) := by decide +kernel
theorem dX9_after_41 : decode cX9_after 41 = .ok (.aload_n 0, 1) := by decide +kernel
theorem dX9_after_42 : decode cX9_after 42 = .ok (.aload_n 0, 1) := by decide +kernel
theorem dX9_after_43 : decode cX9_after 43 = .ok (.getfield 12, 3) := by decide +kernel
theorem dX9_after_46 : decode cX9_after 46 = .ok (.getfield 315, 3) := by decide +kernel
theorem dX9_after_49 : decode cX9_after 49 = .ok (.getfield 289, 3) := by decide +kernel
theorem dX9_after_52 : decode cX9_after 52 = .ok (.iload_n 2, 1) := by decide +kernel
theorem dX9_after_53 : decode cX9_after 53 = .ok (.iaload, 1) := by decide +kernel
theorem dX9_after_54 : decode cX9_after 54 = .ok (.aload_n 0, 1) := by decide +kernel
theorem dX9_after_55 : decode cX9_after 55 = .ok (.getfield 12, 3) := by decide +kernel
theorem dX9_after_58 : decode cX9_after 58 = .ok (.getfield 315, 3) := by decide +kernel
theorem dX9_after_61 : decode cX9_after 61 = .ok (.getfield 292, 3) := by decide +kernel
theorem dX9_after_64 : decode cX9_after 64 = .ok (.iload_n 2, 1) := by decide +kernel
theorem dX9_after_65 : decode cX9_after 65 = .ok (.iaload, 1) := by decide +kernel
theorem dX9_after_66 : decode cX9_after 66 = .ok (.invokevirtual 321, 3) := by decide +kernel
theorem dX9_after_69 : decode cX9_after 69 = .ok (.iinc 2 1, 3) := by decide +kernel
theorem dX9_after_72 : decode cX9_after 72 = .ok (.goto (-45), 3) := by decide +kernel
theorem dX9_after_75 : decode cX9_after 75 = .ok (.iload_n 1, 1) := by decide +kernel
theorem dX9_after_76 : decode cX9_after 76 = .ok (.ifCond .ne 11, 3) := by decide +kernel
theorem dX9_after_79 : decode cX9_after 79 = .ok (.aload_n 0, 1) := by decide +kernel
theorem dX9_after_80 : decode cX9_after 80 = .ok (.getfield 34, 3) := by decide +kernel
theorem dX9_after_83 : decode cX9_after 83 = .ok (.invokevirtual 108, 3) := by decide +kernel
theorem dX9_after_86 : decode cX9_after 86 = .ok (.ireturn, 1) := by decide +kernel
theorem dX9_after_87 : decode cX9_after 87 = .ok (.iload_n 1, 1) := by decide +kernel
theorem dX9_after_88 : decode cX9_after 88 = .ok (.iconst 1, 1) := by decide +kernel
theorem dX9_after_89 : decode cX9_after 89 = .ok (.if_icmp .ne 16, 3) := by decide +kernel
theorem dX9_after_92 : decode cX9_after 92 = .ok (.aload_n 0, 1) := by decide +kernel
theorem dX9_after_93 : decode cX9_after 93 = .ok (.getfield 34, 3) := by decide +kernel
theorem dX9_after_96 : decode cX9_after 96 = .ok (.getfield 120, 3) := by decide +kernel
theorem dX9_after_99 : decode cX9_after 99 = .ok (.invokestatic 139, 3) := by decide +kernel
theorem dX9_after_102 : decode cX9_after 102 = .ok (.goto 10, 3) := by decide +kernel
theorem dX9_after_105 : decode cX9_after 105 = .ok (.aload_n 0, 1) := by decide +kernel
theorem dX9_after_106 : decode cX9_after 106 = .ok (.getfield 34, 3) := by decide +kernel
theorem dX9_after_109 : decode cX9_after 109 = .ok (.invokevirtual 214, 3) := by decide +kernel
theorem dX9_after_112 : decode cX9_after 112 = .ok (.ireturn, 1) := by decide +kernel
theorem dX9_happen_0 : decode cX9_happen 0 = .ok (.iload_n 1, 1) := by decide +kernel
theorem dX9_happen_1 : decode cX9_happen 1 = .ok (.tableswitch 168 0 4 #[35, 69, 79, 99, 124], 35) := by decide +kernel
theorem dX9_happen_36 : decode cX9_happen 36 = .ok (.aload_n 0, 1) := by decide +kernel
theorem dX9_happen_37 : decode cX9_happen 37 = .ok (.getfield 41, 3) := by decide +kernel
theorem dX9_happen_40 : decode cX9_happen 40 = .ok (.aload_n 0, 1) := by decide +kernel
theorem dX9_happen_41 : decode cX9_happen 41 = .ok (.getfield 12, 3) := by decide +kernel
theorem dX9_happen_44 : decode cX9_happen 44 = .ok (.getfield 27, 3) := by decide +kernel
theorem dX9_happen_47 : decode cX9_happen 47 = .ok (.iload_n 2, 1) := by decide +kernel
theorem dX9_happen_48 : decode cX9_happen 48 = .ok (.invokevirtual 100, 3) := by decide +kernel
theorem dX9_happen_51 : decode cX9_happen 51 = .ok (.ifCond .eq 118, 3) := by decide +kernel
theorem dX9_happen_54 : decode cX9_happen 54 = .ok (.aload_n 0, 1) := by decide +kernel
theorem dX9_happen_55 : decode cX9_happen 55 = .ok (.getfield 34, 3) := by decide +kernel
theorem dX9_happen_58 : decode cX9_happen 58 = .ok (.aload_n 0, 1) := by decide +kernel
theorem dX9_happen_59 : decode cX9_happen 59 = .ok (.getfield 41, 3) := by decide +kernel
theorem dX9_happen_62 : decode cX9_happen 62 = .ok (.iconst 1, 1) := by decide +kernel
theorem dX9_happen_63 : decode cX9_happen 63 = .ok (.invokevirtual 104, 3) := by decide +kernel
theorem dX9_happen_66 : decode cX9_happen 66 = .ok (.pop, 1) := by decide +kernel
theorem dX9_happen_67 : decode cX9_happen 67 = .ok (.goto 102, 3) := by decide +kernel
theorem dX9_happen_70 : decode cX9_happen 70 = .ok (.aload_n 0, 1) := by decide +kernel
theorem dX9_happen_71 : decode cX9_happen 71 = .ok (.getfield 34, 3) := by decide +kernel
theorem dX9_happen_74 : decode cX9_happen 74 = .ok (.invokevirtual 111, 3) := by decide +kernel
theorem dX9_happen_77 : decode cX9_happen 77 = .ok (.goto 92, 3) := by decide +kernel
theorem dX9_happen_80 : decode cX9_happen 80 = .ok (.aload_n 0, 1) := by decide +kernel
theorem dX9_happen_81 : decode cX9_happen 81 = .ok (.getfield 34, 3) := by decide +kernel
theorem dX9_happen_84 : decode cX9_happen 84 = .ok (.invokevirtual 132, 3) := by decide +kernel
theorem dX9_happen_87 : decode cX9_happen 87 = .ok (.ifCond .eq 82, 3) := by decide +kernel
theorem dX9_happen_90 : decode cX9_happen 90 = .ok (.aload_n 0, 1) := by decide +kernel
theorem dX9_happen_91 : decode cX9_happen 91 = .ok (.getfield 34, 3) := by decide +kernel
theorem dX9_happen_94 : decode cX9_happen 94 = .ok (.invokevirtual 136, 3) := by decide +kernel
theorem dX9_happen_97 : decode cX9_happen 97 = .ok (.goto 72, 3) := by decide +kernel
theorem dX9_happen_100 : decode cX9_happen 100 = .ok (.aload_n 0, 1) := by decide +kernel
theorem dX9_happen_101 : decode cX9_happen 101 = .ok (.getfield 12, 3) := by decide +kernel
theorem dX9_happen_104 : decode cX9_happen 104 = .ok (.getfield 27, 3) := by decide +kernel
theorem dX9_happen_107 : decode cX9_happen 107 = .ok (.iload_n 2, 1) := by decide +kernel
theorem dX9_happen_108 : decode cX9_happen 108 = .ok (.invokevirtual 89, 3) := by decide +kernel
theorem dX9_happen_111 : decode cX9_happen 111 = .ok (.ifCond .eq 58, 3) := by decide +kernel
theorem dX9_happen_114 : decode cX9_happen 114 = .ok (.aload_n 0, 1) := by decide +kernel
theorem dX9_happen_115 : decode cX9_happen 115 = .ok (.getfield 34, 3) := by decide +kernel
theorem dX9_happen_118 : decode cX9_happen 118 = .ok (.iload_n 2, 1) := by decide +kernel
theorem dX9_happen_119 : decode cX9_happen 119 = .ok (.invokevirtual 128, 3) := by decide +kernel
theorem dX9_happen_122 : decode cX9_happen 122 = .ok (.goto 47, 3) := by decide +kernel
theorem dX9_happen_125 : decode cX9_happen 125 = .ok (.aload_n 0, 1) := by decide +kernel
theorem dX9_happen_126 : decode cX9_happen 126 = .ok (.getfield 12, 3) := by decide +kernel
theorem dX9_happen_129 : decode cX9_happen 129 = .ok (.getfield 27, 3) := by decide +kernel
theorem dX9_happen_132 : decode cX9_happen 132 = .ok (.iload_n 2, 1) := by decide +kernel
theorem dX9_happen_133 : decode cX9_happen 133 = .ok (.invokevirtual 89, 3) := by decide +kernel
theorem dX9_happen_136 : decode cX9_happen 136 = .ok (.ifCond .eq 33, 3) := by decide +kernel
theorem dX9_happen_139 : decode cX9_happen 139 = .ok (.aload_n 0, 1) := by decide +kernel
theorem dX9_happen_140 : decode cX9_happen 140 = .ok (.getfield 34, 3) := by decide +kernel
theorem dX9_happen_143 : decode cX9_happen 143 = .ok (.getfield 96, 3) := by decide +kernel
theorem dX9_happen_146 : decode cX9_happen 146 = .ok (.iload_n 2, 1) := by decide +kernel
theorem dX9_happen_147 : decode cX9_happen 147 = .ok (.iaload, 1) := by decide +kernel
theorem dX9_happen_148 : decode cX9_happen 148 = .ok (.bipush 99, 2) := by decide +kernel
theorem dX9_happen_150 : decode cX9_happen 150 = .ok (.if_icmp .ge 19, 3) := by decide +kernel
theorem dX9_happen_153 : decode cX9_happen 153 = .ok (.aload_n 0, 1) := by decide +kernel
theorem dX9_happen_154 : decode cX9_happen 154 = .ok (.getfield 34, 3) := by decide +kernel
theorem dX9_happen_157 : decode cX9_happen 157 = .ok (.getfield 96, 3) := by decide +kernel
theorem dX9_happen_160 : decode cX9_happen 160 = .ok (.iload_n 2, 1) := by decide +kernel
theorem dX9_happen_161 : decode cX9_happen 161 = .ok (.dup2, 1) := by decide +kernel
theorem dX9_happen_162 : decode cX9_happen 162 = .ok (.iaload, 1) := by decide +kernel
theorem dX9_happen_163 : decode cX9_happen 163 = .ok (.iconst 1, 1) := by decide +kernel
theorem dX9_happen_164 : decode cX9_happen 164 = .ok (.iadd, 1) := by decide +kernel
theorem dX9_happen_165 : decode cX9_happen 165 = .ok (.iastore, 1) := by decide +kernel
theorem dX9_happen_166 : decode cX9_happen 166 = .ok (.goto 3, 3) := by decide +kernel
theorem dX9_happen_169 : decode cX9_happen 169 = .ok (.return_, 1) := by decide +kernel
theorem dX9_book_0 : decode cX9_book 0 = .ok (.iload_n 1, 1) := by decide +kernel
theorem dX9_book_1 : decode cX9_book 1 = .ok (.iconst (-1), 1) := by decide +kernel
theorem dX9_book_2 : decode cX9_book 2 = .ok (.if_icmp .ne 14, 3) := by decide +kernel
theorem dX9_book_5 : decode cX9_book 5 = .ok (.aload_n 0, 1) := by decide +kernel
theorem dX9_book_6 : decode cX9_book 6 = .ok (.getfield 12, 3) := by decide +kernel
theorem dX9_book_9 : decode cX9_book 9 = .ok (.getfield 324, 3) := by decide +kernel
theorem dX9_book_12 : decode cX9_book 12 = .ok (.invokevirtual 281, 3) := by decide +kernel
theorem dX9_book_15 : decode cX9_book 15 = .ok (.ireturn, 1) := by decide +kernel
theorem dX9_book_16 : decode cX9_book 16 = .ok (.aload_n 0, 1) := by decide +kernel
theorem dX9_book_17 : decode cX9_book 17 = .ok (.getfield 12, 3) := by decide +kernel
theorem dX9_book_20 : decode cX9_book 20 = .ok (.getfield 27, 3) := by decide +kernel
theorem dX9_book_23 : decode cX9_book 23 = .ok (.iload_n 1, 1) := by decide +kernel
theorem dX9_book_24 : decode cX9_book 24 = .ok (.invokevirtual 89, 3) := by decide +kernel
theorem dX9_book_27 : decode cX9_book 27 = .ok (.ifCond .ne 5, 3) := by decide +kernel
theorem dX9_book_30 : decode cX9_book 30 = .ok (.iconst (-1), 1) := by decide +kernel
theorem dX9_book_31 : decode cX9_book 31 = .ok (.ireturn, 1) := by decide +kernel
theorem dX9_book_32 : decode cX9_book 32 = .ok (.iload_n 2, 1) := by decide +kernel
theorem dX9_book_33 : decode cX9_book 33 = .ok (.invokestatic 93, 3) := by decide +kernel
theorem dX9_book_36 : decode cX9_book 36 = .ok (.ifCond .ne 6, 3) := by decide +kernel
theorem dX9_book_39 : decode cX9_book 39 = .ok (.bipush (-2), 2) := by decide +kernel
theorem dX9_book_41 : decode cX9_book 41 = .ok (.ireturn, 1) := by decide +kernel
theorem dX9_book_42 : decode cX9_book 42 = .ok (.aload_n 0, 1) := by decide +kernel
theorem dX9_book_43 : decode cX9_book 43 = .ok (.getfield 12, 3) := by decide +kernel
theorem dX9_book_46 : decode cX9_book 46 = .ok (.getfield 324, 3) := by decide +kernel
theorem dX9_book_49 : decode cX9_book 49 = .ok (.iload_n 1, 1) := by decide +kernel
theorem dX9_book_50 : decode cX9_book 50 = .ok (.iload_n 2, 1) := by decide +kernel
theorem dX9_book_51 : decode cX9_book 51 = .ok (.invokevirtual 285, 3) := by decide +kernel
theorem dX9_book_54 : decode cX9_book 54 = .ok (.ireturn, 1) := by decide +kernel
theorem dX9_looked_0 : decode cX9_looked 0 = .ok (.iconst 0, 1) := by decide +kernel
theorem dX9_looked_1 : decode cX9_looked 1 = .ok (.istore_n 1, 1) := by decide +kernel
theorem dX9_looked_2 : decode cX9_looked 2 = .ok (.iload_n 1, 1) := by decide +kernel
theorem dX9_looked_3 : decode cX9_looked 3 = .ok (.aload_n 0, 1) := by decide +kernel
theorem dX9_looked_4 : decode cX9_looked 4 = .ok (.getfield 12, 3) := by decide +kernel
theorem dX9_looked_7 : decode cX9_looked 7 = .ok (.getfield 324, 3) := by decide +kernel
theorem dX9_looked_10 : decode cX9_looked 10 = .ok (.getfield 288, 3) := by decide +kernel
theorem dX9_looked_13 : decode cX9_looked 13 = .ok (.if_icmp .ge 65, 3) := by decide +kernel
theorem dX9_looked_16 : decode cX9_looked 16 = .ok (.aload_n 0, 1) := by decide +kernel
theorem dX9_looked_17 : decode cX9_looked 17 = .ok (.getfield 12, 3) := by decide +kernel
theorem dX9_looked_20 : decode cX9_looked 20 = .ok (.getfield 324, 3) := by decide +kernel
theorem dX9_looked_23 : decode cX9_looked 23 = .ok (.getfield 289, 3) := by decide +kernel
theorem dX9_looked_26 : decode cX9_looked 26 = .ok (.iload_n 1, 1) := by decide +kernel
theorem dX9_looked_27 : decode cX9_looked 27 = .ok (.iaload, 1) := by decide +kernel
theorem dX9_looked_28 : decode cX9_looked 28 = .ok (.istore_n 2, 1) := by decide +kernel
theorem dX9_looked_29 : decode cX9_looked 29 = .ok (.aload_n 0, 1) := by decide +kernel
theorem dX9_looked_30 : decode cX9_looked 30 = .ok (.getfield 12, 3) := by decide +kernel
theorem dX9_looked_33 : decode cX9_looked 33 = .ok (.getfield 27, 3) := by decide +kernel
theorem dX9_looked_36 : decode cX9_looked 36 = .ok (.iload_n 2, 1) := by decide +kernel
theorem dX9_looked_37 : decode cX9_looked 37 = .ok (.invokevirtual 89, 3) := by decide +kernel
theorem dX9_looked_40 : decode cX9_looked 40 = .ok (.ifCond .eq 30, 3) := by decide +kernel
theorem dX9_looked_43 : decode cX9_looked 43 = .ok (.aload_n 0, 1) := by decide +kernel
theorem dX9_looked_44 : decode cX9_looked 44 = .ok (.getfield 12, 3) := by decide +kernel
theorem dX9_looked_47 : decode cX9_looked 47 = .ok (.getfield 83, 3) := by decide +kernel
theorem dX9_looked_50 : decode cX9_looked 50 = .ok (.getfield 96, 3) := by decide +kernel
theorem dX9_looked_53 : decode cX9_looked 53 = .ok (.iload_n 2, 1) := by decide +kernel
theorem dX9_looked_54 : decode cX9_looked 54 = .ok (.iaload, 1) := by decide +kernel
theorem dX9_looked_55 : decode cX9_looked 55 = .ok (.aload_n 0, 1) := by decide +kernel
theorem dX9_looked_56 : decode cX9_looked 56 = .ok (.getfield 12, 3) := by decide +kernel
theorem dX9_looked_59 : decode cX9_looked 59 = .ok (.getfield 324, 3) := by decide +kernel
theorem dX9_looked_62 : decode cX9_looked 62 = .ok (.getfield 292, 3) := by decide +kernel
theorem dX9_looked_65 : decode cX9_looked 65 = .ok (.iload_n 1, 1) := by decide +kernel
theorem dX9_looked_66 : decode cX9_looked 66 = .ok (.iaload, 1) := by decide +kernel
theorem dX9_looked_67 : decode cX9_looked 67 = .ok (.if_icmp .eq 5, 3) := by decide +kernel
theorem dX9_looked_70 : decode cX9_looked 70 = .ok (.iload_n 1, 1) := by decide +kernel
theorem dX9_looked_71 : decode cX9_looked 71 = .ok (.ireturn, 1) := by decide +kernel
theorem dX9_looked_72 : decode cX9_looked 72 = .ok (.iinc 1 1, 3) := by decide +kernel
theorem dX9_looked_75 : decode cX9_looked 75 = .ok (.goto (-73), 3) := by decide +kernel
theorem dX9_looked_78 : decode cX9_looked 78 = .ok (.bipush (-5), 2) := by decide +kernel
theorem dX9_looked_80 : decode cX9_looked 80 = .ok (.ireturn, 1) := by decide +kernel
theorem dX9_judge_0 : decode cX9_judge 0 = .ok (.iload_n 1, 1) := by decide +kernel
theorem dX9_judge_1 : decode cX9_judge 1 = .ok (.invokestatic 327, 3) := by decide +kernel
theorem dX9_judge_4 : decode cX9_judge 4 = .ok (.ifCond .ne 5, 3) := by decide +kernel
theorem dX9_judge_7 : decode cX9_judge 7 = .ok (.iconst (-1), 1) := by decide +kernel
theorem dX9_judge_8 : decode cX9_judge 8 = .ok (.ireturn, 1) := by decide +kernel
theorem dX9_judge_9 : decode cX9_judge 9 = .ok (.aload_n 0, 1) := by decide +kernel
theorem dX9_judge_10 : decode cX9_judge 10 = .ok (.getfield 68, 3) := by decide +kernel
theorem dX9_judge_13 : decode cX9_judge 13 = .ok (.iload_n 1, 1) := by decide +kernel
theorem dX9_judge_14 : decode cX9_judge 14 = .ok (.aaload, 1) := by decide +kernel
theorem dX9_judge_15 : decode cX9_judge 15 = .ok (.astore_n 3, 1) := by decide +kernel
theorem dX9_judge_16 : decode cX9_judge 16 = .ok (.aload_n 3, 1) := by decide +kernel
theorem dX9_judge_17 : decode cX9_judge 17 = .ok (.invokevirtual 330, 3) := by decide +kernel
theorem dX9_judge_20 : decode cX9_judge 20 = .ok (.ifCond .eq 6, 3) := by decide +kernel
theorem dX9_judge_23 : decode cX9_judge 23 = .ok (.bipush 100, 2) := by decide +kernel
theorem dX9_judge_25 : decode cX9_judge 25 = .ok (.ireturn, 1) := by decide +kernel
theorem dX9_judge_26 : decode cX9_judge 26 = .ok (.aload_n 3, 1) := by decide +kernel
theorem dX9_judge_27 : decode cX9_judge 27 = .ok (.getfield 333, 3) := by decide +kernel
theorem dX9_judge_30 : decode cX9_judge 30 = .ok (.ifCond .eq 6, 3) := by decide +kernel
theorem dX9_judge_33 : decode cX9_judge 33 = .ok (.bipush (-12), 2) := by decide +kernel
theorem dX9_judge_35 : decode cX9_judge 35 = .ok (.ireturn, 1) := by decide +kernel
theorem dX9_judge_36 : decode cX9_judge 36 = .ok (.iload_n 2, 1) := by decide +kernel
theorem dX9_judge_37 : decode cX9_judge 37 = .ok (.ifCond .lt 11, 3) := by decide +kernel
theorem dX9_judge_40 : decode cX9_judge 40 = .ok (.iload_n 2, 1) := by decide +kernel
theorem dX9_judge_41 : decode cX9_judge 41 = .ok (.aload_n 3, 1) := by decide +kernel
theorem dX9_judge_42 : decode cX9_judge 42 = .ok (.getfield 336, 3) := by decide +kernel
theorem dX9_judge_45 : decode cX9_judge 45 = .ok (.if_icmp .le 7, 3) := by decide +kernel
theorem dX9_judge_48 : decode cX9_judge 48 = .ok (.iconst 0, 1) := by decide +kernel
theorem dX9_judge_49 : decode cX9_judge 49 = .ok (.goto 9, 3) := by decide +kernel
theorem dX9_judge_52 : decode cX9_judge 52 = .ok (.aload_n 3, 1) := by decide +kernel
theorem dX9_judge_53 : decode cX9_judge 53 = .ok (.getfield 336, 3) := by decide +kernel
theorem dX9_judge_56 : decode cX9_judge 56 = .ok (.iload_n 2, 1) := by decide +kernel
theorem dX9_judge_57 : decode cX9_judge 57 = .ok (.isub, 1) := by decide +kernel
theorem dX9_judge_58 : decode cX9_judge 58 = .ok (.istore 4, 2) := by decide +kernel
theorem dX9_judge_60 : decode cX9_judge 60 = .ok (.iconst 0, 1) := by decide +kernel
theorem dX9_judge_61 : decode cX9_judge 61 = .ok (.istore 5, 2) := by decide +kernel
theorem dX9_judge_63 : decode cX9_judge 63 = .ok (.iload 5, 2) := by decide +kernel
theorem dX9_judge_65 : decode cX9_judge 65 = .ok (.aload_n 0, 1) := by decide +kernel
theorem dX9_judge_66 : decode cX9_judge 66 = .ok (.getfield 12, 3) := by decide +kernel
theorem dX9_judge_69 : decode cX9_judge 69 = .ok (.getfield 27, 3) := by decide +kernel
theorem dX9_judge_72 : decode cX9_judge 72 = .ok (.getfield 202, 3) := by decide +kernel
theorem dX9_judge_75 : decode cX9_judge 75 = .ok (.if_icmp .ge 52, 3) := by decide +kernel
theorem dX9_judge_78 : decode cX9_judge 78 = .ok (.iload 5, 2) := by decide +kernel
theorem dX9_judge_80 : decode cX9_judge 80 = .ok (.iload 4, 2) := by decide +kernel
theorem dX9_judge_82 : decode cX9_judge 82 = .ok (.if_icmp .lt 9, 3) := by decide +kernel
theorem dX9_judge_85 : decode cX9_judge 85 = .ok (.bipush 100, 2) := by decide +kernel
theorem dX9_judge_87 : decode cX9_judge 87 = .ok (.iload 5, 2) := by decide +kernel
theorem dX9_judge_89 : decode cX9_judge 89 = .ok (.iadd, 1) := by decide +kernel
theorem dX9_judge_90 : decode cX9_judge 90 = .ok (.ireturn, 1) := by decide +kernel
theorem dX9_judge_91 : decode cX9_judge 91 = .ok (.aload_n 3, 1) := by decide +kernel
theorem dX9_judge_92 : decode cX9_judge 92 = .ok (.getfield 337, 3) := by decide +kernel
theorem dX9_judge_95 : decode cX9_judge 95 = .ok (.iload_n 2, 1) := by decide +kernel
theorem dX9_judge_96 : decode cX9_judge 96 = .ok (.iload 5, 2) := by decide +kernel
theorem dX9_judge_98 : decode cX9_judge 98 = .ok (.iadd, 1) := by decide +kernel
theorem dX9_judge_99 : decode cX9_judge 99 = .ok (.laload, 1) := by decide +kernel
theorem dX9_judge_100 : decode cX9_judge 100 = .ok (.aload_n 0, 1) := by decide +kernel
theorem dX9_judge_101 : decode cX9_judge 101 = .ok (.getfield 12, 3) := by decide +kernel
theorem dX9_judge_104 : decode cX9_judge 104 = .ok (.getfield 83, 3) := by decide +kernel
theorem dX9_judge_107 : decode cX9_judge 107 = .ok (.getfield 96, 3) := by decide +kernel
theorem dX9_judge_110 : decode cX9_judge 110 = .ok (.iload 5, 2) := by decide +kernel
theorem dX9_judge_112 : decode cX9_judge 112 = .ok (.iaload, 1) := by decide +kernel
theorem dX9_judge_113 : decode cX9_judge 113 = .ok (.i2l, 1) := by decide +kernel
theorem dX9_judge_114 : decode cX9_judge 114 = .ok (.lcmp, 1) := by decide +kernel
theorem dX9_judge_115 : decode cX9_judge 115 = .ok (.ifCond .eq 6, 3) := by decide +kernel
theorem dX9_judge_118 : decode cX9_judge 118 = .ok (.iload 5, 2) := by decide +kernel
theorem dX9_judge_120 : decode cX9_judge 120 = .ok (.ireturn, 1) := by decide +kernel
theorem dX9_judge_121 : decode cX9_judge 121 = .ok (.iinc 5 1, 3) := by decide +kernel
theorem dX9_judge_124 : decode cX9_judge 124 = .ok (.goto (-61), 3) := by decide +kernel
theorem dX9_judge_127 : decode cX9_judge 127 = .ok (.bipush (-5), 2) := by decide +kernel
theorem dX9_judge_129 : decode cX9_judge 129 = .ok (.ireturn, 1) := by decide +kernel
theorem dX9_image_0 : decode cX9_image 0 = .ok (.aload_n 0, 1) := by decide +kernel
theorem dX9_image_1 : decode cX9_image 1 = .ok (.getfield 18, 3) := by decide +kernel
theorem dX9_image_4 : decode cX9_image 4 = .ok (.aload_n 0, 1) := by decide +kernel
theorem dX9_image_5 : decode cX9_image 5 = .ok (.getfield 12, 3) := by decide +kernel
theorem dX9_image_8 : decode cX9_image 8 = .ok (.invokevirtual 341, 3) := by decide +kernel
theorem dX9_image_11 : decode cX9_image 11 = .ok (.aload_n 0, 1) := by decide +kernel
theorem dX9_image_12 : decode cX9_image 12 = .ok (.iconst 1, 1) := by decide +kernel
theorem dX9_image_13 : decode cX9_image 13 = .ok (.putfield 21, 3) := by decide +kernel
theorem dX9_image_16 : decode cX9_image 16 = .ok (.aload_n 0, 1) := by decide +kernel
theorem dX9_image_17 : decode cX9_image 17 = .ok (.getfield 12, 3) := by decide +kernel
theorem dX9_image_20 : decode cX9_image 20 = .ok (.getfield 83, 3) := by decide +kernel
theorem dX9_image_23 : decode cX9_image 23 = .ok (.getfield 120, 3) := by decide +kernel
theorem dX9_image_26 : decode cX9_image 26 = .ok (.invokestatic 139, 3) := by decide +kernel
theorem dX9_image_29 : decode cX9_image 29 = .ok (.ireturn, 1) := by decide +kernel
theorem dX9_undo_0 : decode cX9_undo 0 = .ok (.aload_n 0, 1) := by decide +kernel
theorem dX9_undo_1 : decode cX9_undo 1 = .ok (.getfield 21, 3) := by decide +kernel
theorem dX9_undo_4 : decode cX9_undo 4 = .ok (.ifCond .ne 6, 3) := by decide +kernel
theorem dX9_undo_7 : decode cX9_undo 7 = .ok (.bipush (-3), 2) := by decide +kernel
theorem dX9_undo_9 : decode cX9_undo 9 = .ok (.ireturn, 1) := by decide +kernel
theorem dX9_undo_10 : decode cX9_undo 10 = .ok (.aload_n 0, 1) := by decide +kernel
theorem dX9_undo_11 : decode cX9_undo 11 = .ok (.getfield 12, 3) := by decide +kernel
theorem dX9_undo_14 : decode cX9_undo 14 = .ok (.aload_n 0, 1) := by decide +kernel
theorem dX9_undo_15 : decode cX9_undo 15 = .ok (.getfield 18, 3) := by decide +kernel
theorem dX9_undo_18 : decode cX9_undo 18 = .ok (.invokevirtual 341, 3) := by decide +kernel
theorem dX9_undo_21 : decode cX9_undo 21 = .ok (.aload_n 0, 1) := by decide +kernel
theorem dX9_undo_22 : decode cX9_undo 22 = .ok (.getfield 12, 3) := by decide +kernel
theorem dX9_undo_25 : decode cX9_undo 25 = .ok (.getfield 83, 3) := by decide +kernel
theorem dX9_undo_28 : decode cX9_undo 28 = .ok (.getfield 120, 3) := by decide +kernel
theorem dX9_undo_31 : decode cX9_undo 31 = .ok (.invokestatic 139, 3) := by decide +kernel
theorem dX9_undo_34 : decode cX9_undo 34 = .ok (.ireturn, 1) := by decide +kernel
theorem dX9_counted_0 : decode cX9_counted 0 = .ok (.iload_n 1, 1) := by decide +kernel
theorem dX9_counted_1 : decode cX9_counted 1 = .ok (.tableswitch 72 0 3 #[31, 42, 53, 64], 31) := by decide +kernel
theorem dX9_counted_32 : decode cX9_counted 32 = .ok (.aload_n 0, 1) := by decide +kernel
theorem dX9_counted_33 : decode cX9_counted 33 = .ok (.getfield 12, 3) := by decide +kernel
theorem dX9_counted_36 : decode cX9_counted 36 = .ok (.getfield 277, 3) := by decide +kernel
theorem dX9_counted_39 : decode cX9_counted 39 = .ok (.getfield 288, 3) := by decide +kernel
theorem dX9_counted_42 : decode cX9_counted 42 = .ok (.ireturn, 1) := by decide +kernel
theorem dX9_counted_43 : decode cX9_counted 43 = .ok (.aload_n 0, 1) := by decide +kernel
theorem dX9_counted_44 : decode cX9_counted 44 = .ok (.getfield 12, 3) := by decide +kernel
theorem dX9_counted_47 : decode cX9_counted 47 = .ok (.getfield 315, 3) := by decide +kernel
theorem dX9_counted_50 : decode cX9_counted 50 = .ok (.getfield 288, 3) := by decide +kernel
theorem dX9_counted_53 : decode cX9_counted 53 = .ok (.ireturn, 1) := by decide +kernel
theorem dX9_counted_54 : decode cX9_counted 54 = .ok (.aload_n 0, 1) := by decide +kernel
theorem dX9_counted_55 : decode cX9_counted 55 = .ok (.getfield 12, 3) := by decide +kernel
theorem dX9_counted_58 : decode cX9_counted 58 = .ok (.getfield 324, 3) := by decide +kernel
theorem dX9_counted_61 : decode cX9_counted 61 = .ok (.getfield 288, 3) := by decide +kernel
theorem dX9_counted_64 : decode cX9_counted 64 = .ok (.ireturn, 1) := by decide +kernel
theorem dX9_counted_65 : decode cX9_counted 65 = .ok (.aload_n 0, 1) := by decide +kernel
theorem dX9_counted_66 : decode cX9_counted 66 = .ok (.getfield 62, 3) := by decide +kernel
theorem dX9_counted_69 : decode cX9_counted 69 = .ok (.getfield 159, 3) := by decide +kernel
theorem dX9_counted_72 : decode cX9_counted 72 = .ok (.ireturn, 1) := by decide +kernel
theorem dX9_counted_73 : decode cX9_counted 73 = .ok (.bipush (-2), 2) := by decide +kernel
theorem dX9_counted_75 : decode cX9_counted 75 = .ok (.ireturn, 1) := by decide +kernel
theorem dX9_tape_0 : decode cX9_tape 0 = .ok (.iload_n 1, 1) := by decide +kernel
theorem dX9_tape_1 : decode cX9_tape 1 = .ok (.invokestatic 327, 3) := by decide +kernel
theorem dX9_tape_4 : decode cX9_tape 4 = .ok (.ifCond .ne 5, 3) := by decide +kernel
theorem dX9_tape_7 : decode cX9_tape 7 = .ok (.iconst (-1), 1) := by decide +kernel
theorem dX9_tape_8 : decode cX9_tape 8 = .ok (.ireturn, 1) := by decide +kernel
theorem dX9_tape_9 : decode cX9_tape 9 = .ok (.iload_n 2, 1) := by decide +kernel
theorem dX9_tape_10 : decode cX9_tape 10 = .ok (.iconst (-1), 1) := by decide +kernel
theorem dX9_tape_11 : decode cX9_tape 11 = .ok (.if_icmp .ne 16, 3) := by decide +kernel
theorem dX9_tape_14 : decode cX9_tape 14 = .ok (.aload_n 0, 1) := by decide +kernel
theorem dX9_tape_15 : decode cX9_tape 15 = .ok (.getfield 68, 3) := by decide +kernel
theorem dX9_tape_18 : decode cX9_tape 18 = .ok (.iload_n 1, 1) := by decide +kernel
theorem dX9_tape_19 : decode cX9_tape 19 = .ok (.aaload, 1) := by decide +kernel
theorem dX9_tape_20 : decode cX9_tape 20 = .ok (.iconst (-1), 1) := by decide +kernel
theorem dX9_tape_21 : decode cX9_tape 21 = .ok (.iconst 0, 1) := by decide +kernel
theorem dX9_tape_22 : decode cX9_tape 22 = .ok (.invokevirtual 344, 3) := by decide +kernel
theorem dX9_tape_25 : decode cX9_tape 25 = .ok (.iconst 1, 1) := by decide +kernel
theorem dX9_tape_26 : decode cX9_tape 26 = .ok (.ireturn, 1) := by decide +kernel
theorem dX9_tape_27 : decode cX9_tape 27 = .ok (.iload_n 2, 1) := by decide +kernel
theorem dX9_tape_28 : decode cX9_tape 28 = .ok (.ifCond .lt 14, 3) := by decide +kernel
theorem dX9_tape_31 : decode cX9_tape 31 = .ok (.iload_n 2, 1) := by decide +kernel
theorem dX9_tape_32 : decode cX9_tape 32 = .ok (.iconst 4, 1) := by decide +kernel
theorem dX9_tape_33 : decode cX9_tape 33 = .ok (.if_icmp .gt 9, 3) := by decide +kernel
theorem dX9_tape_36 : decode cX9_tape 36 = .ok (.iload_n 3, 1) := by decide +kernel
theorem dX9_tape_37 : decode cX9_tape 37 = .ok (.bipush 60, 2) := by decide +kernel
theorem dX9_tape_39 : decode cX9_tape 39 = .ok (.if_icmp .le 6, 3) := by decide +kernel
theorem dX9_tape_42 : decode cX9_tape 42 = .ok (.bipush (-2), 2) := by decide +kernel
theorem dX9_tape_44 : decode cX9_tape 44 = .ok (.ireturn, 1) := by decide +kernel
theorem dX9_tape_45 : decode cX9_tape 45 = .ok (.iload_n 3, 1) := by decide +kernel
theorem dX9_tape_46 : decode cX9_tape 46 = .ok (.ifCond .ge 6, 3) := by decide +kernel
theorem dX9_tape_49 : decode cX9_tape 49 = .ok (.bipush (-14), 2) := by decide +kernel
theorem dX9_tape_51 : decode cX9_tape 51 = .ok (.ireturn, 1) := by decide +kernel
theorem dX9_tape_52 : decode cX9_tape 52 = .ok (.aload_n 0, 1) := by decide +kernel
theorem dX9_tape_53 : decode cX9_tape 53 = .ok (.getfield 68, 3) := by decide +kernel
theorem dX9_tape_56 : decode cX9_tape 56 = .ok (.iload_n 1, 1) := by decide +kernel
theorem dX9_tape_57 : decode cX9_tape 57 = .ok (.aaload, 1) := by decide +kernel
theorem dX9_tape_58 : decode cX9_tape 58 = .ok (.iload_n 2, 1) := by decide +kernel
theorem dX9_tape_59 : decode cX9_tape 59 = .ok (.iload_n 3, 1) := by decide +kernel
theorem dX9_tape_60 : decode cX9_tape 60 = .ok (.invokevirtual 344, 3) := by decide +kernel
theorem dX9_tape_63 : decode cX9_tape 63 = .ok (.iconst 1, 1) := by decide +kernel
theorem dX9_tape_64 : decode cX9_tape 64 = .ok (.ireturn, 1) := by decide +kernel
theorem dX9_item_0 : decode cX9_item 0 = .ok (.iload_n 1, 1) := by decide +kernel
theorem dX9_item_1 : decode cX9_item 1 = .ok (.invokestatic 327, 3) := by decide +kernel
theorem dX9_item_4 : decode cX9_item 4 = .ok (.ifCond .ne 5, 3) := by decide +kernel
theorem dX9_item_7 : decode cX9_item 7 = .ok (.iconst (-1), 1) := by decide +kernel
theorem dX9_item_8 : decode cX9_item 8 = .ok (.ireturn, 1) := by decide +kernel
theorem dX9_item_9 : decode cX9_item 9 = .ok (.aload_n 0, 1) := by decide +kernel
theorem dX9_item_10 : decode cX9_item 10 = .ok (.getfield 68, 3) := by decide +kernel
theorem dX9_item_13 : decode cX9_item 13 = .ok (.iload_n 1, 1) := by decide +kernel
theorem dX9_item_14 : decode cX9_item 14 = .ok (.aaload, 1) := by decide +kernel
theorem dX9_item_15 : decode cX9_item 15 = .ok (.astore 5, 2) := by decide +kernel
theorem dX9_item_17 : decode cX9_item 17 = .ok (.aload 5, 2) := by decide +kernel
theorem dX9_item_19 : decode cX9_item 19 = .ok (.invokevirtual 330, 3) := by decide +kernel
theorem dX9_item_22 : decode cX9_item 22 = .ok (.ifCond .eq 6, 3) := by decide +kernel
theorem dX9_item_25 : decode cX9_item 25 = .ok (.bipush (-11), 2) := by decide +kernel
theorem dX9_item_27 : decode cX9_item 27 = .ok (.ireturn, 1) := by decide +kernel
theorem dX9_item_28 : decode cX9_item 28 = .ok (.aload 5, 2) := by decide +kernel
theorem dX9_item_30 : decode cX9_item 30 = .ok (.iload_n 2, 1) := by decide +kernel
theorem dX9_item_31 : decode cX9_item 31 = .ok (.invokevirtual 346, 3) := by decide +kernel
theorem dX9_item_34 : decode cX9_item 34 = .ok (.ifCond .ne 6, 3) := by decide +kernel
theorem dX9_item_37 : decode cX9_item 37 = .ok (.bipush (-13), 2) := by decide +kernel
theorem dX9_item_39 : decode cX9_item 39 = .ok (.ireturn, 1) := by decide +kernel
theorem dX9_item_40 : decode cX9_item 40 = .ok (.aload 5, 2) := by decide +kernel
theorem dX9_item_42 : decode cX9_item 42 = .ok (.getfield 337, 3) := by decide +kernel
theorem dX9_item_45 : decode cX9_item 45 = .ok (.iload_n 2, 1) := by decide +kernel
theorem dX9_item_46 : decode cX9_item 46 = .ok (.aload 5, 2) := by decide +kernel
theorem dX9_item_48 : decode cX9_item 48 = .ok (.lload_n 3, 1) := by decide +kernel
theorem dX9_item_49 : decode cX9_item 49 = .ok (.invokevirtual 349, 3) := by decide +kernel
theorem dX9_item_52 : decode cX9_item 52 = .ok (.lastore, 1) := by decide +kernel
theorem dX9_item_53 : decode cX9_item 53 = .ok (.iconst 1, 1) := by decide +kernel
theorem dX9_item_54 : decode cX9_item 54 = .ok (.ireturn, 1) := by decide +kernel
theorem dX9_peek_0 : decode cX9_peek 0 = .ok (.iload_n 1, 1) := by decide +kernel
theorem dX9_peek_1 : decode cX9_peek 1 = .ok (.invokestatic 327, 3) := by decide +kernel
theorem dX9_peek_4 : decode cX9_peek 4 = .ok (.ifCond .eq 16, 3) := by decide +kernel
theorem dX9_peek_7 : decode cX9_peek 7 = .ok (.aload_n 0, 1) := by decide +kernel
theorem dX9_peek_8 : decode cX9_peek 8 = .ok (.getfield 68, 3) := by decide +kernel
theorem dX9_peek_11 : decode cX9_peek 11 = .ok (.iload_n 1, 1) := by decide +kernel
theorem dX9_peek_12 : decode cX9_peek 12 = .ok (.aaload, 1) := by decide +kernel
theorem dX9_peek_13 : decode cX9_peek 13 = .ok (.iload_n 2, 1) := by decide +kernel
theorem dX9_peek_14 : decode cX9_peek 14 = .ok (.invokevirtual 346, 3) := by decide +kernel
theorem dX9_peek_17 : decode cX9_peek 17 = .ok (.ifCond .ne 7, 3) := by decide +kernel
theorem dX9_peek_20 : decode cX9_peek 20 = .ok (.ldc2_w 306, 3) := by decide +kernel
theorem dX9_peek_23 : decode cX9_peek 23 = .ok (.lreturn, 1) := by decide +kernel
theorem dX9_peek_24 : decode cX9_peek 24 = .ok (.aload_n 0, 1) := by decide +kernel
theorem dX9_peek_25 : decode cX9_peek 25 = .ok (.getfield 68, 3) := by decide +kernel
theorem dX9_peek_28 : decode cX9_peek 28 = .ok (.iload_n 1, 1) := by decide +kernel
theorem dX9_peek_29 : decode cX9_peek 29 = .ok (.aaload, 1) := by decide +kernel
theorem dX9_peek_30 : decode cX9_peek 30 = .ok (.getfield 337, 3) := by decide +kernel
theorem dX9_peek_33 : decode cX9_peek 33 = .ok (.iload_n 2, 1) := by decide +kernel
theorem dX9_peek_34 : decode cX9_peek 34 = .ok (.laload, 1) := by decide +kernel
theorem dX9_peek_35 : decode cX9_peek 35 = .ok (.lreturn, 1) := by decide +kernel
theorem dX9_shift_0 : decode cX9_shift 0 = .ok (.iload_n 1, 1) := by decide +kernel
theorem dX9_shift_1 : decode cX9_shift 1 = .ok (.invokestatic 327, 3) := by decide +kernel
theorem dX9_shift_4 : decode cX9_shift 4 = .ok (.ifCond .eq 10, 3) := by decide +kernel
theorem dX9_shift_7 : decode cX9_shift 7 = .ok (.iload_n 3, 1) := by decide +kernel
theorem dX9_shift_8 : decode cX9_shift 8 = .ok (.invokestatic 327, 3) := by decide +kernel
theorem dX9_shift_11 : decode cX9_shift 11 = .ok (.ifCond .ne 5, 3) := by decide +kernel
theorem dX9_shift_14 : decode cX9_shift 14 = .ok (.iconst (-1), 1) := by decide +kernel
theorem dX9_shift_15 : decode cX9_shift 15 = .ok (.ireturn, 1) := by decide +kernel
theorem dX9_shift_16 : decode cX9_shift 16 = .ok (.aload_n 0, 1) := by decide +kernel
theorem dX9_shift_17 : decode cX9_shift 17 = .ok (.getfield 68, 3) := by decide +kernel
theorem dX9_shift_20 : decode cX9_shift 20 = .ok (.iload_n 1, 1) := by decide +kernel
theorem dX9_shift_21 : decode cX9_shift 21 = .ok (.aaload, 1) := by decide +kernel
theorem dX9_shift_22 : decode cX9_shift 22 = .ok (.astore 6, 2) := by decide +kernel
theorem dX9_shift_24 : decode cX9_shift 24 = .ok (.aload_n 0, 1) := by decide +kernel
theorem dX9_shift_25 : decode cX9_shift 25 = .ok (.getfield 68, 3) := by decide +kernel
theorem dX9_shift_28 : decode cX9_shift 28 = .ok (.iload_n 3, 1) := by decide +kernel
theorem dX9_shift_29 : decode cX9_shift 29 = .ok (.aaload, 1) := by decide +kernel
theorem dX9_shift_30 : decode cX9_shift 30 = .ok (.astore 7, 2) := by decide +kernel
theorem dX9_shift_32 : decode cX9_shift 32 = .ok (.aload 6, 2) := by decide +kernel
theorem dX9_shift_34 : decode cX9_shift 34 = .ok (.invokevirtual 330, 3) := by decide +kernel
theorem dX9_shift_37 : decode cX9_shift 37 = .ok (.ifCond .ne 11, 3) := by decide +kernel
theorem dX9_shift_40 : decode cX9_shift 40 = .ok (.aload 7, 2) := by decide +kernel
theorem dX9_shift_42 : decode cX9_shift 42 = .ok (.invokevirtual 330, 3) := by decide +kernel
theorem dX9_shift_45 : decode cX9_shift 45 = .ok (.ifCond .eq 6, 3) := by decide +kernel
theorem dX9_shift_48 : decode cX9_shift 48 = .ok (.bipush (-11), 2) := by decide +kernel
theorem dX9_shift_50 : decode cX9_shift 50 = .ok (.ireturn, 1) := by decide +kernel
theorem dX9_shift_51 : decode cX9_shift 51 = .ok (.aload 6, 2) := by decide +kernel
theorem dX9_shift_53 : decode cX9_shift 53 = .ok (.getfield 333, 3) := by decide +kernel
theorem dX9_shift_56 : decode cX9_shift 56 = .ok (.aload 7, 2) := by decide +kernel
theorem dX9_shift_58 : decode cX9_shift 58 = .ok (.getfield 333, 3) := by decide +kernel
theorem dX9_shift_61 : decode cX9_shift 61 = .ok (.if_icmp .eq 6, 3) := by decide +kernel
theorem dX9_shift_64 : decode cX9_shift 64 = .ok (.bipush (-12), 2) := by decide +kernel
theorem dX9_shift_66 : decode cX9_shift 66 = .ok (.ireturn, 1) := by decide +kernel
theorem dX9_shift_67 : decode cX9_shift 67 = .ok (.aload 6, 2) := by decide +kernel
theorem dX9_shift_69 : decode cX9_shift 69 = .ok (.iload_n 2, 1) := by decide +kernel
theorem dX9_shift_70 : decode cX9_shift 70 = .ok (.iload 5, 2) := by decide +kernel
theorem dX9_shift_72 : decode cX9_shift 72 = .ok (.invokevirtual 353, 3) := by decide +kernel
theorem dX9_shift_75 : decode cX9_shift 75 = .ok (.ifCond .eq 15, 3) := by decide +kernel
theorem dX9_shift_78 : decode cX9_shift 78 = .ok (.aload 7, 2) := by decide +kernel
theorem dX9_shift_80 : decode cX9_shift 80 = .ok (.iload 4, 2) := by decide +kernel
theorem dX9_shift_82 : decode cX9_shift 82 = .ok (.iload 5, 2) := by decide +kernel
theorem dX9_shift_84 : decode cX9_shift 84 = .ok (.invokevirtual 353, 3) := by decide +kernel
theorem dX9_shift_87 : decode cX9_shift 87 = .ok (.ifCond .ne 6, 3) := by decide +kernel
theorem dX9_shift_90 : decode cX9_shift 90 = .ok (.bipush (-13), 2) := by decide +kernel
theorem dX9_shift_92 : decode cX9_shift 92 = .ok (.ireturn, 1) := by decide +kernel
theorem dX9_shift_93 : decode cX9_shift 93 = .ok (.aload 6, 2) := by decide +kernel
theorem dX9_shift_95 : decode cX9_shift 95 = .ok (.getfield 337, 3) := by decide +kernel
theorem dX9_shift_98 : decode cX9_shift 98 = .ok (.iload_n 2, 1) := by decide +kernel
theorem dX9_shift_99 : decode cX9_shift 99 = .ok (.aload 7, 2) := by decide +kernel
theorem dX9_shift_101 : decode cX9_shift 101 = .ok (.getfield 337, 3) := by decide +kernel
theorem dX9_shift_104 : decode cX9_shift 104 = .ok (.iload 4, 2) := by decide +kernel
theorem dX9_shift_106 : decode cX9_shift 106 = .ok (.iload 5, 2) := by decide +kernel
theorem dX9_shift_108 : decode cX9_shift 108 = .ok (.invokestatic 356, 3) := by decide +kernel
theorem dX9_shift_111 : decode cX9_shift 111 = .ok (.iload 5, 2) := by decide +kernel
theorem dX9_shift_113 : decode cX9_shift 113 = .ok (.ireturn, 1) := by decide +kernel
theorem dX9_isCount_0 : decode cX9_isCount 0 = .ok (.iload_n 0, 1) := by decide +kernel
theorem dX9_isCount_1 : decode cX9_isCount 1 = .ok (.bipush (-99), 2) := by decide +kernel
theorem dX9_isCount_3 : decode cX9_isCount 3 = .ok (.if_icmp .lt 13, 3) := by decide +kernel
theorem dX9_isCount_6 : decode cX9_isCount 6 = .ok (.iload_n 0, 1) := by decide +kernel
theorem dX9_isCount_7 : decode cX9_isCount 7 = .ok (.bipush 99, 2) := by decide +kernel
theorem dX9_isCount_9 : decode cX9_isCount 9 = .ok (.if_icmp .gt 7, 3) := by decide +kernel
theorem dX9_isCount_12 : decode cX9_isCount 12 = .ok (.iconst 1, 1) := by decide +kernel
theorem dX9_isCount_13 : decode cX9_isCount 13 = .ok (.goto 4, 3) := by decide +kernel
theorem dX9_isCount_16 : decode cX9_isCount 16 = .ok (.iconst 0, 1) := by decide +kernel
theorem dX9_isCount_17 : decode cX9_isCount 17 = .ok (.ireturn, 1) := by decide +kernel
theorem dX9_isTape_0 : decode cX9_isTape 0 = .ok (.iload_n 0, 1) := by decide +kernel
theorem dX9_isTape_1 : decode cX9_isTape 1 = .ok (.ifCond .lt 13, 3) := by decide +kernel
theorem dX9_isTape_4 : decode cX9_isTape 4 = .ok (.iload_n 0, 1) := by decide +kernel
theorem dX9_isTape_5 : decode cX9_isTape 5 = .ok (.bipush 6, 2) := by decide +kernel
theorem dX9_isTape_7 : decode cX9_isTape 7 = .ok (.if_icmp .ge 7, 3) := by decide +kernel
theorem dX9_isTape_10 : decode cX9_isTape 10 = .ok (.iconst 1, 1) := by decide +kernel
theorem dX9_isTape_11 : decode cX9_isTape 11 = .ok (.goto 4, 3) := by decide +kernel
theorem dX9_isTape_14 : decode cX9_isTape 14 = .ok (.iconst 0, 1) := by decide +kernel
theorem dX9_isTape_15 : decode cX9_isTape 15 = .ok (.ireturn, 1) := by decide +kernel
theorem dX9_isIn_0 : decode cX9_isIn 0 = .ok (.lload_n 0, 1) := by decide +kernel
theorem dX9_isIn_1 : decode cX9_isIn 1 = .ok (.iload_n 2, 1) := by decide +kernel
theorem dX9_isIn_2 : decode cX9_isIn 2 = .ok (.lshr, 1) := by decide +kernel
theorem dX9_isIn_3 : decode cX9_isIn 3 = .ok (.lconst 1, 1) := by decide +kernel
theorem dX9_isIn_4 : decode cX9_isIn 4 = .ok (.land, 1) := by decide +kernel
theorem dX9_isIn_5 : decode cX9_isIn 5 = .ok (.lconst 0, 1) := by decide +kernel
theorem dX9_isIn_6 : decode cX9_isIn 6 = .ok (.lcmp, 1) := by decide +kernel
theorem dX9_isIn_7 : decode cX9_isIn 7 = .ok (.ifCond .eq 7, 3) := by decide +kernel
theorem dX9_isIn_10 : decode cX9_isIn 10 = .ok (.iconst 1, 1) := by decide +kernel
theorem dX9_isIn_11 : decode cX9_isIn 11 = .ok (.goto 4, 3) := by decide +kernel
theorem dX9_isIn_14 : decode cX9_isIn 14 = .ok (.iconst 0, 1) := by decide +kernel
theorem dX9_isIn_15 : decode cX9_isIn 15 = .ok (.ireturn, 1) := by decide +kernel
theorem dX9_withPlacesExchanged_0 : decode cX9_withPlacesExchanged 0 = .ok (.lload_n 0, 1) := by decide +kernel
theorem dX9_withPlacesExchanged_1 : decode cX9_withPlacesExchanged 1 = .ok (.iload_n 2, 1) := by decide +kernel
theorem dX9_withPlacesExchanged_2 : decode cX9_withPlacesExchanged 2 = .ok (.lshr, 1) := by decide +kernel
theorem dX9_withPlacesExchanged_3 : decode cX9_withPlacesExchanged 3 = .ok (.lconst 1, 1) := by decide +kernel
theorem dX9_withPlacesExchanged_4 : decode cX9_withPlacesExchanged 4 = .ok (.land, 1) := by decide +kernel
theorem dX9_withPlacesExchanged_5 : decode cX9_withPlacesExchanged 5 = .ok (.lload_n 0, 1) := by decide +kernel
theorem dX9_withPlacesExchanged_6 : decode cX9_withPlacesExchanged 6 = .ok (.iload_n 3, 1) := by decide +kernel
theorem dX9_withPlacesExchanged_7 : decode cX9_withPlacesExchanged 7 = .ok (.lshr, 1) := by decide +kernel
theorem dX9_withPlacesExchanged_8 : decode cX9_withPlacesExchanged 8 = .ok (.lconst 1, 1) := by decide +kernel
theorem dX9_withPlacesExchanged_9 : decode cX9_withPlacesExchanged 9 = .ok (.land, 1) := by decide +kernel
theorem dX9_withPlacesExchanged_10 : decode cX9_withPlacesExchanged 10 = .ok (.lcmp, 1) := by decide +kernel
theorem dX9_withPlacesExchanged_11 : decode cX9_withPlacesExchanged 11 = .ok (.ifCond .ne 7, 3) := by decide +kernel
theorem dX9_withPlacesExchanged_14 : decode cX9_withPlacesExchanged 14 = .ok (.iconst 1, 1) := by decide +kernel
theorem dX9_withPlacesExchanged_15 : decode cX9_withPlacesExchanged 15 = .ok (.goto 4, 3) := by decide +kernel
theorem dX9_withPlacesExchanged_18 : decode cX9_withPlacesExchanged 18 = .ok (.iconst 0, 1) := by decide +kernel
theorem dX9_withPlacesExchanged_19 : decode cX9_withPlacesExchanged 19 = .ok (.istore 4, 2) := by decide +kernel
theorem dX9_withPlacesExchanged_21 : decode cX9_withPlacesExchanged 21 = .ok (.iload 4, 2) := by decide +kernel
theorem dX9_withPlacesExchanged_23 : decode cX9_withPlacesExchanged 23 = .ok (.ifCond .eq 7, 3) := by decide +kernel
theorem dX9_withPlacesExchanged_26 : decode cX9_withPlacesExchanged 26 = .ok (.lload_n 0, 1) := by decide +kernel
theorem dX9_withPlacesExchanged_27 : decode cX9_withPlacesExchanged 27 = .ok (.goto 12, 3) := by decide +kernel
theorem dX9_withPlacesExchanged_30 : decode cX9_withPlacesExchanged 30 = .ok (.lload_n 0, 1) := by decide +kernel
theorem dX9_withPlacesExchanged_31 : decode cX9_withPlacesExchanged 31 = .ok (.lconst 1, 1) := by decide +kernel
theorem dX9_withPlacesExchanged_32 : decode cX9_withPlacesExchanged 32 = .ok (.iload_n 2, 1) := by decide +kernel
theorem dX9_withPlacesExchanged_33 : decode cX9_withPlacesExchanged 33 = .ok (.lshl, 1) := by decide +kernel
theorem dX9_withPlacesExchanged_34 : decode cX9_withPlacesExchanged 34 = .ok (.lconst 1, 1) := by decide +kernel
theorem dX9_withPlacesExchanged_35 : decode cX9_withPlacesExchanged 35 = .ok (.iload_n 3, 1) := by decide +kernel
theorem dX9_withPlacesExchanged_36 : decode cX9_withPlacesExchanged 36 = .ok (.lshl, 1) := by decide +kernel
theorem dX9_withPlacesExchanged_37 : decode cX9_withPlacesExchanged 37 = .ok (.lor, 1) := by decide +kernel
theorem dX9_withPlacesExchanged_38 : decode cX9_withPlacesExchanged 38 = .ok (.lxor, 1) := by decide +kernel
theorem dX9_withPlacesExchanged_39 : decode cX9_withPlacesExchanged 39 = .ok (.lreturn, 1) := by decide +kernel
theorem dX9_lowestTerm_0 : decode cX9_lowestTerm 0 = .ok (.iload_n 1, 1) := by decide +kernel
theorem dX9_lowestTerm_1 : decode cX9_lowestTerm 1 = .ok (.ifCond .le 12, 3) := by decide +kernel
theorem dX9_lowestTerm_4 : decode cX9_lowestTerm 4 = .ok (.iload_n 2, 1) := by decide +kernel
theorem dX9_lowestTerm_5 : decode cX9_lowestTerm 5 = .ok (.ifCond .lt 8, 3) := by decide +kernel
theorem dX9_lowestTerm_8 : decode cX9_lowestTerm 8 = .ok (.iload_n 2, 1) := by decide +kernel
theorem dX9_lowestTerm_9 : decode cX9_lowestTerm 9 = .ok (.iconst 1, 1) := by decide +kernel
theorem dX9_lowestTerm_10 : decode cX9_lowestTerm 10 = .ok (.if_icmp .le 7, 3) := by decide +kernel
theorem dX9_lowestTerm_13 : decode cX9_lowestTerm 13 = .ok (.ldc2_w 306, 3) := by decide +kernel
theorem dX9_lowestTerm_16 : decode cX9_lowestTerm 16 = .ok (.lreturn, 1) := by decide +kernel
theorem dX9_lowestTerm_17 : decode cX9_lowestTerm 17 = .ok (.iload_n 0, 1) := by decide +kernel
theorem dX9_lowestTerm_18 : decode cX9_lowestTerm 18 = .ok (.iload_n 1, 1) := by decide +kernel
theorem dX9_lowestTerm_19 : decode cX9_lowestTerm 19 = .ok (.invokestatic 362, 3) := by decide +kernel
theorem dX9_lowestTerm_22 : decode cX9_lowestTerm 22 = .ok (.istore_n 3, 1) := by decide +kernel
theorem dX9_lowestTerm_23 : decode cX9_lowestTerm 23 = .ok (.iload_n 3, 1) := by decide +kernel
theorem dX9_lowestTerm_24 : decode cX9_lowestTerm 24 = .ok (.ifCond .gt 7, 3) := by decide +kernel
theorem dX9_lowestTerm_27 : decode cX9_lowestTerm 27 = .ok (.ldc2_w 306, 3) := by decide +kernel
theorem dX9_lowestTerm_30 : decode cX9_lowestTerm 30 = .ok (.lreturn, 1) := by decide +kernel
theorem dX9_lowestTerm_31 : decode cX9_lowestTerm 31 = .ok (.iload_n 2, 1) := by decide +kernel
theorem dX9_lowestTerm_32 : decode cX9_lowestTerm 32 = .ok (.ifCond .ne 10, 3) := by decide +kernel
theorem dX9_lowestTerm_35 : decode cX9_lowestTerm 35 = .ok (.iload_n 0, 1) := by decide +kernel
theorem dX9_lowestTerm_36 : decode cX9_lowestTerm 36 = .ok (.iload_n 3, 1) := by decide +kernel
theorem dX9_lowestTerm_37 : decode cX9_lowestTerm 37 = .ok (.idiv, 1) := by decide +kernel
theorem dX9_lowestTerm_38 : decode cX9_lowestTerm 38 = .ok (.i2l, 1) := by decide +kernel
theorem dX9_lowestTerm_39 : decode cX9_lowestTerm 39 = .ok (.goto 7, 3) := by decide +kernel
theorem dX9_lowestTerm_42 : decode cX9_lowestTerm 42 = .ok (.iload_n 1, 1) := by decide +kernel
theorem dX9_lowestTerm_43 : decode cX9_lowestTerm 43 = .ok (.iload_n 3, 1) := by decide +kernel
theorem dX9_lowestTerm_44 : decode cX9_lowestTerm 44 = .ok (.idiv, 1) := by decide +kernel
theorem dX9_lowestTerm_45 : decode cX9_lowestTerm 45 = .ok (.i2l, 1) := by decide +kernel
theorem dX9_lowestTerm_46 : decode cX9_lowestTerm 46 = .ok (.lreturn, 1) := by decide +kernel
theorem dX9_greatestDivisor_0 : decode cX9_greatestDivisor 0 = .ok (.iload_n 0, 1) := by decide +kernel
theorem dX9_greatestDivisor_1 : decode cX9_greatestDivisor 1 = .ok (.istore_n 2, 1) := by decide +kernel
theorem dX9_greatestDivisor_2 : decode cX9_greatestDivisor 2 = .ok (.iload_n 1, 1) := by decide +kernel
theorem dX9_greatestDivisor_3 : decode cX9_greatestDivisor 3 = .ok (.istore_n 3, 1) := by decide +kernel
theorem dX9_greatestDivisor_4 : decode cX9_greatestDivisor 4 = .ok (.iconst 0, 1) := by decide +kernel
theorem dX9_greatestDivisor_5 : decode cX9_greatestDivisor 5 = .ok (.istore 4, 2) := by decide +kernel
theorem dX9_greatestDivisor_7 : decode cX9_greatestDivisor 7 = .ok (.iload 4, 2) := by decide +kernel
theorem dX9_greatestDivisor_9 : decode cX9_greatestDivisor 9 = .ok (.bipush 100, 2) := by decide +kernel
theorem dX9_greatestDivisor_11 : decode cX9_greatestDivisor 11 = .ok (.if_icmp .ge 23, 3) := by decide +kernel
theorem dX9_greatestDivisor_14 : decode cX9_greatestDivisor 14 = .ok (.iload_n 3, 1) := by decide +kernel
theorem dX9_greatestDivisor_15 : decode cX9_greatestDivisor 15 = .ok (.ifCond .eq 19, 3) := by decide +kernel
theorem dX9_greatestDivisor_18 : decode cX9_greatestDivisor 18 = .ok (.iload_n 2, 1) := by decide +kernel
theorem dX9_greatestDivisor_19 : decode cX9_greatestDivisor 19 = .ok (.iload_n 3, 1) := by decide +kernel
theorem dX9_greatestDivisor_20 : decode cX9_greatestDivisor 20 = .ok (.irem, 1) := by decide +kernel
theorem dX9_greatestDivisor_21 : decode cX9_greatestDivisor 21 = .ok (.istore 5, 2) := by decide +kernel
theorem dX9_greatestDivisor_23 : decode cX9_greatestDivisor 23 = .ok (.iload_n 3, 1) := by decide +kernel
theorem dX9_greatestDivisor_24 : decode cX9_greatestDivisor 24 = .ok (.istore_n 2, 1) := by decide +kernel
theorem dX9_greatestDivisor_25 : decode cX9_greatestDivisor 25 = .ok (.iload 5, 2) := by decide +kernel
theorem dX9_greatestDivisor_27 : decode cX9_greatestDivisor 27 = .ok (.istore_n 3, 1) := by decide +kernel
theorem dX9_greatestDivisor_28 : decode cX9_greatestDivisor 28 = .ok (.iinc 4 1, 3) := by decide +kernel
theorem dX9_greatestDivisor_31 : decode cX9_greatestDivisor 31 = .ok (.goto (-24), 3) := by decide +kernel
theorem dX9_greatestDivisor_34 : decode cX9_greatestDivisor 34 = .ok (.iload_n 2, 1) := by decide +kernel
theorem dX9_greatestDivisor_35 : decode cX9_greatestDivisor 35 = .ok (.ireturn, 1) := by decide +kernel
theorem dX10_init_0 : decode cX10_init 0 = .ok (.aload_n 0, 1) := by decide +kernel
theorem dX10_init_1 : decode cX10_init 1 = .ok (.invokespecial 3, 3) := by decide +kernel
theorem dX10_init_4 : decode cX10_init 4 = .ok (.aload_n 0, 1) := by decide +kernel
theorem dX10_init_5 : decode cX10_init 5 = .ok (.bipush 6, 2) := by decide +kernel
theorem dX10_init_7 : decode cX10_init 7 = .ok (.putfield 9, 3) := by decide +kernel
theorem dX10_init_10 : decode cX10_init 10 = .ok (.aload_n 0, 1) := by decide +kernel
theorem dX10_init_11 : decode cX10_init 11 = .ok (.iconst 3, 1) := by decide +kernel
theorem dX10_init_12 : decode cX10_init 12 = .ok (.putfield 15, 3) := by decide +kernel
theorem dX10_init_15 : decode cX10_init 15 = .ok (.aload_n 0, 1) := by decide +kernel
theorem dX10_init_16 : decode cX10_init 16 = .ok (.iconst 2, 1) := by decide +kernel
theorem dX10_init_17 : decode cX10_init 17 = .ok (.putfield 18, 3) := by decide +kernel
theorem dX10_init_20 : decode cX10_init 20 = .ok (.aload_n 0, 1) := by decide +kernel
theorem dX10_init_21 : decode cX10_init 21 = .ok (.bipush 56, 2) := by decide +kernel
theorem dX10_init_23 : decode cX10_init 23 = .ok (.newarray .int, 2) := by decide +kernel
theorem dX10_init_25 : decode cX10_init 25 = .ok (.putfield 21, 3) := by decide +kernel
theorem dX10_init_28 : decode cX10_init 28 = .ok (.aload_n 0, 1) := by decide +kernel
theorem dX10_init_29 : decode cX10_init 29 = .ok (.sipush 256, 3) := by decide +kernel
theorem dX10_init_32 : decode cX10_init 32 = .ok (.newarray .int, 2) := by decide +kernel
theorem dX10_init_34 : decode cX10_init 34 = .ok (.putfield 25, 3) := by decide +kernel
theorem dX10_init_37 : decode cX10_init 37 = .ok (.aload_n 0, 1) := by decide +kernel
theorem dX10_init_38 : decode cX10_init 38 = .ok (.bipush 56, 2) := by decide +kernel
theorem dX10_init_40 : decode cX10_init 40 = .ok (.newarray .int, 2) := by decide +kernel
theorem dX10_init_42 : decode cX10_init 42 = .ok (.putfield 28, 3) := by decide +kernel
theorem dX10_init_45 : decode cX10_init 45 = .ok (.aload_n 0, 1) := by decide +kernel
theorem dX10_init_46 : decode cX10_init 46 = .ok (.bipush 56, 2) := by decide +kernel
theorem dX10_init_48 : decode cX10_init 48 = .ok (.newarray .int, 2) := by decide +kernel
theorem dX10_init_50 : decode cX10_init 50 = .ok (.putfield 31, 3) := by decide +kernel
theorem dX10_init_53 : decode cX10_init 53 = .ok (.aload_n 0, 1) := by decide +kernel
theorem dX10_init_54 : decode cX10_init 54 = .ok (.bipush 56, 2) := by decide +kernel
theorem dX10_init_56 : decode cX10_init 56 = .ok (.newarray .int, 2) := by decide +kernel
theorem dX10_init_58 : decode cX10_init 58 = .ok (.putfield 34, 3) := by decide +kernel
theorem dX10_init_61 : decode cX10_init 61 = .ok (.aload_n 0, 1) := by decide +kernel
theorem dX10_init_62 : decode cX10_init 62 = .ok (.iconst 4, 1) := by decide +kernel
theorem dX10_init_63 : decode cX10_init 63 = .ok (.newarray .int, 2) := by decide +kernel
theorem dX10_init_65 : decode cX10_init 65 = .ok (.putfield 37, 3) := by decide +kernel
theorem dX10_init_68 : decode cX10_init 68 = .ok (.aload_n 0, 1) := by decide +kernel
theorem dX10_init_69 : decode cX10_init 69 = .ok (.iconst 4, 1) := by decide +kernel
theorem dX10_init_70 : decode cX10_init 70 = .ok (.newarray .int, 2) := by decide +kernel
theorem dX10_init_72 : decode cX10_init 72 = .ok (.putfield 40, 3) := by decide +kernel
theorem dX10_init_75 : decode cX10_init 75 = .ok (.aload_n 0, 1) := by decide +kernel
theorem dX10_init_76 : decode cX10_init 76 = .ok (.bipush 8, 2) := by decide +kernel
theorem dX10_init_78 : decode cX10_init 78 = .ok (.newarray .int, 2) := by decide +kernel
theorem dX10_init_80 : decode cX10_init 80 = .ok (.putfield 43, 3) := by decide +kernel
theorem dX10_init_83 : decode cX10_init 83 = .ok (.aload_n 0, 1) := by decide +kernel
theorem dX10_init_84 : decode cX10_init 84 = .ok (.bipush 8, 2) := by decide +kernel
theorem dX10_init_86 : decode cX10_init 86 = .ok (.newarray .int, 2) := by decide +kernel
theorem dX10_init_88 : decode cX10_init 88 = .ok (.putfield 46, 3) := by decide +kernel
theorem dX10_init_91 : decode cX10_init 91 = .ok (.aload_n 0, 1) := by decide +kernel
theorem dX10_init_92 : decode cX10_init 92 = .ok (.bipush 8, 2) := by decide +kernel
theorem dX10_init_94 : decode cX10_init 94 = .ok (.newarray .int, 2) := by decide +kernel
theorem dX10_init_96 : decode cX10_init 96 = .ok (.putfield 49, 3) := by decide +kernel
theorem dX10_init_99 : decode cX10_init 99 = .ok (.aload_n 0, 1) := by decide +kernel
theorem dX10_init_100 : decode cX10_init 100 = .ok (.bipush 8, 2) := by decide +kernel
theorem dX10_init_102 : decode cX10_init 102 = .ok (.newarray .int, 2) := by decide +kernel
theorem dX10_init_104 : decode cX10_init 104 = .ok (.putfield 52, 3) := by decide +kernel
theorem dX10_init_107 : decode cX10_init 107 = .ok (.aload_n 0, 1) := by decide +kernel
theorem dX10_init_108 : decode cX10_init 108 = .ok (.bipush 100, 2) := by decide +kernel
theorem dX10_init_110 : decode cX10_init 110 = .ok (.newarray .int, 2) := by decide +kernel
theorem dX10_init_112 : decode cX10_init 112 = .ok (.putfield 55, 3) := by decide +kernel
theorem dX10_init_115 : decode cX10_init 115 = .ok (.aload_n 0, 1) := by decide +kernel
theorem dX10_init_116 : decode cX10_init 116 = .ok (.bipush 12, 2) := by decide +kernel
theorem dX10_init_118 : decode cX10_init 118 = .ok (.newarray .int, 2) := by decide +kernel
theorem dX10_init_120 : decode cX10_init 120 = .ok (.putfield 58, 3) := by decide +kernel
theorem dX10_init_123 : decode cX10_init 123 = .ok (.aload_n 0, 1) := by decide +kernel
theorem dX10_init_124 : decode cX10_init 124 = .ok (.bipush 36, 2) := by decide +kernel
theorem dX10_init_126 : decode cX10_init 126 = .ok (.newarray .int, 2) := by decide +kernel
theorem dX10_init_128 : decode cX10_init 128 = .ok (.putfield 61, 3) := by decide +kernel
theorem dX10_init_131 : decode cX10_init 131 = .ok (.aload_n 0, 1) := by decide +kernel
theorem dX10_init_132 : decode cX10_init 132 = .ok (.sipush 360, 3) := by decide +kernel
theorem dX10_init_135 : decode cX10_init 135 = .ok (.newarray .long, 2) := by decide +kernel
theorem dX10_init_137 : decode cX10_init 137 = .ok (.putfield 64, 3) := by decide +kernel
theorem dX10_init_140 : decode cX10_init 140 = .ok (.aload_n 0, 1) := by decide +kernel
theorem dX10_init_141 : decode cX10_init 141 = .ok (.bipush 6, 2) := by decide +kernel
theorem dX10_init_143 : decode cX10_init 143 = .ok (.newarray .int, 2) := by decide +kernel
theorem dX10_init_145 : decode cX10_init 145 = .ok (.dup, 1) := by decide +kernel
theorem dX10_init_146 : decode cX10_init 146 = .ok (.iconst 0, 1) := by decide +kernel
theorem dX10_init_147 : decode cX10_init 147 = .ok (.iconst (-1), 1) := by decide +kernel
theorem dX10_init_148 : decode cX10_init 148 = .ok (.iastore, 1) := by decide +kernel
theorem dX10_init_149 : decode cX10_init 149 = .ok (.dup, 1) := by decide +kernel
theorem dX10_init_150 : decode cX10_init 150 = .ok (.iconst 1, 1) := by decide +kernel
theorem dX10_init_151 : decode cX10_init 151 = .ok (.iconst (-1), 1) := by decide +kernel
theorem dX10_init_152 : decode cX10_init 152 = .ok (.iastore, 1) := by decide +kernel
theorem dX10_init_153 : decode cX10_init 153 = .ok (.dup, 1) := by decide +kernel
theorem dX10_init_154 : decode cX10_init 154 = .ok (.iconst 2, 1) := by decide +kernel
theorem dX10_init_155 : decode cX10_init 155 = .ok (.iconst (-1), 1) := by decide +kernel
theorem dX10_init_156 : decode cX10_init 156 = .ok (.iastore, 1) := by decide +kernel
theorem dX10_init_157 : decode cX10_init 157 = .ok (.dup, 1) := by decide +kernel
theorem dX10_init_158 : decode cX10_init 158 = .ok (.iconst 3, 1) := by decide +kernel
theorem dX10_init_159 : decode cX10_init 159 = .ok (.iconst (-1), 1) := by decide +kernel
theorem dX10_init_160 : decode cX10_init 160 = .ok (.iastore, 1) := by decide +kernel
theorem dX10_init_161 : decode cX10_init 161 = .ok (.dup, 1) := by decide +kernel
theorem dX10_init_162 : decode cX10_init 162 = .ok (.iconst 4, 1) := by decide +kernel
theorem dX10_init_163 : decode cX10_init 163 = .ok (.iconst (-1), 1) := by decide +kernel
theorem dX10_init_164 : decode cX10_init 164 = .ok (.iastore, 1) := by decide +kernel
theorem dX10_init_165 : decode cX10_init 165 = .ok (.dup, 1) := by decide +kernel
theorem dX10_init_166 : decode cX10_init 166 = .ok (.iconst 5, 1) := by decide +kernel
theorem dX10_init_167 : decode cX10_init 167 = .ok (.iconst (-1), 1) := by decide +kernel
theorem dX10_init_168 : decode cX10_init 168 = .ok (.iastore, 1) := by decide +kernel
theorem dX10_init_169 : decode cX10_init 169 = .ok (.putfield 68, 3) := by decide +kernel
theorem dX10_init_172 : decode cX10_init 172 = .ok (.aload_n 0, 1) := by decide +kernel
theorem dX10_init_173 : decode cX10_init 173 = .ok (.bipush 6, 2) := by decide +kernel
theorem dX10_init_175 : decode cX10_init 175 = .ok (.newarray .int, 2) := by decide +kernel
theorem dX10_init_177 : decode cX10_init 177 = .ok (.putfield 71, 3) := by decide +kernel
theorem dX10_init_180 : decode cX10_init 180 = .ok (.aload_n 0, 1) := by decide +kernel
theorem dX10_init_181 : decode cX10_init 181 = .ok (.sipush 220, 3) := by decide +kernel
theorem dX10_init_184 : decode cX10_init 184 = .ok (.newarray .int, 2) := by decide +kernel
theorem dX10_init_186 : decode cX10_init 186 = .ok (.putfield 74, 3) := by decide +kernel
theorem dX10_init_189 : decode cX10_init 189 = .ok (.aload_n 0, 1) := by decide +kernel
theorem dX10_init_190 : decode cX10_init 190 = .ok (.sipush 220, 3) := by decide +kernel
theorem dX10_init_193 : decode cX10_init 193 = .ok (.newarray .int, 2) := by decide +kernel
theorem dX10_init_195 : decode cX10_init 195 = .ok (.putfield 77, 3) := by decide +kernel
theorem dX10_init_198 : decode cX10_init 198 = .ok (.aload_n 0, 1) := by decide +kernel
theorem dX10_init_199 : decode cX10_init 199 = .ok (.bipush 56, 2) := by decide +kernel
theorem dX10_init_201 : decode cX10_init 201 = .ok (.newarray .int, 2) := by decide +kernel
theorem dX10_init_203 : decode cX10_init 203 = .ok (.putfield 80, 3) := by decide +kernel
theorem dX10_init_206 : decode cX10_init 206 = .ok (.aload_n 0, 1) := by decide +kernel
theorem dX10_init_207 : decode cX10_init 207 = .ok (.bipush 8, 2) := by decide +kernel
theorem dX10_init_209 : decode cX10_init 209 = .ok (.newarray .int, 2) := by decide +kernel
theorem dX10_init_211 : decode cX10_init 211 = .ok (.putfield 83, 3) := by decide +kernel
theorem dX10_init_214 : decode cX10_init 214 = .ok (.aload_n 0, 1) := by decide +kernel
theorem dX10_init_215 : decode cX10_init 215 = .ok (.bipush 56, 2) := by decide +kernel
theorem dX10_init_217 : decode cX10_init 217 = .ok (.newarray .int, 2) := by decide +kernel
theorem dX10_init_219 : decode cX10_init 219 = .ok (.putfield 86, 3) := by decide +kernel
theorem dX10_init_222 : decode cX10_init 222 = .ok (.aload_n 0, 1) := by decide +kernel
theorem dX10_init_223 : decode cX10_init 223 = .ok (.sipush 600, 3) := by decide +kernel
theorem dX10_init_226 : decode cX10_init 226 = .ok (.newarray .int, 2) := by decide +kernel
theorem dX10_init_228 : decode cX10_init 228 = .ok (.putfield 89, 3) := by decide +kernel
theorem dX10_init_231 : decode cX10_init 231 = .ok (.aload_n 0, 1) := by decide +kernel
theorem dX10_init_232 : decode cX10_init 232 = .ok (.bipush 56, 2) := by decide +kernel
theorem dX10_init_234 : decode cX10_init 234 = .ok (.newarray .int, 2) := by decide +kernel
theorem dX10_init_236 : decode cX10_init 236 = .ok (.putfield 92, 3) := by decide +kernel
theorem dX10_init_239 : decode cX10_init 239 = .ok (.aload_n 0, 1) := by decide +kernel
theorem dX10_init_240 : decode cX10_init 240 = .ok (.bipush 56, 2) := by decide +kernel
theorem dX10_init_242 : decode cX10_init 242 = .ok (.newarray .int, 2) := by decide +kernel
theorem dX10_init_244 : decode cX10_init 244 = .ok (.putfield 95, 3) := by decide +kernel
theorem dX10_init_247 : decode cX10_init 247 = .ok (.aload_n 0, 1) := by decide +kernel
theorem dX10_init_248 : decode cX10_init 248 = .ok (.sipush 1536, 3) := by decide +kernel
theorem dX10_init_251 : decode cX10_init 251 = .ok (.newarray .int, 2) := by decide +kernel
theorem dX10_init_253 : decode cX10_init 253 = .ok (.putfield 98, 3) := by decide +kernel
theorem dX10_init_256 : decode cX10_init 256 = .ok (.aload_n 0, 1) := by decide +kernel
theorem dX10_init_257 : decode cX10_init 257 = .ok (.invokevirtual 101, 3) := by decide +kernel
theorem dX10_init_260 : decode cX10_init 260 = .ok (.return_, 1) := by decide +kernel
theorem dX10_in_0 : decode cX10_in 0 = .ok (.lload_n 0, 1) := by decide +kernel
theorem dX10_in_1 : decode cX10_in 1 = .ok (.lload_n 2, 1) := by decide +kernel
theorem dX10_in_2 : decode cX10_in 2 = .ok (.lcmp, 1) := by decide +kernel
theorem dX10_in_3 : decode cX10_in 3 = .ok (.ifCond .lt 14, 3) := by decide +kernel
theorem dX10_in_6 : decode cX10_in 6 = .ok (.lload_n 0, 1) := by decide +kernel
theorem dX10_in_7 : decode cX10_in 7 = .ok (.lload 4, 2) := by decide +kernel
theorem dX10_in_9 : decode cX10_in 9 = .ok (.lcmp, 1) := by decide +kernel
theorem dX10_in_10 : decode cX10_in 10 = .ok (.ifCond .gt 7, 3) := by decide +kernel
theorem dX10_in_13 : decode cX10_in 13 = .ok (.iconst 1, 1) := by decide +kernel
theorem dX10_in_14 : decode cX10_in 14 = .ok (.goto 4, 3) := by decide +kernel
theorem dX10_in_17 : decode cX10_in 17 = .ok (.iconst 0, 1) := by decide +kernel
theorem dX10_in_18 : decode cX10_in 18 = .ok (.ireturn, 1) := by decide +kernel
theorem dX10_size_0 : decode cX10_size 0 = .ok (.iload_n 0, 1) := by decide +kernel
theorem dX10_size_1 : decode cX10_size 1 = .ok (.invokestatic 104, 3) := by decide +kernel
theorem dX10_size_4 : decode cX10_size 4 = .ok (.ireturn, 1) := by decide +kernel
theorem dX10_lists_0 : decode cX10_lists 0 = .ok (.aload_n 0, 1) := by decide +kernel
theorem dX10_lists_1 : decode cX10_lists 1 = .ok (.iconst 0, 1) := by decide +kernel
theorem dX10_lists_2 : decode cX10_lists 2 = .ok (.putfield 110, 3) := by decide +kernel
theorem dX10_lists_5 : decode cX10_lists 5 = .ok (.iconst 0, 1) := by decide +kernel
theorem dX10_lists_6 : decode cX10_lists 6 = .ok (.istore_n 1, 1) := by decide +kernel
theorem dX10_lists_7 : decode cX10_lists 7 = .ok (.iload_n 1, 1) := by decide +kernel
theorem dX10_lists_8 : decode cX10_lists 8 = .ok (.sipush 256, 3) := by decide +kernel
theorem dX10_lists_11 : decode cX10_lists 11 = .ok (.if_icmp .ge 68, 3) := by decide +kernel
theorem dX10_lists_14 : decode cX10_lists 14 = .ok (.aload_n 0, 1) := by decide +kernel
theorem dX10_lists_15 : decode cX10_lists 15 = .ok (.getfield 25, 3) := by decide +kernel
theorem dX10_lists_18 : decode cX10_lists 18 = .ok (.iload_n 1, 1) := by decide +kernel
theorem dX10_lists_19 : decode cX10_lists 19 = .ok (.bipush (-5), 2) := by decide +kernel
theorem dX10_lists_21 : decode cX10_lists 21 = .ok (.iastore, 1) := by decide +kernel
theorem dX10_lists_22 : decode cX10_lists 22 = .ok (.iload_n 1, 1) := by decide +kernel
theorem dX10_lists_23 : decode cX10_lists 23 = .ok (.iconst 1, 1) := by decide +kernel
theorem dX10_lists_24 : decode cX10_lists 24 = .ok (.aload_n 0, 1) := by decide +kernel
theorem dX10_lists_25 : decode cX10_lists 25 = .ok (.getfield 9, 3) := by decide +kernel
theorem dX10_lists_28 : decode cX10_lists 28 = .ok (.ishl, 1) := by decide +kernel
theorem dX10_lists_29 : decode cX10_lists 29 = .ok (.if_icmp .ge 44, 3) := by decide +kernel
theorem dX10_lists_32 : decode cX10_lists 32 = .ok (.iload_n 1, 1) := by decide +kernel
theorem dX10_lists_33 : decode cX10_lists 33 = .ok (.invokestatic 113, 3) := by decide +kernel
theorem dX10_lists_36 : decode cX10_lists 36 = .ok (.aload_n 0, 1) := by decide +kernel
theorem dX10_lists_37 : decode cX10_lists 37 = .ok (.getfield 15, 3) := by decide +kernel
theorem dX10_lists_40 : decode cX10_lists 40 = .ok (.if_icmp .eq 6, 3) := by decide +kernel
theorem dX10_lists_43 : decode cX10_lists 43 = .ok (.goto 30, 3) := by decide +kernel
theorem dX10_lists_46 : decode cX10_lists 46 = .ok (.aload_n 0, 1) := by decide +kernel
theorem dX10_lists_47 : decode cX10_lists 47 = .ok (.getfield 25, 3) := by decide +kernel
theorem dX10_lists_50 : decode cX10_lists 50 = .ok (.iload_n 1, 1) := by decide +kernel
theorem dX10_lists_51 : decode cX10_lists 51 = .ok (.aload_n 0, 1) := by decide +kernel
theorem dX10_lists_52 : decode cX10_lists 52 = .ok (.getfield 110, 3) := by decide +kernel
theorem dX10_lists_55 : decode cX10_lists 55 = .ok (.iastore, 1) := by decide +kernel
theorem dX10_lists_56 : decode cX10_lists 56 = .ok (.aload_n 0, 1) := by decide +kernel
theorem dX10_lists_57 : decode cX10_lists 57 = .ok (.getfield 21, 3) := by decide +kernel
theorem dX10_lists_60 : decode cX10_lists 60 = .ok (.aload_n 0, 1) := by decide +kernel
theorem dX10_lists_61 : decode cX10_lists 61 = .ok (.dup, 1) := by decide +kernel
theorem dX10_lists_62 : decode cX10_lists 62 = .ok (.getfield 110, 3) := by decide +kernel
theorem dX10_lists_65 : decode cX10_lists 65 = .ok (.dup_x1, 1) := by decide +kernel
theorem dX10_lists_66 : decode cX10_lists 66 = .ok (.iconst 1, 1) := by decide +kernel
theorem dX10_lists_67 : decode cX10_lists 67 = .ok (.iadd, 1) := by decide +kernel
theorem dX10_lists_68 : decode cX10_lists 68 = .ok (.putfield 110, 3) := by decide +kernel
theorem dX10_lists_71 : decode cX10_lists 71 = .ok (.iload_n 1, 1) := by decide +kernel
theorem dX10_lists_72 : decode cX10_lists 72 = .ok (.iastore, 1) := by decide +kernel
theorem dX10_lists_73 : decode cX10_lists 73 = .ok (.iinc 1 1, 3) := by decide +kernel
theorem dX10_lists_76 : decode cX10_lists 76 = .ok (.goto (-69), 3) := by decide +kernel
theorem dX10_lists_79 : decode cX10_lists 79 = .ok (.return_, 1) := by decide +kernel
theorem dX10_isBlock_0 : decode cX10_isBlock 0 = .ok (.iload_n 1, 1) := by decide +kernel
theorem dX10_isBlock_1 : decode cX10_isBlock 1 = .ok (.i2l, 1) := by decide +kernel
theorem dX10_isBlock_2 : decode cX10_isBlock 2 = .ok (.lconst 0, 1) := by decide +kernel
theorem dX10_isBlock_3 : decode cX10_isBlock 3 = .ok (.aload_n 0, 1) := by decide +kernel
theorem dX10_isBlock_4 : decode cX10_isBlock 4 = .ok (.getfield 110, 3) := by decide +kernel
theorem dX10_isBlock_7 : decode cX10_isBlock 7 = .ok (.iconst 1, 1) := by decide +kernel
theorem dX10_isBlock_8 : decode cX10_isBlock 8 = .ok (.isub, 1) := by decide +kernel
theorem dX10_isBlock_9 : decode cX10_isBlock 9 = .ok (.i2l, 1) := by decide +kernel
theorem dX10_isBlock_10 : decode cX10_isBlock 10 = .ok (.invokestatic 116, 3) := by decide +kernel
theorem dX10_isBlock_13 : decode cX10_isBlock 13 = .ok (.ireturn, 1) := by decide +kernel
theorem dX10_isPoint_0 : decode cX10_isPoint 0 = .ok (.iload_n 1, 1) := by decide +kernel
theorem dX10_isPoint_1 : decode cX10_isPoint 1 = .ok (.i2l, 1) := by decide +kernel
theorem dX10_isPoint_2 : decode cX10_isPoint 2 = .ok (.lconst 0, 1) := by decide +kernel
theorem dX10_isPoint_3 : decode cX10_isPoint 3 = .ok (.aload_n 0, 1) := by decide +kernel
theorem dX10_isPoint_4 : decode cX10_isPoint 4 = .ok (.getfield 9, 3) := by decide +kernel
theorem dX10_isPoint_7 : decode cX10_isPoint 7 = .ok (.iconst 1, 1) := by decide +kernel
theorem dX10_isPoint_8 : decode cX10_isPoint 8 = .ok (.isub, 1) := by decide +kernel
theorem dX10_isPoint_9 : decode cX10_isPoint 9 = .ok (.i2l, 1) := by decide +kernel
theorem dX10_isPoint_10 : decode cX10_isPoint 10 = .ok (.invokestatic 116, 3) := by decide +kernel
theorem dX10_isPoint_13 : decode cX10_isPoint 13 = .ok (.ireturn, 1) := by decide +kernel
theorem dX10_isSet_0 : decode cX10_isSet 0 = .ok (.iload_n 1, 1) := by decide +kernel
theorem dX10_isSet_1 : decode cX10_isSet 1 = .ok (.i2l, 1) := by decide +kernel
theorem dX10_isSet_2 : decode cX10_isSet 2 = .ok (.lconst 0, 1) := by decide +kernel
theorem dX10_isSet_3 : decode cX10_isSet 3 = .ok (.iconst 1, 1) := by decide +kernel
theorem dX10_isSet_4 : decode cX10_isSet 4 = .ok (.aload_n 0, 1) := by decide +kernel
theorem dX10_isSet_5 : decode cX10_isSet 5 = .ok (.getfield 9, 3) := by decide +kernel
theorem dX10_isSet_8 : decode cX10_isSet 8 = .ok (.ishl, 1) := by decide +kernel
theorem dX10_isSet_9 : decode cX10_isSet 9 = .ok (.iconst 1, 1) := by decide +kernel
theorem dX10_isSet_10 : decode cX10_isSet 10 = .ok (.isub, 1) := by decide +kernel
theorem dX10_isSet_11 : decode cX10_isSet 11 = .ok (.i2l, 1) := by decide +kernel
theorem dX10_isSet_12 : decode cX10_isSet 12 = .ok (.invokestatic 116, 3) := by decide +kernel
theorem dX10_isSet_15 : decode cX10_isSet 15 = .ok (.ifCond .eq 15, 3) := by decide +kernel
theorem dX10_isSet_18 : decode cX10_isSet 18 = .ok (.iload_n 1, 1) := by decide +kernel
theorem dX10_isSet_19 : decode cX10_isSet 19 = .ok (.invokestatic 113, 3) := by decide +kernel
theorem dX10_isSet_22 : decode cX10_isSet 22 = .ok (.iload_n 2, 1) := by decide +kernel
theorem dX10_isSet_23 : decode cX10_isSet 23 = .ok (.if_icmp .gt 7, 3) := by decide +kernel
theorem dX10_isSet_26 : decode cX10_isSet 26 = .ok (.iconst 1, 1) := by decide +kernel
theorem dX10_isSet_27 : decode cX10_isSet 27 = .ok (.goto 4, 3) := by decide +kernel
theorem dX10_isSet_30 : decode cX10_isSet 30 = .ok (.iconst 0, 1) := by decide +kernel
theorem dX10_isSet_31 : decode cX10_isSet 31 = .ok (.ireturn, 1) := by decide +kernel
theorem dX10_isSize_0 : decode cX10_isSize 0 = .ok (.iload_n 0, 1) := by decide +kernel
theorem dX10_isSize_1 : decode cX10_isSize 1 = .ok (.i2l, 1) := by decide +kernel
theorem dX10_isSize_2 : decode cX10_isSize 2 = .ok (.ldc2_w 120, 3) := by decide +kernel
theorem dX10_isSize_5 : decode cX10_isSize 5 = .ok (.ldc2_w 122, 3) := by decide +kernel
theorem dX10_isSize_8 : decode cX10_isSize 8 = .ok (.invokestatic 116, 3) := by decide +kernel
theorem dX10_isSize_11 : decode cX10_isSize 11 = .ok (.ifCond .eq 34, 3) := by decide +kernel
theorem dX10_isSize_14 : decode cX10_isSize 14 = .ok (.iload_n 1, 1) := by decide +kernel
theorem dX10_isSize_15 : decode cX10_isSize 15 = .ok (.i2l, 1) := by decide +kernel
theorem dX10_isSize_16 : decode cX10_isSize 16 = .ok (.ldc2_w 124, 3) := by decide +kernel
theorem dX10_isSize_19 : decode cX10_isSize 19 = .ok (.ldc2_w 126, 3) := by decide +kernel
theorem dX10_isSize_22 : decode cX10_isSize 22 = .ok (.invokestatic 116, 3) := by decide +kernel
theorem dX10_isSize_25 : decode cX10_isSize 25 = .ok (.ifCond .eq 20, 3) := by decide +kernel
theorem dX10_isSize_28 : decode cX10_isSize 28 = .ok (.iload_n 2, 1) := by decide +kernel
theorem dX10_isSize_29 : decode cX10_isSize 29 = .ok (.i2l, 1) := by decide +kernel
theorem dX10_isSize_30 : decode cX10_isSize 30 = .ok (.lconst 1, 1) := by decide +kernel
theorem dX10_isSize_31 : decode cX10_isSize 31 = .ok (.iload_n 1, 1) := by decide +kernel
theorem dX10_isSize_32 : decode cX10_isSize 32 = .ok (.iconst 1, 1) := by decide +kernel
theorem dX10_isSize_33 : decode cX10_isSize 33 = .ok (.isub, 1) := by decide +kernel
theorem dX10_isSize_34 : decode cX10_isSize 34 = .ok (.i2l, 1) := by decide +kernel
theorem dX10_isSize_35 : decode cX10_isSize 35 = .ok (.invokestatic 116, 3) := by decide +kernel
theorem dX10_isSize_38 : decode cX10_isSize 38 = .ok (.ifCond .eq 7, 3) := by decide +kernel
theorem dX10_isSize_41 : decode cX10_isSize 41 = .ok (.iconst 1, 1) := by decide +kernel
theorem dX10_isSize_42 : decode cX10_isSize 42 = .ok (.goto 4, 3) := by decide +kernel
theorem dX10_isSize_45 : decode cX10_isSize 45 = .ok (.iconst 0, 1) := by decide +kernel
theorem dX10_isSize_46 : decode cX10_isSize 46 = .ok (.ireturn, 1) := by decide +kernel
theorem dX10_shape_0 : decode cX10_shape 0 = .ok (.bipush 100, 2) := by decide +kernel
theorem dX10_shape_2 : decode cX10_shape 2 = .ok (.aload_n 0, 1) := by decide +kernel
theorem dX10_shape_3 : decode cX10_shape 3 = .ok (.getfield 9, 3) := by decide +kernel
theorem dX10_shape_6 : decode cX10_shape 6 = .ok (.imul, 1) := by decide +kernel
theorem dX10_shape_7 : decode cX10_shape 7 = .ok (.bipush 10, 2) := by decide +kernel
theorem dX10_shape_9 : decode cX10_shape 9 = .ok (.aload_n 0, 1) := by decide +kernel
theorem dX10_shape_10 : decode cX10_shape 10 = .ok (.getfield 15, 3) := by decide +kernel
theorem dX10_shape_13 : decode cX10_shape 13 = .ok (.imul, 1) := by decide +kernel
theorem dX10_shape_14 : decode cX10_shape 14 = .ok (.iadd, 1) := by decide +kernel
theorem dX10_shape_15 : decode cX10_shape 15 = .ok (.aload_n 0, 1) := by decide +kernel
theorem dX10_shape_16 : decode cX10_shape 16 = .ok (.getfield 18, 3) := by decide +kernel
theorem dX10_shape_19 : decode cX10_shape 19 = .ok (.iadd, 1) := by decide +kernel
theorem dX10_shape_20 : decode cX10_shape 20 = .ok (.ireturn, 1) := by decide +kernel
theorem dX10_becomes_0 : decode cX10_becomes 0 = .ok (.aload_n 0, 1) := by decide +kernel
theorem dX10_becomes_1 : decode cX10_becomes 1 = .ok (.iload_n 1, 1) := by decide +kernel
theorem dX10_becomes_2 : decode cX10_becomes 2 = .ok (.putfield 9, 3) := by decide +kernel
theorem dX10_becomes_5 : decode cX10_becomes 5 = .ok (.aload_n 0, 1) := by decide +kernel
theorem dX10_becomes_6 : decode cX10_becomes 6 = .ok (.iload_n 2, 1) := by decide +kernel
theorem dX10_becomes_7 : decode cX10_becomes 7 = .ok (.putfield 15, 3) := by decide +kernel
theorem dX10_becomes_10 : decode cX10_becomes 10 = .ok (.aload_n 0, 1) := by decide +kernel
theorem dX10_becomes_11 : decode cX10_becomes 11 = .ok (.iload_n 3, 1) := by decide +kernel
theorem dX10_becomes_12 : decode cX10_becomes 12 = .ok (.putfield 18, 3) := by decide +kernel
theorem dX10_becomes_15 : decode cX10_becomes 15 = .ok (.aload_n 0, 1) := by decide +kernel
theorem dX10_becomes_16 : decode cX10_becomes 16 = .ok (.invokevirtual 101, 3) := by decide +kernel
theorem dX10_becomes_19 : decode cX10_becomes 19 = .ok (.iconst 0, 1) := by decide +kernel
theorem dX10_becomes_20 : decode cX10_becomes 20 = .ok (.istore 4, 2) := by decide +kernel
theorem dX10_becomes_22 : decode cX10_becomes 22 = .ok (.iload 4, 2) := by decide +kernel
theorem dX10_becomes_24 : decode cX10_becomes 24 = .ok (.bipush 56, 2) := by decide +kernel
theorem dX10_becomes_26 : decode cX10_becomes 26 = .ok (.if_icmp .ge 33, 3) := by decide +kernel
theorem dX10_becomes_29 : decode cX10_becomes 29 = .ok (.aload_n 0, 1) := by decide +kernel
theorem dX10_becomes_30 : decode cX10_becomes 30 = .ok (.getfield 28, 3) := by decide +kernel
theorem dX10_becomes_33 : decode cX10_becomes 33 = .ok (.iload 4, 2) := by decide +kernel
theorem dX10_becomes_35 : decode cX10_becomes 35 = .ok (.iconst 0, 1) := by decide +kernel
theorem dX10_becomes_36 : decode cX10_becomes 36 = .ok (.iastore, 1) := by decide +kernel
theorem dX10_becomes_37 : decode cX10_becomes 37 = .ok (.aload_n 0, 1) := by decide +kernel
theorem dX10_becomes_38 : decode cX10_becomes 38 = .ok (.getfield 31, 3) := by decide +kernel
theorem dX10_becomes_41 : decode cX10_becomes 41 = .ok (.iload 4, 2) := by decide +kernel
theorem dX10_becomes_43 : decode cX10_becomes 43 = .ok (.iconst 0, 1) := by decide +kernel
theorem dX10_becomes_44 : decode cX10_becomes 44 = .ok (.iastore, 1) := by decide +kernel
theorem dX10_becomes_45 : decode cX10_becomes 45 = .ok (.aload_n 0, 1) := by decide +kernel
theorem dX10_becomes_46 : decode cX10_becomes 46 = .ok (.getfield 34, 3) := by decide +kernel
theorem dX10_becomes_49 : decode cX10_becomes 49 = .ok (.iload 4, 2) := by decide +kernel
theorem dX10_becomes_51 : decode cX10_becomes 51 = .ok (.iconst 0, 1) := by decide +kernel
theorem dX10_becomes_52 : decode cX10_becomes 52 = .ok (.iastore, 1) := by decide +kernel
theorem dX10_becomes_53 : decode cX10_becomes 53 = .ok (.iinc 4 1, 3) := by decide +kernel
theorem dX10_becomes_56 : decode cX10_becomes 56 = .ok (.goto (-34), 3) := by decide +kernel
theorem dX10_becomes_59 : decode cX10_becomes 59 = .ok (.return_, 1) := by decide +kernel
theorem dX10_size__0 : decode cX10_size_ 0 = .ok (.iload_n 1, 1) := by decide +kernel
theorem dX10_size__1 : decode cX10_size_ 1 = .ok (.iload_n 2, 1) := by decide +kernel
theorem dX10_size__2 : decode cX10_size_ 2 = .ok (.iload_n 3, 1) := by decide +kernel
theorem dX10_size__3 : decode cX10_size_ 3 = .ok (.invokestatic 128, 3) := by decide +kernel
theorem dX10_size__6 : decode cX10_size_ 6 = .ok (.ifCond .ne 6, 3) := by decide +kernel
theorem dX10_size__9 : decode cX10_size_ 9 = .ok (.bipush (-2), 2) := by decide +kernel
theorem dX10_size__11 : decode cX10_size_ 11 = .ok (.ireturn, 1) := by decide +kernel
theorem dX10_size__12 : decode cX10_size_ 12 = .ok (.aload_n 0, 1) := by decide +kernel
theorem dX10_size__13 : decode cX10_size_ 13 = .ok (.invokevirtual 132, 3) := by decide +kernel
theorem dX10_size__16 : decode cX10_size_ 16 = .ok (.istore 4, 2) := by decide +kernel
theorem dX10_size__18 : decode cX10_size_ 18 = .ok (.aload_n 0, 1) := by decide +kernel
theorem dX10_size__19 : decode cX10_size_ 19 = .ok (.iload_n 1, 1) := by decide +kernel
theorem dX10_size__20 : decode cX10_size_ 20 = .ok (.iload_n 2, 1) := by decide +kernel
theorem dX10_size__21 : decode cX10_size_ 21 = .ok (.iload_n 3, 1) := by decide +kernel
theorem dX10_size__22 : decode cX10_size_ 22 = .ok (.invokevirtual 136, 3) := by decide +kernel
theorem dX10_size__25 : decode cX10_size_ 25 = .ok (.iload 4, 2) := by decide +kernel
theorem dX10_size__27 : decode cX10_size_ 27 = .ok (.ireturn, 1) := by decide +kernel
theorem dX10_count_0 : decode cX10_count 0 = .ok (.aload_n 0, 1) := by decide +kernel
theorem dX10_count_1 : decode cX10_count 1 = .ok (.iload_n 1, 1) := by decide +kernel
theorem dX10_count_2 : decode cX10_count 2 = .ok (.invokevirtual 140, 3) := by decide +kernel
theorem dX10_count_5 : decode cX10_count 5 = .ok (.ifCond .ne 5, 3) := by decide +kernel
theorem dX10_count_8 : decode cX10_count 8 = .ok (.iconst (-1), 1) := by decide +kernel
theorem dX10_count_9 : decode cX10_count 9 = .ok (.ireturn, 1) := by decide +kernel
theorem dX10_count_10 : decode cX10_count 10 = .ok (.iload_n 2, 1) := by decide +kernel
theorem dX10_count_11 : decode cX10_count 11 = .ok (.i2l, 1) := by decide +kernel
theorem dX10_count_12 : decode cX10_count 12 = .ok (.ldc2_w 144, 3) := by decide +kernel
theorem dX10_count_15 : decode cX10_count 15 = .ok (.ldc2_w 146, 3) := by decide +kernel
theorem dX10_count_18 : decode cX10_count 18 = .ok (.invokestatic 116, 3) := by decide +kernel
theorem dX10_count_21 : decode cX10_count 21 = .ok (.ifCond .ne 6, 3) := by decide +kernel
theorem dX10_count_24 : decode cX10_count 24 = .ok (.bipush (-2), 2) := by decide +kernel
theorem dX10_count_26 : decode cX10_count 26 = .ok (.ireturn, 1) := by decide +kernel
theorem dX10_count_27 : decode cX10_count 27 = .ok (.aload_n 0, 1) := by decide +kernel
theorem dX10_count_28 : decode cX10_count 28 = .ok (.getfield 28, 3) := by decide +kernel
theorem dX10_count_31 : decode cX10_count 31 = .ok (.iload_n 1, 1) := by decide +kernel
theorem dX10_count_32 : decode cX10_count 32 = .ok (.iaload, 1) := by decide +kernel
theorem dX10_count_33 : decode cX10_count 33 = .ok (.istore_n 3, 1) := by decide +kernel
theorem dX10_count_34 : decode cX10_count 34 = .ok (.aload_n 0, 1) := by decide +kernel
theorem dX10_count_35 : decode cX10_count 35 = .ok (.getfield 28, 3) := by decide +kernel
theorem dX10_count_38 : decode cX10_count 38 = .ok (.iload_n 1, 1) := by decide +kernel
theorem dX10_count_39 : decode cX10_count 39 = .ok (.iload_n 2, 1) := by decide +kernel
theorem dX10_count_40 : decode cX10_count 40 = .ok (.iastore, 1) := by decide +kernel
theorem dX10_count_41 : decode cX10_count 41 = .ok (.iload_n 3, 1) := by decide +kernel
theorem dX10_count_42 : decode cX10_count 42 = .ok (.bipush 100, 2) := by decide +kernel
theorem dX10_count_44 : decode cX10_count 44 = .ok (.iadd, 1) := by decide +kernel
theorem dX10_count_45 : decode cX10_count 45 = .ok (.ireturn, 1) := by decide +kernel
theorem dX10_volume_0 : decode cX10_volume 0 = .ok (.iconst 0, 1) := by decide +kernel
theorem dX10_volume_1 : decode cX10_volume 1 = .ok (.istore_n 1, 1) := by decide +kernel
theorem dX10_volume_2 : decode cX10_volume 2 = .ok (.iconst 0, 1) := by decide +kernel
theorem dX10_volume_3 : decode cX10_volume 3 = .ok (.istore_n 2, 1) := by decide +kernel
theorem dX10_volume_4 : decode cX10_volume 4 = .ok (.iload_n 2, 1) := by decide +kernel
theorem dX10_volume_5 : decode cX10_volume 5 = .ok (.aload_n 0, 1) := by decide +kernel
theorem dX10_volume_6 : decode cX10_volume 6 = .ok (.getfield 110, 3) := by decide +kernel
theorem dX10_volume_9 : decode cX10_volume 9 = .ok (.if_icmp .ge 22, 3) := by decide +kernel
theorem dX10_volume_12 : decode cX10_volume 12 = .ok (.iload_n 1, 1) := by decide +kernel
theorem dX10_volume_13 : decode cX10_volume 13 = .ok (.iconst 0, 1) := by decide +kernel
theorem dX10_volume_14 : decode cX10_volume 14 = .ok (.aload_n 0, 1) := by decide +kernel
theorem dX10_volume_15 : decode cX10_volume 15 = .ok (.getfield 28, 3) := by decide +kernel
theorem dX10_volume_18 : decode cX10_volume 18 = .ok (.iload_n 2, 1) := by decide +kernel
theorem dX10_volume_19 : decode cX10_volume 19 = .ok (.iaload, 1) := by decide +kernel
theorem dX10_volume_20 : decode cX10_volume 20 = .ok (.invokestatic 148, 3) := by decide +kernel
theorem dX10_volume_23 : decode cX10_volume 23 = .ok (.iadd, 1) := by decide +kernel
theorem dX10_volume_24 : decode cX10_volume 24 = .ok (.istore_n 1, 1) := by decide +kernel
theorem dX10_volume_25 : decode cX10_volume 25 = .ok (.iinc 2 1, 3) := by decide +kernel
theorem dX10_volume_28 : decode cX10_volume 28 = .ok (.goto (-24), 3) := by decide +kernel
theorem dX10_volume_31 : decode cX10_volume 31 = .ok (.iload_n 1, 1) := by decide +kernel
theorem dX10_volume_32 : decode cX10_volume 32 = .ok (.ireturn, 1) := by decide +kernel
theorem dX10_twists_0 : decode cX10_twists 0 = .ok (.aload_n 0, 1) := by decide +kernel
theorem dX10_twists_1 : decode cX10_twists 1 = .ok (.getfield 18, 3) := by decide +kernel
theorem dX10_twists_4 : decode cX10_twists 4 = .ok (.aload_n 0, 1) := by decide +kernel
theorem dX10_twists_5 : decode cX10_twists 5 = .ok (.getfield 15, 3) := by decide +kernel
theorem dX10_twists_8 : decode cX10_twists 8 = .ok (.iadd, 1) := by decide +kernel
theorem dX10_twists_9 : decode cX10_twists 9 = .ok (.iconst 1, 1) := by decide +kernel
theorem dX10_twists_10 : decode cX10_twists 10 = .ok (.iadd, 1) := by decide +kernel
theorem dX10_twists_11 : decode cX10_twists 11 = .ok (.istore_n 2, 1) := by decide +kernel
theorem dX10_twists_12 : decode cX10_twists 12 = .ok (.iload_n 1, 1) := by decide +kernel
theorem dX10_twists_13 : decode cX10_twists 13 = .ok (.istore_n 3, 1) := by decide +kernel
theorem dX10_twists_14 : decode cX10_twists 14 = .ok (.iconst 0, 1) := by decide +kernel
theorem dX10_twists_15 : decode cX10_twists 15 = .ok (.istore 4, 2) := by decide +kernel
theorem dX10_twists_17 : decode cX10_twists 17 = .ok (.iload_n 2, 1) := by decide +kernel
theorem dX10_twists_18 : decode cX10_twists 18 = .ok (.iconst 1, 1) := by decide +kernel
theorem dX10_twists_19 : decode cX10_twists 19 = .ok (.isub, 1) := by decide +kernel
theorem dX10_twists_20 : decode cX10_twists 20 = .ok (.istore 5, 2) := by decide +kernel
theorem dX10_twists_22 : decode cX10_twists 22 = .ok (.iload 5, 2) := by decide +kernel
theorem dX10_twists_24 : decode cX10_twists 24 = .ok (.ifCond .lt 62, 3) := by decide +kernel
theorem dX10_twists_27 : decode cX10_twists 27 = .ok (.iload_n 3, 1) := by decide +kernel
theorem dX10_twists_28 : decode cX10_twists 28 = .ok (.bipush 10, 2) := by decide +kernel
theorem dX10_twists_30 : decode cX10_twists 30 = .ok (.irem, 1) := by decide +kernel
theorem dX10_twists_31 : decode cX10_twists 31 = .ok (.iconst 1, 1) := by decide +kernel
theorem dX10_twists_32 : decode cX10_twists 32 = .ok (.isub, 1) := by decide +kernel
theorem dX10_twists_33 : decode cX10_twists 33 = .ok (.istore 6, 2) := by decide +kernel
theorem dX10_twists_35 : decode cX10_twists 35 = .ok (.iload_n 3, 1) := by decide +kernel
theorem dX10_twists_36 : decode cX10_twists 36 = .ok (.bipush 10, 2) := by decide +kernel
theorem dX10_twists_38 : decode cX10_twists 38 = .ok (.idiv, 1) := by decide +kernel
theorem dX10_twists_39 : decode cX10_twists 39 = .ok (.istore_n 3, 1) := by decide +kernel
theorem dX10_twists_40 : decode cX10_twists 40 = .ok (.aload_n 0, 1) := by decide +kernel
theorem dX10_twists_41 : decode cX10_twists 41 = .ok (.iload 6, 2) := by decide +kernel
theorem dX10_twists_43 : decode cX10_twists 43 = .ok (.invokevirtual 154, 3) := by decide +kernel
theorem dX10_twists_46 : decode cX10_twists 46 = .ok (.ifCond .eq 14, 3) := by decide +kernel
theorem dX10_twists_49 : decode cX10_twists 49 = .ok (.iload 4, 2) := by decide +kernel
theorem dX10_twists_51 : decode cX10_twists 51 = .ok (.iload 6, 2) := by decide +kernel
theorem dX10_twists_53 : decode cX10_twists 53 = .ok (.ishr, 1) := by decide +kernel
theorem dX10_twists_54 : decode cX10_twists 54 = .ok (.iconst 1, 1) := by decide +kernel
theorem dX10_twists_55 : decode cX10_twists 55 = .ok (.iand, 1) := by decide +kernel
theorem dX10_twists_56 : decode cX10_twists 56 = .ok (.iconst 1, 1) := by decide +kernel
theorem dX10_twists_57 : decode cX10_twists 57 = .ok (.if_icmp .ne 5, 3) := by decide +kernel
theorem dX10_twists_60 : decode cX10_twists 60 = .ok (.iconst 0, 1) := by decide +kernel
theorem dX10_twists_61 : decode cX10_twists 61 = .ok (.ireturn, 1) := by decide +kernel
theorem dX10_twists_62 : decode cX10_twists 62 = .ok (.iload 4, 2) := by decide +kernel
theorem dX10_twists_64 : decode cX10_twists 64 = .ok (.iconst 1, 1) := by decide +kernel
theorem dX10_twists_65 : decode cX10_twists 65 = .ok (.iload 6, 2) := by decide +kernel
theorem dX10_twists_67 : decode cX10_twists 67 = .ok (.ishl, 1) := by decide +kernel
theorem dX10_twists_68 : decode cX10_twists 68 = .ok (.ior, 1) := by decide +kernel
theorem dX10_twists_69 : decode cX10_twists 69 = .ok (.istore 4, 2) := by decide +kernel
theorem dX10_twists_71 : decode cX10_twists 71 = .ok (.aload_n 0, 1) := by decide +kernel
theorem dX10_twists_72 : decode cX10_twists 72 = .ok (.getfield 83, 3) := by decide +kernel
theorem dX10_twists_75 : decode cX10_twists 75 = .ok (.iload 5, 2) := by decide +kernel
theorem dX10_twists_77 : decode cX10_twists 77 = .ok (.iload 6, 2) := by decide +kernel
theorem dX10_twists_79 : decode cX10_twists 79 = .ok (.iastore, 1) := by decide +kernel
theorem dX10_twists_80 : decode cX10_twists 80 = .ok (.iinc 5 (-1), 3) := by decide +kernel
theorem dX10_twists_83 : decode cX10_twists 83 = .ok (.goto (-61), 3) := by decide +kernel
theorem dX10_twists_86 : decode cX10_twists 86 = .ok (.iload_n 3, 1) := by decide +kernel
theorem dX10_twists_87 : decode cX10_twists 87 = .ok (.ifCond .eq 5, 3) := by decide +kernel
theorem dX10_twists_90 : decode cX10_twists 90 = .ok (.iconst 0, 1) := by decide +kernel
theorem dX10_twists_91 : decode cX10_twists 91 = .ok (.ireturn, 1) := by decide +kernel
theorem dX10_twists_92 : decode cX10_twists 92 = .ok (.iconst 0, 1) := by decide +kernel
theorem dX10_twists_93 : decode cX10_twists 93 = .ok (.istore 5, 2) := by decide +kernel
theorem dX10_twists_95 : decode cX10_twists 95 = .ok (.iload 5, 2) := by decide +kernel
theorem dX10_twists_97 : decode cX10_twists 97 = .ok (.aload_n 0, 1) := by decide +kernel
theorem dX10_twists_98 : decode cX10_twists 98 = .ok (.getfield 110, 3) := by decide +kernel
theorem dX10_twists_101 : decode cX10_twists 101 = .ok (.if_icmp .ge 17, 3) := by decide +kernel
theorem dX10_twists_104 : decode cX10_twists 104 = .ok (.aload_n 0, 1) := by decide +kernel
theorem dX10_twists_105 : decode cX10_twists 105 = .ok (.getfield 80, 3) := by decide +kernel
theorem dX10_twists_108 : decode cX10_twists 108 = .ok (.iload 5, 2) := by decide +kernel
theorem dX10_twists_110 : decode cX10_twists 110 = .ok (.iconst 0, 1) := by decide +kernel
theorem dX10_twists_111 : decode cX10_twists 111 = .ok (.iastore, 1) := by decide +kernel
theorem dX10_twists_112 : decode cX10_twists 112 = .ok (.iinc 5 1, 3) := by decide +kernel
theorem dX10_twists_115 : decode cX10_twists 115 = .ok (.goto (-20), 3) := by decide +kernel
theorem dX10_twists_118 : decode cX10_twists 118 = .ok (.iconst 0, 1) := by decide +kernel
theorem dX10_twists_119 : decode cX10_twists 119 = .ok (.istore 5, 2) := by decide +kernel
theorem dX10_twists_121 : decode cX10_twists 121 = .ok (.iconst 2, 1) := by decide +kernel
theorem dX10_twists_122 : decode cX10_twists 122 = .ok (.aload_n 0, 1) := by decide +kernel
theorem dX10_twists_123 : decode cX10_twists 123 = .ok (.getfield 18, 3) := by decide +kernel
theorem dX10_twists_126 : decode cX10_twists 126 = .ok (.imul, 1) := by decide +kernel
theorem dX10_twists_127 : decode cX10_twists 127 = .ok (.iconst 2, 1) := by decide +kernel
theorem dX10_twists_128 : decode cX10_twists 128 = .ok (.iadd, 1) := by decide +kernel
theorem dX10_twists_129 : decode cX10_twists 129 = .ok (.istore 6, 2) := by decide +kernel
theorem dX10_twists_131 : decode cX10_twists 131 = .ok (.iload 6, 2) := by decide +kernel
theorem dX10_twists_133 : decode cX10_twists 133 = .ok (.iload_n 2, 1) := by decide +kernel
theorem dX10_twists_134 : decode cX10_twists 134 = .ok (.if_icmp .ge 23, 3) := by decide +kernel
theorem dX10_twists_137 : decode cX10_twists 137 = .ok (.iload 5, 2) := by decide +kernel
theorem dX10_twists_139 : decode cX10_twists 139 = .ok (.iconst 1, 1) := by decide +kernel
theorem dX10_twists_140 : decode cX10_twists 140 = .ok (.aload_n 0, 1) := by decide +kernel
theorem dX10_twists_141 : decode cX10_twists 141 = .ok (.getfield 83, 3) := by decide +kernel
theorem dX10_twists_144 : decode cX10_twists 144 = .ok (.iload 6, 2) := by decide +kernel
theorem dX10_twists_146 : decode cX10_twists 146 = .ok (.iaload, 1) := by decide +kernel
theorem dX10_twists_147 : decode cX10_twists 147 = .ok (.ishl, 1) := by decide +kernel
theorem dX10_twists_148 : decode cX10_twists 148 = .ok (.ior, 1) := by decide +kernel
theorem dX10_twists_149 : decode cX10_twists 149 = .ok (.istore 5, 2) := by decide +kernel
theorem dX10_twists_151 : decode cX10_twists 151 = .ok (.iinc 6 1, 3) := by decide +kernel
theorem dX10_twists_154 : decode cX10_twists 154 = .ok (.goto (-23), 3) := by decide +kernel
theorem dX10_twists_157 : decode cX10_twists 157 = .ok (.iconst 0, 1) := by decide +kernel
theorem dX10_twists_158 : decode cX10_twists 158 = .ok (.istore 6, 2) := by decide +kernel
theorem dX10_twists_160 : decode cX10_twists 160 = .ok (.iload 6, 2) := by decide +kernel
theorem dX10_twists_162 : decode cX10_twists 162 = .ok (.iconst 1, 1) := by decide +kernel
theorem dX10_twists_163 : decode cX10_twists 163 = .ok (.aload_n 0, 1) := by decide +kernel
theorem dX10_twists_164 : decode cX10_twists 164 = .ok (.getfield 18, 3) := by decide +kernel
theorem dX10_twists_167 : decode cX10_twists 167 = .ok (.iconst 1, 1) := by decide +kernel
theorem dX10_twists_168 : decode cX10_twists 168 = .ok (.iadd, 1) := by decide +kernel
theorem dX10_twists_169 : decode cX10_twists 169 = .ok (.ishl, 1) := by decide +kernel
theorem dX10_twists_170 : decode cX10_twists 170 = .ok (.if_icmp .ge 82, 3) := by decide +kernel
theorem dX10_twists_173 : decode cX10_twists 173 = .ok (.iload 5, 2) := by decide +kernel
theorem dX10_twists_175 : decode cX10_twists 175 = .ok (.istore 7, 2) := by decide +kernel
theorem dX10_twists_177 : decode cX10_twists 177 = .ok (.iconst 0, 1) := by decide +kernel
theorem dX10_twists_178 : decode cX10_twists 178 = .ok (.istore 8, 2) := by decide +kernel
theorem dX10_twists_180 : decode cX10_twists 180 = .ok (.iload 8, 2) := by decide +kernel
theorem dX10_twists_182 : decode cX10_twists 182 = .ok (.aload_n 0, 1) := by decide +kernel
theorem dX10_twists_183 : decode cX10_twists 183 = .ok (.getfield 18, 3) := by decide +kernel
theorem dX10_twists_186 : decode cX10_twists 186 = .ok (.if_icmp .gt 33, 3) := by decide +kernel
theorem dX10_twists_189 : decode cX10_twists 189 = .ok (.iload 7, 2) := by decide +kernel
theorem dX10_twists_191 : decode cX10_twists 191 = .ok (.iconst 1, 1) := by decide +kernel
theorem dX10_twists_192 : decode cX10_twists 192 = .ok (.aload_n 0, 1) := by decide +kernel
theorem dX10_twists_193 : decode cX10_twists 193 = .ok (.getfield 83, 3) := by decide +kernel
theorem dX10_twists_196 : decode cX10_twists 196 = .ok (.iconst 2, 1) := by decide +kernel
theorem dX10_twists_197 : decode cX10_twists 197 = .ok (.iload 8, 2) := by decide +kernel
theorem dX10_twists_199 : decode cX10_twists 199 = .ok (.imul, 1) := by decide +kernel
theorem dX10_twists_200 : decode cX10_twists 200 = .ok (.iload 6, 2) := by decide +kernel
theorem dX10_twists_202 : decode cX10_twists 202 = .ok (.iload 8, 2) := by decide +kernel
theorem dX10_twists_204 : decode cX10_twists 204 = .ok (.ishr, 1) := by decide +kernel
theorem dX10_twists_205 : decode cX10_twists 205 = .ok (.iconst 1, 1) := by decide +kernel
theorem dX10_twists_206 : decode cX10_twists 206 = .ok (.iand, 1) := by decide +kernel
theorem dX10_twists_207 : decode cX10_twists 207 = .ok (.iadd, 1) := by decide +kernel
theorem dX10_twists_208 : decode cX10_twists 208 = .ok (.iaload, 1) := by decide +kernel
theorem dX10_twists_209 : decode cX10_twists 209 = .ok (.ishl, 1) := by decide +kernel
theorem dX10_twists_210 : decode cX10_twists 210 = .ok (.ior, 1) := by decide +kernel
theorem dX10_twists_211 : decode cX10_twists 211 = .ok (.istore 7, 2) := by decide +kernel
theorem dX10_twists_213 : decode cX10_twists 213 = .ok (.iinc 8 1, 3) := by decide +kernel
theorem dX10_twists_216 : decode cX10_twists 216 = .ok (.goto (-36), 3) := by decide +kernel
theorem dX10_twists_219 : decode cX10_twists 219 = .ok (.aload_n 0, 1) := by decide +kernel
theorem dX10_twists_220 : decode cX10_twists 220 = .ok (.getfield 80, 3) := by decide +kernel
theorem dX10_twists_223 : decode cX10_twists 223 = .ok (.aload_n 0, 1) := by decide +kernel
theorem dX10_twists_224 : decode cX10_twists 224 = .ok (.getfield 25, 3) := by decide +kernel
theorem dX10_twists_227 : decode cX10_twists 227 = .ok (.iload 7, 2) := by decide +kernel
theorem dX10_twists_229 : decode cX10_twists 229 = .ok (.iaload, 1) := by decide +kernel
theorem dX10_twists_230 : decode cX10_twists 230 = .ok (.iload 6, 2) := by decide +kernel
theorem dX10_twists_232 : decode cX10_twists 232 = .ok (.invokestatic 113, 3) := by decide +kernel
theorem dX10_twists_235 : decode cX10_twists 235 = .ok (.iconst 2, 1) := by decide +kernel
theorem dX10_twists_236 : decode cX10_twists 236 = .ok (.irem, 1) := by decide +kernel
theorem dX10_twists_237 : decode cX10_twists 237 = .ok (.ifCond .ne 7, 3) := by decide +kernel
theorem dX10_twists_240 : decode cX10_twists 240 = .ok (.iconst 1, 1) := by decide +kernel
theorem dX10_twists_241 : decode cX10_twists 241 = .ok (.goto 4, 3) := by decide +kernel
theorem dX10_twists_244 : decode cX10_twists 244 = .ok (.iconst (-1), 1) := by decide +kernel
theorem dX10_twists_245 : decode cX10_twists 245 = .ok (.iastore, 1) := by decide +kernel
theorem dX10_twists_246 : decode cX10_twists 246 = .ok (.iinc 6 1, 3) := by decide +kernel
theorem dX10_twists_249 : decode cX10_twists 249 = .ok (.goto (-89), 3) := by decide +kernel
theorem dX10_twists_252 : decode cX10_twists 252 = .ok (.iconst 1, 1) := by decide +kernel
theorem dX10_twists_253 : decode cX10_twists 253 = .ok (.ireturn, 1) := by decide +kernel
