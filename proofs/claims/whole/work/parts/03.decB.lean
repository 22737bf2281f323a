theorem dX10_adds_0 : decode cX10_adds 0 = .ok (.iconst 0, 1) := by decide +kernel
theorem dX10_adds_1 : decode cX10_adds 1 = .ok (.istore_n 2, 1) := by decide +kernel
theorem dX10_adds_2 : decode cX10_adds 2 = .ok (.iload_n 2, 1) := by decide +kernel
theorem dX10_adds_3 : decode cX10_adds 3 = .ok (.aload_n 0, 1) := by decide +kernel
theorem dX10_adds_4 : decode cX10_adds 4 = .ok (.getfield 110, 3) := by decide +kernel
theorem dX10_adds_7 : decode cX10_adds 7 = .ok (.if_icmp .ge 39, 3) := by decide +kernel
theorem dX10_adds_10 : decode cX10_adds 10 = .ok (.aload_n 0, 1) := by decide +kernel
theorem dX10_adds_11 : decode cX10_adds 11 = .ok (.getfield 28, 3) := by decide +kernel
theorem dX10_adds_14 : decode cX10_adds 14 = .ok (.iload_n 2, 1) := by decide +kernel
theorem dX10_adds_15 : decode cX10_adds 15 = .ok (.iaload, 1) := by decide +kernel
theorem dX10_adds_16 : decode cX10_adds 16 = .ok (.iload_n 1, 1) := by decide +kernel
theorem dX10_adds_17 : decode cX10_adds 17 = .ok (.aload_n 0, 1) := by decide +kernel
theorem dX10_adds_18 : decode cX10_adds 18 = .ok (.getfield 80, 3) := by decide +kernel
theorem dX10_adds_21 : decode cX10_adds 21 = .ok (.iload_n 2, 1) := by decide +kernel
theorem dX10_adds_22 : decode cX10_adds 22 = .ok (.iaload, 1) := by decide +kernel
theorem dX10_adds_23 : decode cX10_adds 23 = .ok (.imul, 1) := by decide +kernel
theorem dX10_adds_24 : decode cX10_adds 24 = .ok (.iadd, 1) := by decide +kernel
theorem dX10_adds_25 : decode cX10_adds 25 = .ok (.i2l, 1) := by decide +kernel
theorem dX10_adds_26 : decode cX10_adds 26 = .ok (.ldc2_w 144, 3) := by decide +kernel
theorem dX10_adds_29 : decode cX10_adds 29 = .ok (.ldc2_w 146, 3) := by decide +kernel
theorem dX10_adds_32 : decode cX10_adds 32 = .ok (.invokestatic 116, 3) := by decide +kernel
theorem dX10_adds_35 : decode cX10_adds 35 = .ok (.ifCond .ne 5, 3) := by decide +kernel
theorem dX10_adds_38 : decode cX10_adds 38 = .ok (.iconst 0, 1) := by decide +kernel
theorem dX10_adds_39 : decode cX10_adds 39 = .ok (.ireturn, 1) := by decide +kernel
theorem dX10_adds_40 : decode cX10_adds 40 = .ok (.iinc 2 1, 3) := by decide +kernel
theorem dX10_adds_43 : decode cX10_adds 43 = .ok (.goto (-41), 3) := by decide +kernel
theorem dX10_adds_46 : decode cX10_adds 46 = .ok (.iconst 0, 1) := by decide +kernel
theorem dX10_adds_47 : decode cX10_adds 47 = .ok (.istore_n 2, 1) := by decide +kernel
theorem dX10_adds_48 : decode cX10_adds 48 = .ok (.iload_n 2, 1) := by decide +kernel
theorem dX10_adds_49 : decode cX10_adds 49 = .ok (.aload_n 0, 1) := by decide +kernel
theorem dX10_adds_50 : decode cX10_adds 50 = .ok (.getfield 110, 3) := by decide +kernel
theorem dX10_adds_53 : decode cX10_adds 53 = .ok (.if_icmp .ge 26, 3) := by decide +kernel
theorem dX10_adds_56 : decode cX10_adds 56 = .ok (.aload_n 0, 1) := by decide +kernel
theorem dX10_adds_57 : decode cX10_adds 57 = .ok (.getfield 28, 3) := by decide +kernel
theorem dX10_adds_60 : decode cX10_adds 60 = .ok (.iload_n 2, 1) := by decide +kernel
theorem dX10_adds_61 : decode cX10_adds 61 = .ok (.dup2, 1) := by decide +kernel
theorem dX10_adds_62 : decode cX10_adds 62 = .ok (.iaload, 1) := by decide +kernel
theorem dX10_adds_63 : decode cX10_adds 63 = .ok (.iload_n 1, 1) := by decide +kernel
theorem dX10_adds_64 : decode cX10_adds 64 = .ok (.aload_n 0, 1) := by decide +kernel
theorem dX10_adds_65 : decode cX10_adds 65 = .ok (.getfield 80, 3) := by decide +kernel
theorem dX10_adds_68 : decode cX10_adds 68 = .ok (.iload_n 2, 1) := by decide +kernel
theorem dX10_adds_69 : decode cX10_adds 69 = .ok (.iaload, 1) := by decide +kernel
theorem dX10_adds_70 : decode cX10_adds 70 = .ok (.imul, 1) := by decide +kernel
theorem dX10_adds_71 : decode cX10_adds 71 = .ok (.iadd, 1) := by decide +kernel
theorem dX10_adds_72 : decode cX10_adds 72 = .ok (.iastore, 1) := by decide +kernel
theorem dX10_adds_73 : decode cX10_adds 73 = .ok (.iinc 2 1, 3) := by decide +kernel
theorem dX10_adds_76 : decode cX10_adds 76 = .ok (.goto (-28), 3) := by decide +kernel
theorem dX10_adds_79 : decode cX10_adds 79 = .ok (.iconst 1, 1) := by decide +kernel
theorem dX10_adds_80 : decode cX10_adds 80 = .ok (.ireturn, 1) := by decide +kernel
theorem dX10_twist_0 : decode cX10_twist 0 = .ok (.aload_n 0, 1) := by decide +kernel
theorem dX10_twist_1 : decode cX10_twist 1 = .ok (.iload_n 1, 1) := by decide +kernel
theorem dX10_twist_2 : decode cX10_twist 2 = .ok (.invokevirtual 157, 3) := by decide +kernel
theorem dX10_twist_5 : decode cX10_twist 5 = .ok (.ifCond .eq 21, 3) := by decide +kernel
theorem dX10_twist_8 : decode cX10_twist 8 = .ok (.iload_n 2, 1) := by decide +kernel
theorem dX10_twist_9 : decode cX10_twist 9 = .ok (.i2l, 1) := by decide +kernel
theorem dX10_twist_10 : decode cX10_twist 10 = .ok (.ldc2_w 160, 3) := by decide +kernel
theorem dX10_twist_13 : decode cX10_twist 13 = .ok (.ldc2_w 162, 3) := by decide +kernel
theorem dX10_twist_16 : decode cX10_twist 16 = .ok (.invokestatic 116, 3) := by decide +kernel
theorem dX10_twist_19 : decode cX10_twist 19 = .ok (.ifCond .eq 7, 3) := by decide +kernel
theorem dX10_twist_22 : decode cX10_twist 22 = .ok (.iload_n 2, 1) := by decide +kernel
theorem dX10_twist_23 : decode cX10_twist 23 = .ok (.ifCond .ne 6, 3) := by decide +kernel
theorem dX10_twist_26 : decode cX10_twist 26 = .ok (.bipush (-2), 2) := by decide +kernel
theorem dX10_twist_28 : decode cX10_twist 28 = .ok (.ireturn, 1) := by decide +kernel
theorem dX10_twist_29 : decode cX10_twist 29 = .ok (.aload_n 0, 1) := by decide +kernel
theorem dX10_twist_30 : decode cX10_twist 30 = .ok (.iload_n 2, 1) := by decide +kernel
theorem dX10_twist_31 : decode cX10_twist 31 = .ok (.invokevirtual 164, 3) := by decide +kernel
theorem dX10_twist_34 : decode cX10_twist 34 = .ok (.ifCond .eq 10, 3) := by decide +kernel
theorem dX10_twist_37 : decode cX10_twist 37 = .ok (.aload_n 0, 1) := by decide +kernel
theorem dX10_twist_38 : decode cX10_twist 38 = .ok (.invokevirtual 167, 3) := by decide +kernel
theorem dX10_twist_41 : decode cX10_twist 41 = .ok (.goto 5, 3) := by decide +kernel
theorem dX10_twist_44 : decode cX10_twist 44 = .ok (.bipush (-3), 2) := by decide +kernel
theorem dX10_twist_46 : decode cX10_twist 46 = .ok (.ireturn, 1) := by decide +kernel
theorem dX10_turn_0 : decode cX10_turn 0 = .ok (.iconst 0, 1) := by decide +kernel
theorem dX10_turn_1 : decode cX10_turn 1 = .ok (.istore_n 1, 1) := by decide +kernel
theorem dX10_turn_2 : decode cX10_turn 2 = .ok (.iload_n 1, 1) := by decide +kernel
theorem dX10_turn_3 : decode cX10_turn 3 = .ok (.aload_n 0, 1) := by decide +kernel
theorem dX10_turn_4 : decode cX10_turn 4 = .ok (.getfield 110, 3) := by decide +kernel
theorem dX10_turn_7 : decode cX10_turn 7 = .ok (.if_icmp .ge 22, 3) := by decide +kernel
theorem dX10_turn_10 : decode cX10_turn 10 = .ok (.aload_n 0, 1) := by decide +kernel
theorem dX10_turn_11 : decode cX10_turn 11 = .ok (.getfield 28, 3) := by decide +kernel
theorem dX10_turn_14 : decode cX10_turn 14 = .ok (.iload_n 1, 1) := by decide +kernel
theorem dX10_turn_15 : decode cX10_turn 15 = .ok (.aload_n 0, 1) := by decide +kernel
theorem dX10_turn_16 : decode cX10_turn 16 = .ok (.getfield 28, 3) := by decide +kernel
theorem dX10_turn_19 : decode cX10_turn 19 = .ok (.iload_n 1, 1) := by decide +kernel
theorem dX10_turn_20 : decode cX10_turn 20 = .ok (.iaload, 1) := by decide +kernel
theorem dX10_turn_21 : decode cX10_turn 21 = .ok (.ineg, 1) := by decide +kernel
theorem dX10_turn_22 : decode cX10_turn 22 = .ok (.iastore, 1) := by decide +kernel
theorem dX10_turn_23 : decode cX10_turn 23 = .ok (.iinc 1 1, 3) := by decide +kernel
theorem dX10_turn_26 : decode cX10_turn 26 = .ok (.goto (-24), 3) := by decide +kernel
theorem dX10_turn_29 : decode cX10_turn 29 = .ok (.aload_n 0, 1) := by decide +kernel
theorem dX10_turn_30 : decode cX10_turn 30 = .ok (.invokevirtual 167, 3) := by decide +kernel
theorem dX10_turn_33 : decode cX10_turn 33 = .ok (.ireturn, 1) := by decide +kernel
theorem dX10_clear_0 : decode cX10_clear 0 = .ok (.iconst 0, 1) := by decide +kernel
theorem dX10_clear_1 : decode cX10_clear 1 = .ok (.istore_n 1, 1) := by decide +kernel
theorem dX10_clear_2 : decode cX10_clear 2 = .ok (.iconst 0, 1) := by decide +kernel
theorem dX10_clear_3 : decode cX10_clear 3 = .ok (.istore_n 2, 1) := by decide +kernel
theorem dX10_clear_4 : decode cX10_clear 4 = .ok (.iload_n 2, 1) := by decide +kernel
theorem dX10_clear_5 : decode cX10_clear 5 = .ok (.aload_n 0, 1) := by decide +kernel
theorem dX10_clear_6 : decode cX10_clear 6 = .ok (.getfield 110, 3) := by decide +kernel
theorem dX10_clear_9 : decode cX10_clear 9 = .ok (.if_icmp .ge 28, 3) := by decide +kernel
theorem dX10_clear_12 : decode cX10_clear 12 = .ok (.aload_n 0, 1) := by decide +kernel
theorem dX10_clear_13 : decode cX10_clear 13 = .ok (.getfield 28, 3) := by decide +kernel
theorem dX10_clear_16 : decode cX10_clear 16 = .ok (.iload_n 2, 1) := by decide +kernel
theorem dX10_clear_17 : decode cX10_clear 17 = .ok (.iaload, 1) := by decide +kernel
theorem dX10_clear_18 : decode cX10_clear 18 = .ok (.ifCond .eq 6, 3) := by decide +kernel
theorem dX10_clear_21 : decode cX10_clear 21 = .ok (.iinc 1 1, 3) := by decide +kernel
theorem dX10_clear_24 : decode cX10_clear 24 = .ok (.aload_n 0, 1) := by decide +kernel
theorem dX10_clear_25 : decode cX10_clear 25 = .ok (.getfield 28, 3) := by decide +kernel
theorem dX10_clear_28 : decode cX10_clear 28 = .ok (.iload_n 2, 1) := by decide +kernel
theorem dX10_clear_29 : decode cX10_clear 29 = .ok (.iconst 0, 1) := by decide +kernel
theorem dX10_clear_30 : decode cX10_clear 30 = .ok (.iastore, 1) := by decide +kernel
theorem dX10_clear_31 : decode cX10_clear 31 = .ok (.iinc 2 1, 3) := by decide +kernel
theorem dX10_clear_34 : decode cX10_clear 34 = .ok (.goto (-30), 3) := by decide +kernel
theorem dX10_clear_37 : decode cX10_clear 37 = .ok (.iload_n 1, 1) := by decide +kernel
theorem dX10_clear_38 : decode cX10_clear 38 = .ok (.ireturn, 1) := by decide +kernel
theorem dX10_put_0 : decode cX10_put 0 = .ok (.aload_n 0, 1) := by decide +kernel
theorem dX10_put_1 : decode cX10_put 1 = .ok (.iload_n 1, 1) := by decide +kernel
theorem dX10_put_2 : decode cX10_put 2 = .ok (.invokevirtual 140, 3) := by decide +kernel
theorem dX10_put_5 : decode cX10_put 5 = .ok (.ifCond .ne 5, 3) := by decide +kernel
theorem dX10_put_8 : decode cX10_put 8 = .ok (.iconst (-1), 1) := by decide +kernel
theorem dX10_put_9 : decode cX10_put 9 = .ok (.ireturn, 1) := by decide +kernel
theorem dX10_put_10 : decode cX10_put 10 = .ok (.iload_n 2, 1) := by decide +kernel
theorem dX10_put_11 : decode cX10_put 11 = .ok (.i2l, 1) := by decide +kernel
theorem dX10_put_12 : decode cX10_put 12 = .ok (.lconst 0, 1) := by decide +kernel
theorem dX10_put_13 : decode cX10_put 13 = .ok (.lconst 1, 1) := by decide +kernel
theorem dX10_put_14 : decode cX10_put 14 = .ok (.invokestatic 116, 3) := by decide +kernel
theorem dX10_put_17 : decode cX10_put 17 = .ok (.ifCond .ne 6, 3) := by decide +kernel
theorem dX10_put_20 : decode cX10_put 20 = .ok (.bipush (-2), 2) := by decide +kernel
theorem dX10_put_22 : decode cX10_put 22 = .ok (.ireturn, 1) := by decide +kernel
theorem dX10_put_23 : decode cX10_put 23 = .ok (.aload_n 0, 1) := by decide +kernel
theorem dX10_put_24 : decode cX10_put 24 = .ok (.getfield 31, 3) := by decide +kernel
theorem dX10_put_27 : decode cX10_put 27 = .ok (.iload_n 1, 1) := by decide +kernel
theorem dX10_put_28 : decode cX10_put 28 = .ok (.iaload, 1) := by decide +kernel
theorem dX10_put_29 : decode cX10_put 29 = .ok (.istore_n 3, 1) := by decide +kernel
theorem dX10_put_30 : decode cX10_put 30 = .ok (.aload_n 0, 1) := by decide +kernel
theorem dX10_put_31 : decode cX10_put 31 = .ok (.getfield 31, 3) := by decide +kernel
theorem dX10_put_34 : decode cX10_put 34 = .ok (.iload_n 1, 1) := by decide +kernel
theorem dX10_put_35 : decode cX10_put 35 = .ok (.iload_n 2, 1) := by decide +kernel
theorem dX10_put_36 : decode cX10_put 36 = .ok (.iastore, 1) := by decide +kernel
theorem dX10_put_37 : decode cX10_put 37 = .ok (.iload_n 3, 1) := by decide +kernel
theorem dX10_put_38 : decode cX10_put 38 = .ok (.ireturn, 1) := by decide +kernel
theorem dX10_inDesign_0 : decode cX10_inDesign 0 = .ok (.iconst 0, 1) := by decide +kernel
theorem dX10_inDesign_1 : decode cX10_inDesign 1 = .ok (.istore_n 1, 1) := by decide +kernel
theorem dX10_inDesign_2 : decode cX10_inDesign 2 = .ok (.iconst 0, 1) := by decide +kernel
theorem dX10_inDesign_3 : decode cX10_inDesign 3 = .ok (.istore_n 2, 1) := by decide +kernel
theorem dX10_inDesign_4 : decode cX10_inDesign 4 = .ok (.iload_n 2, 1) := by decide +kernel
theorem dX10_inDesign_5 : decode cX10_inDesign 5 = .ok (.aload_n 0, 1) := by decide +kernel
theorem dX10_inDesign_6 : decode cX10_inDesign 6 = .ok (.getfield 110, 3) := by decide +kernel
theorem dX10_inDesign_9 : decode cX10_inDesign 9 = .ok (.if_icmp .ge 18, 3) := by decide +kernel
theorem dX10_inDesign_12 : decode cX10_inDesign 12 = .ok (.iload_n 1, 1) := by decide +kernel
theorem dX10_inDesign_13 : decode cX10_inDesign 13 = .ok (.aload_n 0, 1) := by decide +kernel
theorem dX10_inDesign_14 : decode cX10_inDesign 14 = .ok (.getfield 31, 3) := by decide +kernel
theorem dX10_inDesign_17 : decode cX10_inDesign 17 = .ok (.iload_n 2, 1) := by decide +kernel
theorem dX10_inDesign_18 : decode cX10_inDesign 18 = .ok (.iaload, 1) := by decide +kernel
theorem dX10_inDesign_19 : decode cX10_inDesign 19 = .ok (.iadd, 1) := by decide +kernel
theorem dX10_inDesign_20 : decode cX10_inDesign 20 = .ok (.istore_n 1, 1) := by decide +kernel
theorem dX10_inDesign_21 : decode cX10_inDesign 21 = .ok (.iinc 2 1, 3) := by decide +kernel
theorem dX10_inDesign_24 : decode cX10_inDesign 24 = .ok (.goto (-20), 3) := by decide +kernel
theorem dX10_inDesign_27 : decode cX10_inDesign 27 = .ok (.iload_n 1, 1) := by decide +kernel
theorem dX10_inDesign_28 : decode cX10_inDesign 28 = .ok (.ireturn, 1) := by decide +kernel
theorem dX10_sumOf_0 : decode cX10_sumOf 0 = .ok (.iconst 0, 1) := by decide +kernel
theorem dX10_sumOf_1 : decode cX10_sumOf 1 = .ok (.istore_n 2, 1) := by decide +kernel
theorem dX10_sumOf_2 : decode cX10_sumOf 2 = .ok (.iconst 0, 1) := by decide +kernel
theorem dX10_sumOf_3 : decode cX10_sumOf 3 = .ok (.istore_n 3, 1) := by decide +kernel
theorem dX10_sumOf_4 : decode cX10_sumOf 4 = .ok (.iload_n 3, 1) := by decide +kernel
theorem dX10_sumOf_5 : decode cX10_sumOf 5 = .ok (.aload_n 0, 1) := by decide +kernel
theorem dX10_sumOf_6 : decode cX10_sumOf 6 = .ok (.getfield 110, 3) := by decide +kernel
theorem dX10_sumOf_9 : decode cX10_sumOf 9 = .ok (.if_icmp .ge 30, 3) := by decide +kernel
theorem dX10_sumOf_12 : decode cX10_sumOf 12 = .ok (.aload_n 0, 1) := by decide +kernel
theorem dX10_sumOf_13 : decode cX10_sumOf 13 = .ok (.getfield 21, 3) := by decide +kernel
theorem dX10_sumOf_16 : decode cX10_sumOf 16 = .ok (.iload_n 3, 1) := by decide +kernel
theorem dX10_sumOf_17 : decode cX10_sumOf 17 = .ok (.iaload, 1) := by decide +kernel
theorem dX10_sumOf_18 : decode cX10_sumOf 18 = .ok (.iload_n 1, 1) := by decide +kernel
theorem dX10_sumOf_19 : decode cX10_sumOf 19 = .ok (.iand, 1) := by decide +kernel
theorem dX10_sumOf_20 : decode cX10_sumOf 20 = .ok (.iload_n 1, 1) := by decide +kernel
theorem dX10_sumOf_21 : decode cX10_sumOf 21 = .ok (.if_icmp .ne 12, 3) := by decide +kernel
theorem dX10_sumOf_24 : decode cX10_sumOf 24 = .ok (.iload_n 2, 1) := by decide +kernel
theorem dX10_sumOf_25 : decode cX10_sumOf 25 = .ok (.aload_n 0, 1) := by decide +kernel
theorem dX10_sumOf_26 : decode cX10_sumOf 26 = .ok (.getfield 28, 3) := by decide +kernel
theorem dX10_sumOf_29 : decode cX10_sumOf 29 = .ok (.iload_n 3, 1) := by decide +kernel
theorem dX10_sumOf_30 : decode cX10_sumOf 30 = .ok (.iaload, 1) := by decide +kernel
theorem dX10_sumOf_31 : decode cX10_sumOf 31 = .ok (.iadd, 1) := by decide +kernel
theorem dX10_sumOf_32 : decode cX10_sumOf 32 = .ok (.istore_n 2, 1) := by decide +kernel
theorem dX10_sumOf_33 : decode cX10_sumOf 33 = .ok (.iinc 3 1, 3) := by decide +kernel
theorem dX10_sumOf_36 : decode cX10_sumOf 36 = .ok (.goto (-32), 3) := by decide +kernel
theorem dX10_sumOf_39 : decode cX10_sumOf 39 = .ok (.iload_n 2, 1) := by decide +kernel
theorem dX10_sumOf_40 : decode cX10_sumOf 40 = .ok (.ireturn, 1) := by decide +kernel
theorem dX10_isTrade_0 : decode cX10_isTrade 0 = .ok (.iconst 0, 1) := by decide +kernel
theorem dX10_isTrade_1 : decode cX10_isTrade 1 = .ok (.istore_n 1, 1) := by decide +kernel
theorem dX10_isTrade_2 : decode cX10_isTrade 2 = .ok (.iload_n 1, 1) := by decide +kernel
theorem dX10_isTrade_3 : decode cX10_isTrade 3 = .ok (.iconst 1, 1) := by decide +kernel
theorem dX10_isTrade_4 : decode cX10_isTrade 4 = .ok (.aload_n 0, 1) := by decide +kernel
theorem dX10_isTrade_5 : decode cX10_isTrade 5 = .ok (.getfield 9, 3) := by decide +kernel
theorem dX10_isTrade_8 : decode cX10_isTrade 8 = .ok (.ishl, 1) := by decide +kernel
theorem dX10_isTrade_9 : decode cX10_isTrade 9 = .ok (.if_icmp .ge 30, 3) := by decide +kernel
theorem dX10_isTrade_12 : decode cX10_isTrade 12 = .ok (.iload_n 1, 1) := by decide +kernel
theorem dX10_isTrade_13 : decode cX10_isTrade 13 = .ok (.invokestatic 113, 3) := by decide +kernel
theorem dX10_isTrade_16 : decode cX10_isTrade 16 = .ok (.aload_n 0, 1) := by decide +kernel
theorem dX10_isTrade_17 : decode cX10_isTrade 17 = .ok (.getfield 18, 3) := by decide +kernel
theorem dX10_isTrade_20 : decode cX10_isTrade 20 = .ok (.if_icmp .ne 13, 3) := by decide +kernel
theorem dX10_isTrade_23 : decode cX10_isTrade 23 = .ok (.aload_n 0, 1) := by decide +kernel
theorem dX10_isTrade_24 : decode cX10_isTrade 24 = .ok (.iload_n 1, 1) := by decide +kernel
theorem dX10_isTrade_25 : decode cX10_isTrade 25 = .ok (.invokevirtual 170, 3) := by decide +kernel
theorem dX10_isTrade_28 : decode cX10_isTrade 28 = .ok (.ifCond .eq 5, 3) := by decide +kernel
theorem dX10_isTrade_31 : decode cX10_isTrade 31 = .ok (.iconst 0, 1) := by decide +kernel
theorem dX10_isTrade_32 : decode cX10_isTrade 32 = .ok (.ireturn, 1) := by decide +kernel
theorem dX10_isTrade_33 : decode cX10_isTrade 33 = .ok (.iinc 1 1, 3) := by decide +kernel
theorem dX10_isTrade_36 : decode cX10_isTrade 36 = .ok (.goto (-34), 3) := by decide +kernel
theorem dX10_isTrade_39 : decode cX10_isTrade 39 = .ok (.iconst 1, 1) := by decide +kernel
theorem dX10_isTrade_40 : decode cX10_isTrade 40 = .ok (.ireturn, 1) := by decide +kernel
theorem dX10_isPlain_0 : decode cX10_isPlain 0 = .ok (.iconst 0, 1) := by decide +kernel
theorem dX10_isPlain_1 : decode cX10_isPlain 1 = .ok (.istore_n 1, 1) := by decide +kernel
theorem dX10_isPlain_2 : decode cX10_isPlain 2 = .ok (.iload_n 1, 1) := by decide +kernel
theorem dX10_isPlain_3 : decode cX10_isPlain 3 = .ok (.aload_n 0, 1) := by decide +kernel
theorem dX10_isPlain_4 : decode cX10_isPlain 4 = .ok (.getfield 110, 3) := by decide +kernel
theorem dX10_isPlain_7 : decode cX10_isPlain 7 = .ok (.if_icmp .ge 28, 3) := by decide +kernel
theorem dX10_isPlain_10 : decode cX10_isPlain 10 = .ok (.aload_n 0, 1) := by decide +kernel
theorem dX10_isPlain_11 : decode cX10_isPlain 11 = .ok (.getfield 28, 3) := by decide +kernel
theorem dX10_isPlain_14 : decode cX10_isPlain 14 = .ok (.iload_n 1, 1) := by decide +kernel
theorem dX10_isPlain_15 : decode cX10_isPlain 15 = .ok (.iaload, 1) := by decide +kernel
theorem dX10_isPlain_16 : decode cX10_isPlain 16 = .ok (.i2l, 1) := by decide +kernel
theorem dX10_isPlain_17 : decode cX10_isPlain 17 = .ok (.ldc2_w 173, 3) := by decide +kernel
theorem dX10_isPlain_20 : decode cX10_isPlain 20 = .ok (.lconst 1, 1) := by decide +kernel
theorem dX10_isPlain_21 : decode cX10_isPlain 21 = .ok (.invokestatic 116, 3) := by decide +kernel
theorem dX10_isPlain_24 : decode cX10_isPlain 24 = .ok (.ifCond .ne 5, 3) := by decide +kernel
theorem dX10_isPlain_27 : decode cX10_isPlain 27 = .ok (.iconst 0, 1) := by decide +kernel
theorem dX10_isPlain_28 : decode cX10_isPlain 28 = .ok (.ireturn, 1) := by decide +kernel
theorem dX10_isPlain_29 : decode cX10_isPlain 29 = .ok (.iinc 1 1, 3) := by decide +kernel
theorem dX10_isPlain_32 : decode cX10_isPlain 32 = .ok (.goto (-30), 3) := by decide +kernel
theorem dX10_isPlain_35 : decode cX10_isPlain 35 = .ok (.iconst 1, 1) := by decide +kernel
theorem dX10_isPlain_36 : decode cX10_isPlain 36 = .ok (.ireturn, 1) := by decide +kernel
theorem dX10_maySwap_0 : decode cX10_maySwap 0 = .ok (.aload_n 0, 1) := by decide +kernel
theorem dX10_maySwap_1 : decode cX10_maySwap 1 = .ok (.invokevirtual 175, 3) := by decide +kernel
theorem dX10_maySwap_4 : decode cX10_maySwap 4 = .ok (.ifCond .eq 10, 3) := by decide +kernel
theorem dX10_maySwap_7 : decode cX10_maySwap 7 = .ok (.aload_n 0, 1) := by decide +kernel
theorem dX10_maySwap_8 : decode cX10_maySwap 8 = .ok (.invokevirtual 179, 3) := by decide +kernel
theorem dX10_maySwap_11 : decode cX10_maySwap 11 = .ok (.ifCond .ne 5, 3) := by decide +kernel
theorem dX10_maySwap_14 : decode cX10_maySwap 14 = .ok (.iconst 0, 1) := by decide +kernel
theorem dX10_maySwap_15 : decode cX10_maySwap 15 = .ok (.ireturn, 1) := by decide +kernel
theorem dX10_maySwap_16 : decode cX10_maySwap 16 = .ok (.iconst 0, 1) := by decide +kernel
theorem dX10_maySwap_17 : decode cX10_maySwap 17 = .ok (.istore_n 1, 1) := by decide +kernel
theorem dX10_maySwap_18 : decode cX10_maySwap 18 = .ok (.iconst 0, 1) := by decide +kernel
theorem dX10_maySwap_19 : decode cX10_maySwap 19 = .ok (.istore_n 2, 1) := by decide +kernel
theorem dX10_maySwap_20 : decode cX10_maySwap 20 = .ok (.iload_n 2, 1) := by decide +kernel
theorem dX10_maySwap_21 : decode cX10_maySwap 21 = .ok (.aload_n 0, 1) := by decide +kernel
theorem dX10_maySwap_22 : decode cX10_maySwap 22 = .ok (.getfield 110, 3) := by decide +kernel
theorem dX10_maySwap_25 : decode cX10_maySwap 25 = .ok (.if_icmp .ge 67, 3) := by decide +kernel
theorem dX10_maySwap_28 : decode cX10_maySwap 28 = .ok (.aload_n 0, 1) := by decide +kernel
theorem dX10_maySwap_29 : decode cX10_maySwap 29 = .ok (.getfield 28, 3) := by decide +kernel
theorem dX10_maySwap_32 : decode cX10_maySwap 32 = .ok (.iload_n 2, 1) := by decide +kernel
theorem dX10_maySwap_33 : decode cX10_maySwap 33 = .ok (.iaload, 1) := by decide +kernel
theorem dX10_maySwap_34 : decode cX10_maySwap 34 = .ok (.iconst (-1), 1) := by decide +kernel
theorem dX10_maySwap_35 : decode cX10_maySwap 35 = .ok (.if_icmp .ne 12, 3) := by decide +kernel
theorem dX10_maySwap_38 : decode cX10_maySwap 38 = .ok (.aload_n 0, 1) := by decide +kernel
theorem dX10_maySwap_39 : decode cX10_maySwap 39 = .ok (.getfield 31, 3) := by decide +kernel
theorem dX10_maySwap_42 : decode cX10_maySwap 42 = .ok (.iload_n 2, 1) := by decide +kernel
theorem dX10_maySwap_43 : decode cX10_maySwap 43 = .ok (.iaload, 1) := by decide +kernel
theorem dX10_maySwap_44 : decode cX10_maySwap 44 = .ok (.ifCond .eq 23, 3) := by decide +kernel
theorem dX10_maySwap_47 : decode cX10_maySwap 47 = .ok (.aload_n 0, 1) := by decide +kernel
theorem dX10_maySwap_48 : decode cX10_maySwap 48 = .ok (.getfield 28, 3) := by decide +kernel
theorem dX10_maySwap_51 : decode cX10_maySwap 51 = .ok (.iload_n 2, 1) := by decide +kernel
theorem dX10_maySwap_52 : decode cX10_maySwap 52 = .ok (.iaload, 1) := by decide +kernel
theorem dX10_maySwap_53 : decode cX10_maySwap 53 = .ok (.iconst 1, 1) := by decide +kernel
theorem dX10_maySwap_54 : decode cX10_maySwap 54 = .ok (.if_icmp .ne 15, 3) := by decide +kernel
theorem dX10_maySwap_57 : decode cX10_maySwap 57 = .ok (.aload_n 0, 1) := by decide +kernel
theorem dX10_maySwap_58 : decode cX10_maySwap 58 = .ok (.getfield 31, 3) := by decide +kernel
theorem dX10_maySwap_61 : decode cX10_maySwap 61 = .ok (.iload_n 2, 1) := by decide +kernel
theorem dX10_maySwap_62 : decode cX10_maySwap 62 = .ok (.iaload, 1) := by decide +kernel
theorem dX10_maySwap_63 : decode cX10_maySwap 63 = .ok (.iconst 1, 1) := by decide +kernel
theorem dX10_maySwap_64 : decode cX10_maySwap 64 = .ok (.if_icmp .ne 5, 3) := by decide +kernel
theorem dX10_maySwap_67 : decode cX10_maySwap 67 = .ok (.iconst 0, 1) := by decide +kernel
theorem dX10_maySwap_68 : decode cX10_maySwap 68 = .ok (.ireturn, 1) := by decide +kernel
theorem dX10_maySwap_69 : decode cX10_maySwap 69 = .ok (.iload_n 1, 1) := by decide +kernel
theorem dX10_maySwap_70 : decode cX10_maySwap 70 = .ok (.aload_n 0, 1) := by decide +kernel
theorem dX10_maySwap_71 : decode cX10_maySwap 71 = .ok (.getfield 28, 3) := by decide +kernel
theorem dX10_maySwap_74 : decode cX10_maySwap 74 = .ok (.iload_n 2, 1) := by decide +kernel
theorem dX10_maySwap_75 : decode cX10_maySwap 75 = .ok (.iaload, 1) := by decide +kernel
theorem dX10_maySwap_76 : decode cX10_maySwap 76 = .ok (.ifCond .eq 7, 3) := by decide +kernel
theorem dX10_maySwap_79 : decode cX10_maySwap 79 = .ok (.iconst 1, 1) := by decide +kernel
theorem dX10_maySwap_80 : decode cX10_maySwap 80 = .ok (.goto 4, 3) := by decide +kernel
theorem dX10_maySwap_83 : decode cX10_maySwap 83 = .ok (.iconst 0, 1) := by decide +kernel
theorem dX10_maySwap_84 : decode cX10_maySwap 84 = .ok (.ior, 1) := by decide +kernel
theorem dX10_maySwap_85 : decode cX10_maySwap 85 = .ok (.istore_n 1, 1) := by decide +kernel
theorem dX10_maySwap_86 : decode cX10_maySwap 86 = .ok (.iinc 2 1, 3) := by decide +kernel
theorem dX10_maySwap_89 : decode cX10_maySwap 89 = .ok (.goto (-69), 3) := by decide +kernel
theorem dX10_maySwap_92 : decode cX10_maySwap 92 = .ok (.iload_n 1, 1) := by decide +kernel
theorem dX10_maySwap_93 : decode cX10_maySwap 93 = .ok (.ireturn, 1) := by decide +kernel
theorem dX10_swaps_0 : decode cX10_swaps 0 = .ok (.iconst 0, 1) := by decide +kernel
theorem dX10_swaps_1 : decode cX10_swaps 1 = .ok (.istore_n 1, 1) := by decide +kernel
theorem dX10_swaps_2 : decode cX10_swaps 2 = .ok (.iload_n 1, 1) := by decide +kernel
theorem dX10_swaps_3 : decode cX10_swaps 3 = .ok (.aload_n 0, 1) := by decide +kernel
theorem dX10_swaps_4 : decode cX10_swaps 4 = .ok (.getfield 110, 3) := by decide +kernel
theorem dX10_swaps_7 : decode cX10_swaps 7 = .ok (.if_icmp .ge 24, 3) := by decide +kernel
theorem dX10_swaps_10 : decode cX10_swaps 10 = .ok (.aload_n 0, 1) := by decide +kernel
theorem dX10_swaps_11 : decode cX10_swaps 11 = .ok (.getfield 31, 3) := by decide +kernel
theorem dX10_swaps_14 : decode cX10_swaps 14 = .ok (.iload_n 1, 1) := by decide +kernel
theorem dX10_swaps_15 : decode cX10_swaps 15 = .ok (.dup2, 1) := by decide +kernel
theorem dX10_swaps_16 : decode cX10_swaps 16 = .ok (.iaload, 1) := by decide +kernel
theorem dX10_swaps_17 : decode cX10_swaps 17 = .ok (.aload_n 0, 1) := by decide +kernel
theorem dX10_swaps_18 : decode cX10_swaps 18 = .ok (.getfield 28, 3) := by decide +kernel
theorem dX10_swaps_21 : decode cX10_swaps 21 = .ok (.iload_n 1, 1) := by decide +kernel
theorem dX10_swaps_22 : decode cX10_swaps 22 = .ok (.iaload, 1) := by decide +kernel
theorem dX10_swaps_23 : decode cX10_swaps 23 = .ok (.iadd, 1) := by decide +kernel
theorem dX10_swaps_24 : decode cX10_swaps 24 = .ok (.iastore, 1) := by decide +kernel
theorem dX10_swaps_25 : decode cX10_swaps 25 = .ok (.iinc 1 1, 3) := by decide +kernel
theorem dX10_swaps_28 : decode cX10_swaps 28 = .ok (.goto (-26), 3) := by decide +kernel
theorem dX10_swaps_31 : decode cX10_swaps 31 = .ok (.return_, 1) := by decide +kernel
theorem dX10_swap_0 : decode cX10_swap 0 = .ok (.aload_n 0, 1) := by decide +kernel
theorem dX10_swap_1 : decode cX10_swap 1 = .ok (.invokevirtual 182, 3) := by decide +kernel
theorem dX10_swap_4 : decode cX10_swap 4 = .ok (.ifCond .ne 6, 3) := by decide +kernel
theorem dX10_swap_7 : decode cX10_swap 7 = .ok (.bipush (-3), 2) := by decide +kernel
theorem dX10_swap_9 : decode cX10_swap 9 = .ok (.ireturn, 1) := by decide +kernel
theorem dX10_swap_10 : decode cX10_swap 10 = .ok (.aload_n 0, 1) := by decide +kernel
theorem dX10_swap_11 : decode cX10_swap 11 = .ok (.invokevirtual 185, 3) := by decide +kernel
theorem dX10_swap_14 : decode cX10_swap 14 = .ok (.aload_n 0, 1) := by decide +kernel
theorem dX10_swap_15 : decode cX10_swap 15 = .ok (.invokevirtual 188, 3) := by decide +kernel
theorem dX10_swap_18 : decode cX10_swap 18 = .ok (.ireturn, 1) := by decide +kernel
theorem dX10_keep_0 : decode cX10_keep 0 = .ok (.iconst 0, 1) := by decide +kernel
theorem dX10_keep_1 : decode cX10_keep 1 = .ok (.istore_n 1, 1) := by decide +kernel
theorem dX10_keep_2 : decode cX10_keep 2 = .ok (.iload_n 1, 1) := by decide +kernel
theorem dX10_keep_3 : decode cX10_keep 3 = .ok (.aload_n 0, 1) := by decide +kernel
theorem dX10_keep_4 : decode cX10_keep 4 = .ok (.getfield 110, 3) := by decide +kernel
theorem dX10_keep_7 : decode cX10_keep 7 = .ok (.if_icmp .ge 21, 3) := by decide +kernel
theorem dX10_keep_10 : decode cX10_keep 10 = .ok (.aload_n 0, 1) := by decide +kernel
theorem dX10_keep_11 : decode cX10_keep 11 = .ok (.getfield 34, 3) := by decide +kernel
theorem dX10_keep_14 : decode cX10_keep 14 = .ok (.iload_n 1, 1) := by decide +kernel
theorem dX10_keep_15 : decode cX10_keep 15 = .ok (.aload_n 0, 1) := by decide +kernel
theorem dX10_keep_16 : decode cX10_keep 16 = .ok (.getfield 31, 3) := by decide +kernel
theorem dX10_keep_19 : decode cX10_keep 19 = .ok (.iload_n 1, 1) := by decide +kernel
theorem dX10_keep_20 : decode cX10_keep 20 = .ok (.iaload, 1) := by decide +kernel
theorem dX10_keep_21 : decode cX10_keep 21 = .ok (.iastore, 1) := by decide +kernel
theorem dX10_keep_22 : decode cX10_keep 22 = .ok (.iinc 1 1, 3) := by decide +kernel
theorem dX10_keep_25 : decode cX10_keep 25 = .ok (.goto (-23), 3) := by decide +kernel
theorem dX10_keep_28 : decode cX10_keep 28 = .ok (.aload_n 0, 1) := by decide +kernel
theorem dX10_keep_29 : decode cX10_keep 29 = .ok (.invokevirtual 188, 3) := by decide +kernel
theorem dX10_keep_32 : decode cX10_keep 32 = .ok (.ireturn, 1) := by decide +kernel
theorem dX10_differ_0 : decode cX10_differ 0 = .ok (.iconst 0, 1) := by decide +kernel
theorem dX10_differ_1 : decode cX10_differ 1 = .ok (.istore_n 1, 1) := by decide +kernel
theorem dX10_differ_2 : decode cX10_differ 2 = .ok (.iload_n 1, 1) := by decide +kernel
theorem dX10_differ_3 : decode cX10_differ 3 = .ok (.aload_n 0, 1) := by decide +kernel
theorem dX10_differ_4 : decode cX10_differ 4 = .ok (.getfield 110, 3) := by decide +kernel
theorem dX10_differ_7 : decode cX10_differ 7 = .ok (.if_icmp .ge 28, 3) := by decide +kernel
theorem dX10_differ_10 : decode cX10_differ 10 = .ok (.aload_n 0, 1) := by decide +kernel
theorem dX10_differ_11 : decode cX10_differ 11 = .ok (.getfield 28, 3) := by decide +kernel
theorem dX10_differ_14 : decode cX10_differ 14 = .ok (.iload_n 1, 1) := by decide +kernel
theorem dX10_differ_15 : decode cX10_differ 15 = .ok (.aload_n 0, 1) := by decide +kernel
theorem dX10_differ_16 : decode cX10_differ 16 = .ok (.getfield 31, 3) := by decide +kernel
theorem dX10_differ_19 : decode cX10_differ 19 = .ok (.iload_n 1, 1) := by decide +kernel
theorem dX10_differ_20 : decode cX10_differ 20 = .ok (.iaload, 1) := by decide +kernel
theorem dX10_differ_21 : decode cX10_differ 21 = .ok (.aload_n 0, 1) := by decide +kernel
theorem dX10_differ_22 : decode cX10_differ 22 = .ok (.getfield 34, 3) := by decide +kernel
theorem dX10_differ_25 : decode cX10_differ 25 = .ok (.iload_n 1, 1) := by decide +kernel
theorem dX10_differ_26 : decode cX10_differ 26 = .ok (.iaload, 1) := by decide +kernel
theorem dX10_differ_27 : decode cX10_differ 27 = .ok (.isub, 1) := by decide +kernel
theorem dX10_differ_28 : decode cX10_differ 28 = .ok (.iastore, 1) := by decide +kernel
theorem dX10_differ_29 : decode cX10_differ 29 = .ok (.iinc 1 1, 3) := by decide +kernel
theorem dX10_differ_32 : decode cX10_differ 32 = .ok (.goto (-30), 3) := by decide +kernel
theorem dX10_differ_35 : decode cX10_differ 35 = .ok (.aload_n 0, 1) := by decide +kernel
theorem dX10_differ_36 : decode cX10_differ 36 = .ok (.invokevirtual 167, 3) := by decide +kernel
theorem dX10_differ_39 : decode cX10_differ 39 = .ok (.ireturn, 1) := by decide +kernel
theorem dX10_exchanges_0 : decode cX10_exchanges 0 = .ok (.iconst 0, 1) := by decide +kernel
theorem dX10_exchanges_1 : decode cX10_exchanges 1 = .ok (.istore 4, 2) := by decide +kernel
theorem dX10_exchanges_3 : decode cX10_exchanges 3 = .ok (.iload 4, 2) := by decide +kernel
theorem dX10_exchanges_5 : decode cX10_exchanges 5 = .ok (.aload_n 0, 1) := by decide +kernel
theorem dX10_exchanges_6 : decode cX10_exchanges 6 = .ok (.getfield 110, 3) := by decide +kernel
theorem dX10_exchanges_9 : decode cX10_exchanges 9 = .ok (.if_icmp .ge 84, 3) := by decide +kernel
theorem dX10_exchanges_12 : decode cX10_exchanges 12 = .ok (.aload_n 0, 1) := by decide +kernel
theorem dX10_exchanges_13 : decode cX10_exchanges 13 = .ok (.getfield 21, 3) := by decide +kernel
theorem dX10_exchanges_16 : decode cX10_exchanges 16 = .ok (.iload 4, 2) := by decide +kernel
theorem dX10_exchanges_18 : decode cX10_exchanges 18 = .ok (.iaload, 1) := by decide +kernel
theorem dX10_exchanges_19 : decode cX10_exchanges 19 = .ok (.istore 5, 2) := by decide +kernel
theorem dX10_exchanges_21 : decode cX10_exchanges 21 = .ok (.iload 5, 2) := by decide +kernel
theorem dX10_exchanges_23 : decode cX10_exchanges 23 = .ok (.iconst 1, 1) := by decide +kernel
theorem dX10_exchanges_24 : decode cX10_exchanges 24 = .ok (.iload_n 2, 1) := by decide +kernel
theorem dX10_exchanges_25 : decode cX10_exchanges 25 = .ok (.ishl, 1) := by decide +kernel
theorem dX10_exchanges_26 : decode cX10_exchanges 26 = .ok (.iconst 1, 1) := by decide +kernel
theorem dX10_exchanges_27 : decode cX10_exchanges 27 = .ok (.iload_n 3, 1) := by decide +kernel
theorem dX10_exchanges_28 : decode cX10_exchanges 28 = .ok (.ishl, 1) := by decide +kernel
theorem dX10_exchanges_29 : decode cX10_exchanges 29 = .ok (.ior, 1) := by decide +kernel
theorem dX10_exchanges_30 : decode cX10_exchanges 30 = .ok (.iconst (-1), 1) := by decide +kernel
theorem dX10_exchanges_31 : decode cX10_exchanges 31 = .ok (.ixor, 1) := by decide +kernel
theorem dX10_exchanges_32 : decode cX10_exchanges 32 = .ok (.iand, 1) := by decide +kernel
theorem dX10_exchanges_33 : decode cX10_exchanges 33 = .ok (.istore 6, 2) := by decide +kernel
theorem dX10_exchanges_35 : decode cX10_exchanges 35 = .ok (.iload 5, 2) := by decide +kernel
theorem dX10_exchanges_37 : decode cX10_exchanges 37 = .ok (.iload_n 2, 1) := by decide +kernel
theorem dX10_exchanges_38 : decode cX10_exchanges 38 = .ok (.ishr, 1) := by decide +kernel
theorem dX10_exchanges_39 : decode cX10_exchanges 39 = .ok (.iconst 1, 1) := by decide +kernel
theorem dX10_exchanges_40 : decode cX10_exchanges 40 = .ok (.iand, 1) := by decide +kernel
theorem dX10_exchanges_41 : decode cX10_exchanges 41 = .ok (.iconst 1, 1) := by decide +kernel
theorem dX10_exchanges_42 : decode cX10_exchanges 42 = .ok (.if_icmp .ne 11, 3) := by decide +kernel
theorem dX10_exchanges_45 : decode cX10_exchanges 45 = .ok (.iload 6, 2) := by decide +kernel
theorem dX10_exchanges_47 : decode cX10_exchanges 47 = .ok (.iconst 1, 1) := by decide +kernel
theorem dX10_exchanges_48 : decode cX10_exchanges 48 = .ok (.iload_n 3, 1) := by decide +kernel
theorem dX10_exchanges_49 : decode cX10_exchanges 49 = .ok (.ishl, 1) := by decide +kernel
theorem dX10_exchanges_50 : decode cX10_exchanges 50 = .ok (.ior, 1) := by decide +kernel
theorem dX10_exchanges_51 : decode cX10_exchanges 51 = .ok (.istore 6, 2) := by decide +kernel
theorem dX10_exchanges_53 : decode cX10_exchanges 53 = .ok (.iload 5, 2) := by decide +kernel
theorem dX10_exchanges_55 : decode cX10_exchanges 55 = .ok (.iload_n 3, 1) := by decide +kernel
theorem dX10_exchanges_56 : decode cX10_exchanges 56 = .ok (.ishr, 1) := by decide +kernel
theorem dX10_exchanges_57 : decode cX10_exchanges 57 = .ok (.iconst 1, 1) := by decide +kernel
theorem dX10_exchanges_58 : decode cX10_exchanges 58 = .ok (.iand, 1) := by decide +kernel
theorem dX10_exchanges_59 : decode cX10_exchanges 59 = .ok (.iconst 1, 1) := by decide +kernel
theorem dX10_exchanges_60 : decode cX10_exchanges 60 = .ok (.if_icmp .ne 11, 3) := by decide +kernel
theorem dX10_exchanges_63 : decode cX10_exchanges 63 = .ok (.iload 6, 2) := by decide +kernel
theorem dX10_exchanges_65 : decode cX10_exchanges 65 = .ok (.iconst 1, 1) := by decide +kernel
theorem dX10_exchanges_66 : decode cX10_exchanges 66 = .ok (.iload_n 2, 1) := by decide +kernel
theorem dX10_exchanges_67 : decode cX10_exchanges 67 = .ok (.ishl, 1) := by decide +kernel
theorem dX10_exchanges_68 : decode cX10_exchanges 68 = .ok (.ior, 1) := by decide +kernel
theorem dX10_exchanges_69 : decode cX10_exchanges 69 = .ok (.istore 6, 2) := by decide +kernel
theorem dX10_exchanges_71 : decode cX10_exchanges 71 = .ok (.aload_n 0, 1) := by decide +kernel
theorem dX10_exchanges_72 : decode cX10_exchanges 72 = .ok (.getfield 86, 3) := by decide +kernel
theorem dX10_exchanges_75 : decode cX10_exchanges 75 = .ok (.aload_n 0, 1) := by decide +kernel
theorem dX10_exchanges_76 : decode cX10_exchanges 76 = .ok (.getfield 25, 3) := by decide +kernel
theorem dX10_exchanges_79 : decode cX10_exchanges 79 = .ok (.iload 6, 2) := by decide +kernel
theorem dX10_exchanges_81 : decode cX10_exchanges 81 = .ok (.iaload, 1) := by decide +kernel
theorem dX10_exchanges_82 : decode cX10_exchanges 82 = .ok (.aload_n 1, 1) := by decide +kernel
theorem dX10_exchanges_83 : decode cX10_exchanges 83 = .ok (.iload 4, 2) := by decide +kernel
theorem dX10_exchanges_85 : decode cX10_exchanges 85 = .ok (.iaload, 1) := by decide +kernel
theorem dX10_exchanges_86 : decode cX10_exchanges 86 = .ok (.iastore, 1) := by decide +kernel
theorem dX10_exchanges_87 : decode cX10_exchanges 87 = .ok (.iinc 4 1, 3) := by decide +kernel
theorem dX10_exchanges_90 : decode cX10_exchanges 90 = .ok (.goto (-87), 3) := by decide +kernel
theorem dX10_exchanges_93 : decode cX10_exchanges 93 = .ok (.iconst 0, 1) := by decide +kernel
theorem dX10_exchanges_94 : decode cX10_exchanges 94 = .ok (.istore 4, 2) := by decide +kernel
theorem dX10_exchanges_96 : decode cX10_exchanges 96 = .ok (.iload 4, 2) := by decide +kernel
theorem dX10_exchanges_98 : decode cX10_exchanges 98 = .ok (.aload_n 0, 1) := by decide +kernel
theorem dX10_exchanges_99 : decode cX10_exchanges 99 = .ok (.getfield 110, 3) := by decide +kernel
theorem dX10_exchanges_102 : decode cX10_exchanges 102 = .ok (.if_icmp .ge 20, 3) := by decide +kernel
theorem dX10_exchanges_105 : decode cX10_exchanges 105 = .ok (.aload_n 1, 1) := by decide +kernel
theorem dX10_exchanges_106 : decode cX10_exchanges 106 = .ok (.iload 4, 2) := by decide +kernel
theorem dX10_exchanges_108 : decode cX10_exchanges 108 = .ok (.aload_n 0, 1) := by decide +kernel
theorem dX10_exchanges_109 : decode cX10_exchanges 109 = .ok (.getfield 86, 3) := by decide +kernel
theorem dX10_exchanges_112 : decode cX10_exchanges 112 = .ok (.iload 4, 2) := by decide +kernel
theorem dX10_exchanges_114 : decode cX10_exchanges 114 = .ok (.iaload, 1) := by decide +kernel
theorem dX10_exchanges_115 : decode cX10_exchanges 115 = .ok (.iastore, 1) := by decide +kernel
theorem dX10_exchanges_116 : decode cX10_exchanges 116 = .ok (.iinc 4 1, 3) := by decide +kernel
theorem dX10_exchanges_119 : decode cX10_exchanges 119 = .ok (.goto (-23), 3) := by decide +kernel
theorem dX10_exchanges_122 : decode cX10_exchanges 122 = .ok (.return_, 1) := by decide +kernel
theorem dX10_exchange_0 : decode cX10_exchange 0 = .ok (.aload_n 0, 1) := by decide +kernel
theorem dX10_exchange_1 : decode cX10_exchange 1 = .ok (.iload_n 1, 1) := by decide +kernel
theorem dX10_exchange_2 : decode cX10_exchange 2 = .ok (.invokevirtual 154, 3) := by decide +kernel
theorem dX10_exchange_5 : decode cX10_exchange 5 = .ok (.ifCond .eq 16, 3) := by decide +kernel
theorem dX10_exchange_8 : decode cX10_exchange 8 = .ok (.aload_n 0, 1) := by decide +kernel
theorem dX10_exchange_9 : decode cX10_exchange 9 = .ok (.iload_n 2, 1) := by decide +kernel
theorem dX10_exchange_10 : decode cX10_exchange 10 = .ok (.invokevirtual 154, 3) := by decide +kernel
theorem dX10_exchange_13 : decode cX10_exchange 13 = .ok (.ifCond .eq 8, 3) := by decide +kernel
theorem dX10_exchange_16 : decode cX10_exchange 16 = .ok (.iload_n 1, 1) := by decide +kernel
theorem dX10_exchange_17 : decode cX10_exchange 17 = .ok (.iload_n 2, 1) := by decide +kernel
theorem dX10_exchange_18 : decode cX10_exchange 18 = .ok (.if_icmp .ne 5, 3) := by decide +kernel
theorem dX10_exchange_21 : decode cX10_exchange 21 = .ok (.iconst (-1), 1) := by decide +kernel
theorem dX10_exchange_22 : decode cX10_exchange 22 = .ok (.ireturn, 1) := by decide +kernel
theorem dX10_exchange_23 : decode cX10_exchange 23 = .ok (.aload_n 0, 1) := by decide +kernel
theorem dX10_exchange_24 : decode cX10_exchange 24 = .ok (.aload_n 0, 1) := by decide +kernel
theorem dX10_exchange_25 : decode cX10_exchange 25 = .ok (.getfield 28, 3) := by decide +kernel
theorem dX10_exchange_28 : decode cX10_exchange 28 = .ok (.iload_n 1, 1) := by decide +kernel
theorem dX10_exchange_29 : decode cX10_exchange 29 = .ok (.iload_n 2, 1) := by decide +kernel
theorem dX10_exchange_30 : decode cX10_exchange 30 = .ok (.invokevirtual 191, 3) := by decide +kernel
theorem dX10_exchange_33 : decode cX10_exchange 33 = .ok (.aload_n 0, 1) := by decide +kernel
theorem dX10_exchange_34 : decode cX10_exchange 34 = .ok (.aload_n 0, 1) := by decide +kernel
theorem dX10_exchange_35 : decode cX10_exchange 35 = .ok (.getfield 31, 3) := by decide +kernel
theorem dX10_exchange_38 : decode cX10_exchange 38 = .ok (.iload_n 1, 1) := by decide +kernel
theorem dX10_exchange_39 : decode cX10_exchange 39 = .ok (.iload_n 2, 1) := by decide +kernel
theorem dX10_exchange_40 : decode cX10_exchange 40 = .ok (.invokevirtual 191, 3) := by decide +kernel
theorem dX10_exchange_43 : decode cX10_exchange 43 = .ok (.aload_n 0, 1) := by decide +kernel
theorem dX10_exchange_44 : decode cX10_exchange 44 = .ok (.aload_n 0, 1) := by decide +kernel
theorem dX10_exchange_45 : decode cX10_exchange 45 = .ok (.getfield 34, 3) := by decide +kernel
theorem dX10_exchange_48 : decode cX10_exchange 48 = .ok (.iload_n 1, 1) := by decide +kernel
theorem dX10_exchange_49 : decode cX10_exchange 49 = .ok (.iload_n 2, 1) := by decide +kernel
theorem dX10_exchange_50 : decode cX10_exchange 50 = .ok (.invokevirtual 191, 3) := by decide +kernel
theorem dX10_exchange_53 : decode cX10_exchange 53 = .ok (.iconst 1, 1) := by decide +kernel
theorem dX10_exchange_54 : decode cX10_exchange 54 = .ok (.ireturn, 1) := by decide +kernel
theorem dX10_feed_0 : decode cX10_feed 0 = .ok (.iload_n 1, 1) := by decide +kernel
theorem dX10_feed_1 : decode cX10_feed 1 = .ok (.i2l, 1) := by decide +kernel
theorem dX10_feed_2 : decode cX10_feed 2 = .ok (.lconst 0, 1) := by decide +kernel
theorem dX10_feed_3 : decode cX10_feed 3 = .ok (.ldc2_w 195, 3) := by decide +kernel
theorem dX10_feed_6 : decode cX10_feed 6 = .ok (.invokestatic 116, 3) := by decide +kernel
theorem dX10_feed_9 : decode cX10_feed 9 = .ok (.ifCond .ne 6, 3) := by decide +kernel
theorem dX10_feed_12 : decode cX10_feed 12 = .ok (.bipush (-2), 2) := by decide +kernel
theorem dX10_feed_14 : decode cX10_feed 14 = .ok (.ireturn, 1) := by decide +kernel
theorem dX10_feed_15 : decode cX10_feed 15 = .ok (.aload_n 0, 1) := by decide +kernel
theorem dX10_feed_16 : decode cX10_feed 16 = .ok (.getfield 197, 3) := by decide +kernel
theorem dX10_feed_19 : decode cX10_feed 19 = .ok (.bipush 100, 2) := by decide +kernel
theorem dX10_feed_21 : decode cX10_feed 21 = .ok (.if_icmp .ne 6, 3) := by decide +kernel
theorem dX10_feed_24 : decode cX10_feed 24 = .ok (.bipush (-4), 2) := by decide +kernel
theorem dX10_feed_26 : decode cX10_feed 26 = .ok (.ireturn, 1) := by decide +kernel
theorem dX10_feed_27 : decode cX10_feed 27 = .ok (.aload_n 0, 1) := by decide +kernel
theorem dX10_feed_28 : decode cX10_feed 28 = .ok (.getfield 55, 3) := by decide +kernel
theorem dX10_feed_31 : decode cX10_feed 31 = .ok (.aload_n 0, 1) := by decide +kernel
theorem dX10_feed_32 : decode cX10_feed 32 = .ok (.dup, 1) := by decide +kernel
theorem dX10_feed_33 : decode cX10_feed 33 = .ok (.getfield 197, 3) := by decide +kernel
theorem dX10_feed_36 : decode cX10_feed 36 = .ok (.dup_x1, 1) := by decide +kernel
theorem dX10_feed_37 : decode cX10_feed 37 = .ok (.iconst 1, 1) := by decide +kernel
theorem dX10_feed_38 : decode cX10_feed 38 = .ok (.iadd, 1) := by decide +kernel
theorem dX10_feed_39 : decode cX10_feed 39 = .ok (.putfield 197, 3) := by decide +kernel
theorem dX10_feed_42 : decode cX10_feed 42 = .ok (.iload_n 1, 1) := by decide +kernel
theorem dX10_feed_43 : decode cX10_feed 43 = .ok (.iastore, 1) := by decide +kernel
theorem dX10_feed_44 : decode cX10_feed 44 = .ok (.aload_n 0, 1) := by decide +kernel
theorem dX10_feed_45 : decode cX10_feed 45 = .ok (.getfield 197, 3) := by decide +kernel
theorem dX10_feed_48 : decode cX10_feed 48 = .ok (.ireturn, 1) := by decide +kernel
theorem dX10_sign_0 : decode cX10_sign 0 = .ok (.aload_n 0, 1) := by decide +kernel
theorem dX10_sign_1 : decode cX10_sign 1 = .ok (.getfield 200, 3) := by decide +kernel
theorem dX10_sign_4 : decode cX10_sign 4 = .ok (.aload_n 0, 1) := by decide +kernel
theorem dX10_sign_5 : decode cX10_sign 5 = .ok (.getfield 197, 3) := by decide +kernel
theorem dX10_sign_8 : decode cX10_sign 8 = .ok (.if_icmp .ge 15, 3) := by decide +kernel
theorem dX10_sign_11 : decode cX10_sign 11 = .ok (.aload_n 0, 1) := by decide +kernel
theorem dX10_sign_12 : decode cX10_sign 12 = .ok (.getfield 55, 3) := by decide +kernel
theorem dX10_sign_15 : decode cX10_sign 15 = .ok (.aload_n 0, 1) := by decide +kernel
theorem dX10_sign_16 : decode cX10_sign 16 = .ok (.getfield 200, 3) := by decide +kernel
theorem dX10_sign_19 : decode cX10_sign 19 = .ok (.iaload, 1) := by decide +kernel
theorem dX10_sign_20 : decode cX10_sign 20 = .ok (.goto 4, 3) := by decide +kernel
theorem dX10_sign_23 : decode cX10_sign 23 = .ok (.iconst (-1), 1) := by decide +kernel
theorem dX10_sign_24 : decode cX10_sign 24 = .ok (.ireturn, 1) := by decide +kernel
theorem dX10_word_0 : decode cX10_word 0 = .ok (.iconst 0, 1) := by decide +kernel
theorem dX10_word_1 : decode cX10_word 1 = .ok (.istore_n 2, 1) := by decide +kernel
theorem dX10_word_2 : decode cX10_word 2 = .ok (.iload_n 2, 1) := by decide +kernel
theorem dX10_word_3 : decode cX10_word 3 = .ok (.aload_n 1, 1) := by decide +kernel
theorem dX10_word_4 : decode cX10_word 4 = .ok (.invokevirtual 203, 3) := by decide +kernel
theorem dX10_word_7 : decode cX10_word 7 = .ok (.if_icmp .ge 33, 3) := by decide +kernel
theorem dX10_word_10 : decode cX10_word 10 = .ok (.aload_n 0, 1) := by decide +kernel
theorem dX10_word_11 : decode cX10_word 11 = .ok (.invokevirtual 208, 3) := by decide +kernel
theorem dX10_word_14 : decode cX10_word 14 = .ok (.aload_n 1, 1) := by decide +kernel
theorem dX10_word_15 : decode cX10_word 15 = .ok (.iload_n 2, 1) := by decide +kernel
theorem dX10_word_16 : decode cX10_word 16 = .ok (.invokevirtual 211, 3) := by decide +kernel
theorem dX10_word_19 : decode cX10_word 19 = .ok (.if_icmp .eq 5, 3) := by decide +kernel
theorem dX10_word_22 : decode cX10_word 22 = .ok (.iconst 0, 1) := by decide +kernel
theorem dX10_word_23 : decode cX10_word 23 = .ok (.ireturn, 1) := by decide +kernel
theorem dX10_word_24 : decode cX10_word 24 = .ok (.aload_n 0, 1) := by decide +kernel
theorem dX10_word_25 : decode cX10_word 25 = .ok (.dup, 1) := by decide +kernel
theorem dX10_word_26 : decode cX10_word 26 = .ok (.getfield 200, 3) := by decide +kernel
theorem dX10_word_29 : decode cX10_word 29 = .ok (.iconst 1, 1) := by decide +kernel
theorem dX10_word_30 : decode cX10_word 30 = .ok (.iadd, 1) := by decide +kernel
theorem dX10_word_31 : decode cX10_word 31 = .ok (.putfield 200, 3) := by decide +kernel
theorem dX10_word_34 : decode cX10_word 34 = .ok (.iinc 2 1, 3) := by decide +kernel
theorem dX10_word_37 : decode cX10_word 37 = .ok (.goto (-35), 3) := by decide +kernel
theorem dX10_word_40 : decode cX10_word 40 = .ok (.iconst 1, 1) := by decide +kernel
theorem dX10_word_41 : decode cX10_word 41 = .ok (.ireturn, 1) := by decide +kernel
theorem dX10_what_0 : decode cX10_what 0 = .ok (.aload_n 0, 1) := by decide +kernel
theorem dX10_what_1 : decode cX10_what 1 = .ok (.invokevirtual 208, 3) := by decide +kernel
theorem dX10_what_4 : decode cX10_what 4 = .ok (.tableswitch 248 99 116 #[137, 232, 248, 248, 248, 248, 248, 248, 216, 248, 248, 248, 248, 201, 248, 248, 88, 152], 88) := by decide +kernel
theorem dX10_what_92 : decode cX10_what 92 = .ok (.aload_n 0, 1) := by decide +kernel
theorem dX10_what_93 : decode cX10_what 93 = .ok (.dup, 1) := by decide +kernel
theorem dX10_what_94 : decode cX10_what 94 = .ok (.getfield 200, 3) := by decide +kernel
theorem dX10_what_97 : decode cX10_what 97 = .ok (.iconst 1, 1) := by decide +kernel
theorem dX10_what_98 : decode cX10_what 98 = .ok (.iadd, 1) := by decide +kernel
theorem dX10_what_99 : decode cX10_what 99 = .ok (.putfield 200, 3) := by decide +kernel
theorem dX10_what_102 : decode cX10_what 102 = .ok (.aload_n 0, 1) := by decide +kernel
theorem dX10_what_103 : decode cX10_what 103 = .ok (.invokevirtual 208, 3) := by decide +kernel
theorem dX10_what_106 : decode cX10_what 106 = .ok (.bipush 119, 2) := by decide +kernel
theorem dX10_what_108 : decode cX10_what 108 = .ok (.if_icmp .ne 18, 3) := by decide +kernel
theorem dX10_what_111 : decode cX10_what 111 = .ok (.aload_n 0, 1) := by decide +kernel
theorem dX10_what_112 : decode cX10_what 112 = .ok (.ldc 215, 2) := by decide +kernel
theorem dX10_what_114 : decode cX10_what 114 = .ok (.invokevirtual 217, 3) := by decide +kernel
theorem dX10_what_117 : decode cX10_what 117 = .ok (.ifCond .eq 7, 3) := by decide +kernel
theorem dX10_what_120 : decode cX10_what 120 = .ok (.iconst 5, 1) := by decide +kernel
theorem dX10_what_121 : decode cX10_what 121 = .ok (.goto 4, 3) := by decide +kernel
theorem dX10_what_124 : decode cX10_what 124 = .ok (.iconst (-1), 1) := by decide +kernel
theorem dX10_what_125 : decode cX10_what 125 = .ok (.ireturn, 1) := by decide +kernel
theorem dX10_what_126 : decode cX10_what 126 = .ok (.aload_n 0, 1) := by decide +kernel
theorem dX10_what_127 : decode cX10_what 127 = .ok (.ldc 221, 2) := by decide +kernel
theorem dX10_what_129 : decode cX10_what 129 = .ok (.invokevirtual 217, 3) := by decide +kernel
theorem dX10_what_132 : decode cX10_what 132 = .ok (.ifCond .eq 7, 3) := by decide +kernel
theorem dX10_what_135 : decode cX10_what 135 = .ok (.iconst 0, 1) := by decide +kernel
theorem dX10_what_136 : decode cX10_what 136 = .ok (.goto 4, 3) := by decide +kernel
theorem dX10_what_139 : decode cX10_what 139 = .ok (.iconst (-1), 1) := by decide +kernel
theorem dX10_what_140 : decode cX10_what 140 = .ok (.ireturn, 1) := by decide +kernel
theorem dX10_what_141 : decode cX10_what 141 = .ok (.aload_n 0, 1) := by decide +kernel
theorem dX10_what_142 : decode cX10_what 142 = .ok (.ldc 223, 2) := by decide +kernel
theorem dX10_what_144 : decode cX10_what 144 = .ok (.invokevirtual 217, 3) := by decide +kernel
theorem dX10_what_147 : decode cX10_what 147 = .ok (.ifCond .eq 7, 3) := by decide +kernel
theorem dX10_what_150 : decode cX10_what 150 = .ok (.iconst 1, 1) := by decide +kernel
theorem dX10_what_151 : decode cX10_what 151 = .ok (.goto 4, 3) := by decide +kernel
theorem dX10_what_154 : decode cX10_what 154 = .ok (.iconst (-1), 1) := by decide +kernel
theorem dX10_what_155 : decode cX10_what 155 = .ok (.ireturn, 1) := by decide +kernel
theorem dX10_what_156 : decode cX10_what 156 = .ok (.aload_n 0, 1) := by decide +kernel
theorem dX10_what_157 : decode cX10_what 157 = .ok (.dup, 1) := by decide +kernel
theorem dX10_what_158 : decode cX10_what 158 = .ok (.getfield 200, 3) := by decide +kernel
theorem dX10_what_161 : decode cX10_what 161 = .ok (.iconst 1, 1) := by decide +kernel
theorem dX10_what_162 : decode cX10_what 162 = .ok (.iadd, 1) := by decide +kernel
theorem dX10_what_163 : decode cX10_what 163 = .ok (.putfield 200, 3) := by decide +kernel
theorem dX10_what_166 : decode cX10_what 166 = .ok (.aload_n 0, 1) := by decide +kernel
theorem dX10_what_167 : decode cX10_what 167 = .ok (.invokevirtual 208, 3) := by decide +kernel
theorem dX10_what_170 : decode cX10_what 170 = .ok (.bipush 119, 2) := by decide +kernel
theorem dX10_what_172 : decode cX10_what 172 = .ok (.if_icmp .ne 18, 3) := by decide +kernel
theorem dX10_what_175 : decode cX10_what 175 = .ok (.aload_n 0, 1) := by decide +kernel
theorem dX10_what_176 : decode cX10_what 176 = .ok (.ldc 225, 2) := by decide +kernel
theorem dX10_what_178 : decode cX10_what 178 = .ok (.invokevirtual 217, 3) := by decide +kernel
theorem dX10_what_181 : decode cX10_what 181 = .ok (.ifCond .eq 7, 3) := by decide +kernel
theorem dX10_what_184 : decode cX10_what 184 = .ok (.iconst 2, 1) := by decide +kernel
theorem dX10_what_185 : decode cX10_what 185 = .ok (.goto 4, 3) := by decide +kernel
theorem dX10_what_188 : decode cX10_what 188 = .ok (.iconst (-1), 1) := by decide +kernel
theorem dX10_what_189 : decode cX10_what 189 = .ok (.ireturn, 1) := by decide +kernel
theorem dX10_what_190 : decode cX10_what 190 = .ok (.aload_n 0, 1) := by decide +kernel
theorem dX10_what_191 : decode cX10_what 191 = .ok (.ldc 227, 2) := by decide +kernel
theorem dX10_what_193 : decode cX10_what 193 = .ok (.invokevirtual 217, 3) := by decide +kernel
theorem dX10_what_196 : decode cX10_what 196 = .ok (.ifCond .eq 7, 3) := by decide +kernel
theorem dX10_what_199 : decode cX10_what 199 = .ok (.iconst 4, 1) := by decide +kernel
theorem dX10_what_200 : decode cX10_what 200 = .ok (.goto 4, 3) := by decide +kernel
theorem dX10_what_203 : decode cX10_what 203 = .ok (.iconst (-1), 1) := by decide +kernel
theorem dX10_what_204 : decode cX10_what 204 = .ok (.ireturn, 1) := by decide +kernel
theorem dX10_what_205 : decode cX10_what 205 = .ok (.aload_n 0, 1) := by decide +kernel
theorem dX10_what_206 : decode cX10_what 206 = .ok (.ldc 229, 2) := by decide +kernel
theorem dX10_what_208 : decode cX10_what 208 = .ok (.invokevirtual 217, 3) := by decide +kernel
theorem dX10_what_211 : decode cX10_what 211 = .ok (.ifCond .eq 7, 3) := by decide +kernel
theorem dX10_what_214 : decode cX10_what 214 = .ok (.iconst 3, 1) := by decide +kernel
theorem dX10_what_215 : decode cX10_what 215 = .ok (.goto 4, 3) := by decide +kernel
theorem dX10_what_218 : decode cX10_what 218 = .ok (.iconst (-1), 1) := by decide +kernel
theorem dX10_what_219 : decode cX10_what 219 = .ok (.ireturn, 1) := by decide +kernel
theorem dX10_what_220 : decode cX10_what 220 = .ok (.aload_n 0, 1) := by decide +kernel
theorem dX10_what_221 : decode cX10_what 221 = .ok (.ldc 231, 2) := by decide +kernel
theorem dX10_what_223 : decode cX10_what 223 = .ok (.invokevirtual 217, 3) := by decide +kernel
theorem dX10_what_226 : decode cX10_what 226 = .ok (.ifCond .eq 8, 3) := by decide +kernel
theorem dX10_what_229 : decode cX10_what 229 = .ok (.bipush 6, 2) := by decide +kernel
theorem dX10_what_231 : decode cX10_what 231 = .ok (.goto 4, 3) := by decide +kernel
theorem dX10_what_234 : decode cX10_what 234 = .ok (.iconst (-1), 1) := by decide +kernel
theorem dX10_what_235 : decode cX10_what 235 = .ok (.ireturn, 1) := by decide +kernel
theorem dX10_what_236 : decode cX10_what 236 = .ok (.aload_n 0, 1) := by decide +kernel
theorem dX10_what_237 : decode cX10_what 237 = .ok (.ldc 233, 2) := by decide +kernel
theorem dX10_what_239 : decode cX10_what 239 = .ok (.invokevirtual 217, 3) := by decide +kernel
theorem dX10_what_242 : decode cX10_what 242 = .ok (.ifCond .eq 8, 3) := by decide +kernel
theorem dX10_what_245 : decode cX10_what 245 = .ok (.bipush 7, 2) := by decide +kernel
theorem dX10_what_247 : decode cX10_what 247 = .ok (.goto 4, 3) := by decide +kernel
theorem dX10_what_250 : decode cX10_what 250 = .ok (.iconst (-1), 1) := by decide +kernel
theorem dX10_what_251 : decode cX10_what 251 = .ok (.ireturn, 1) := by decide +kernel
theorem dX10_what_252 : decode cX10_what 252 = .ok (.iconst (-1), 1) := by decide +kernel
theorem dX10_what_253 : decode cX10_what 253 = .ok (.ireturn, 1) := by decide +kernel
theorem dX10_numbersOf_0 : decode cX10_numbersOf 0 = .ok (.iload_n 0, 1) := by decide +kernel
theorem dX10_numbersOf_1 : decode cX10_numbersOf 1 = .ok (.ifCond .ne 7, 3) := by decide +kernel
theorem dX10_numbersOf_4 : decode cX10_numbersOf 4 = .ok (.iconst 3, 1) := by decide +kernel
theorem dX10_numbersOf_5 : decode cX10_numbersOf 5 = .ok (.goto 22, 3) := by decide +kernel
theorem dX10_numbersOf_8 : decode cX10_numbersOf 8 = .ok (.iload_n 0, 1) := by decide +kernel
theorem dX10_numbersOf_9 : decode cX10_numbersOf 9 = .ok (.iconst 3, 1) := by decide +kernel
theorem dX10_numbersOf_10 : decode cX10_numbersOf 10 = .ok (.if_icmp .ge 7, 3) := by decide +kernel
theorem dX10_numbersOf_13 : decode cX10_numbersOf 13 = .ok (.iconst 2, 1) := by decide +kernel
theorem dX10_numbersOf_14 : decode cX10_numbersOf 14 = .ok (.goto 13, 3) := by decide +kernel
theorem dX10_numbersOf_17 : decode cX10_numbersOf 17 = .ok (.iload_n 0, 1) := by decide +kernel
theorem dX10_numbersOf_18 : decode cX10_numbersOf 18 = .ok (.iconst 3, 1) := by decide +kernel
theorem dX10_numbersOf_19 : decode cX10_numbersOf 19 = .ok (.if_icmp .ne 7, 3) := by decide +kernel
theorem dX10_numbersOf_22 : decode cX10_numbersOf 22 = .ok (.iconst 1, 1) := by decide +kernel
theorem dX10_numbersOf_23 : decode cX10_numbersOf 23 = .ok (.goto 4, 3) := by decide +kernel
theorem dX10_numbersOf_26 : decode cX10_numbersOf 26 = .ok (.iconst 0, 1) := by decide +kernel
theorem dX10_numbersOf_27 : decode cX10_numbersOf 27 = .ok (.ireturn, 1) := by decide +kernel
theorem dX10_numeral_0 : decode cX10_numeral 0 = .ok (.aload_n 0, 1) := by decide +kernel
theorem dX10_numeral_1 : decode cX10_numeral 1 = .ok (.invokevirtual 208, 3) := by decide +kernel
theorem dX10_numeral_4 : decode cX10_numeral 4 = .ok (.bipush 32, 2) := by decide +kernel
theorem dX10_numeral_6 : decode cX10_numeral 6 = .ok (.if_icmp .eq 5, 3) := by decide +kernel
theorem dX10_numeral_9 : decode cX10_numeral 9 = .ok (.iconst 0, 1) := by decide +kernel
theorem dX10_numeral_10 : decode cX10_numeral 10 = .ok (.ireturn, 1) := by decide +kernel
theorem dX10_numeral_11 : decode cX10_numeral 11 = .ok (.aload_n 0, 1) := by decide +kernel
theorem dX10_numeral_12 : decode cX10_numeral 12 = .ok (.dup, 1) := by decide +kernel
theorem dX10_numeral_13 : decode cX10_numeral 13 = .ok (.getfield 200, 3) := by decide +kernel
theorem dX10_numeral_16 : decode cX10_numeral 16 = .ok (.iconst 1, 1) := by decide +kernel
theorem dX10_numeral_17 : decode cX10_numeral 17 = .ok (.iadd, 1) := by decide +kernel
theorem dX10_numeral_18 : decode cX10_numeral 18 = .ok (.putfield 200, 3) := by decide +kernel
theorem dX10_numeral_21 : decode cX10_numeral 21 = .ok (.aload_n 0, 1) := by decide +kernel
theorem dX10_numeral_22 : decode cX10_numeral 22 = .ok (.invokevirtual 208, 3) := by decide +kernel
theorem dX10_numeral_25 : decode cX10_numeral 25 = .ok (.bipush 45, 2) := by decide +kernel
theorem dX10_numeral_27 : decode cX10_numeral 27 = .ok (.if_icmp .ne 7, 3) := by decide +kernel
theorem dX10_numeral_30 : decode cX10_numeral 30 = .ok (.iconst 1, 1) := by decide +kernel
theorem dX10_numeral_31 : decode cX10_numeral 31 = .ok (.goto 4, 3) := by decide +kernel
theorem dX10_numeral_34 : decode cX10_numeral 34 = .ok (.iconst 0, 1) := by decide +kernel
theorem dX10_numeral_35 : decode cX10_numeral 35 = .ok (.istore_n 2, 1) := by decide +kernel
theorem dX10_numeral_36 : decode cX10_numeral 36 = .ok (.iload_n 2, 1) := by decide +kernel
theorem dX10_numeral_37 : decode cX10_numeral 37 = .ok (.ifCond .eq 13, 3) := by decide +kernel
theorem dX10_numeral_40 : decode cX10_numeral 40 = .ok (.aload_n 0, 1) := by decide +kernel
theorem dX10_numeral_41 : decode cX10_numeral 41 = .ok (.dup, 1) := by decide +kernel
theorem dX10_numeral_42 : decode cX10_numeral 42 = .ok (.getfield 200, 3) := by decide +kernel
theorem dX10_numeral_45 : decode cX10_numeral 45 = .ok (.iconst 1, 1) := by decide +kernel
theorem dX10_numeral_46 : decode cX10_numeral 46 = .ok (.iadd, 1) := by decide +kernel
theorem dX10_numeral_47 : decode cX10_numeral 47 = .ok (.putfield 200, 3) := by decide +kernel
theorem dX10_numeral_50 : decode cX10_numeral 50 = .ok (.iconst 0, 1) := by decide +kernel
theorem dX10_numeral_51 : decode cX10_numeral 51 = .ok (.istore_n 3, 1) := by decide +kernel
theorem dX10_numeral_52 : decode cX10_numeral 52 = .ok (.iconst 0, 1) := by decide +kernel
theorem dX10_numeral_53 : decode cX10_numeral 53 = .ok (.istore 4, 2) := by decide +kernel
theorem dX10_numeral_55 : decode cX10_numeral 55 = .ok (.iload_n 3, 1) := by decide +kernel
theorem dX10_numeral_56 : decode cX10_numeral 56 = .ok (.bipush 6, 2) := by decide +kernel
theorem dX10_numeral_58 : decode cX10_numeral 58 = .ok (.if_icmp .ge 51, 3) := by decide +kernel
theorem dX10_numeral_61 : decode cX10_numeral 61 = .ok (.aload_n 0, 1) := by decide +kernel
theorem dX10_numeral_62 : decode cX10_numeral 62 = .ok (.invokevirtual 208, 3) := by decide +kernel
theorem dX10_numeral_65 : decode cX10_numeral 65 = .ok (.i2l, 1) := by decide +kernel
theorem dX10_numeral_66 : decode cX10_numeral 66 = .ok (.ldc2_w 235, 3) := by decide +kernel
theorem dX10_numeral_69 : decode cX10_numeral 69 = .ok (.ldc2_w 237, 3) := by decide +kernel
theorem dX10_numeral_72 : decode cX10_numeral 72 = .ok (.invokestatic 116, 3) := by decide +kernel
theorem dX10_numeral_75 : decode cX10_numeral 75 = .ok (.ifCond .eq 34, 3) := by decide +kernel
theorem dX10_numeral_78 : decode cX10_numeral 78 = .ok (.bipush 10, 2) := by decide +kernel
theorem dX10_numeral_80 : decode cX10_numeral 80 = .ok (.iload 4, 2) := by decide +kernel
theorem dX10_numeral_82 : decode cX10_numeral 82 = .ok (.imul, 1) := by decide +kernel
theorem dX10_numeral_83 : decode cX10_numeral 83 = .ok (.aload_n 0, 1) := by decide +kernel
theorem dX10_numeral_84 : decode cX10_numeral 84 = .ok (.invokevirtual 208, 3) := by decide +kernel
theorem dX10_numeral_87 : decode cX10_numeral 87 = .ok (.iadd, 1) := by decide +kernel
theorem dX10_numeral_88 : decode cX10_numeral 88 = .ok (.bipush 48, 2) := by decide +kernel
theorem dX10_numeral_90 : decode cX10_numeral 90 = .ok (.isub, 1) := by decide +kernel
theorem dX10_numeral_91 : decode cX10_numeral 91 = .ok (.istore 4, 2) := by decide +kernel
theorem dX10_numeral_93 : decode cX10_numeral 93 = .ok (.aload_n 0, 1) := by decide +kernel
theorem dX10_numeral_94 : decode cX10_numeral 94 = .ok (.dup, 1) := by decide +kernel
theorem dX10_numeral_95 : decode cX10_numeral 95 = .ok (.getfield 200, 3) := by decide +kernel
theorem dX10_numeral_98 : decode cX10_numeral 98 = .ok (.iconst 1, 1) := by decide +kernel
theorem dX10_numeral_99 : decode cX10_numeral 99 = .ok (.iadd, 1) := by decide +kernel
theorem dX10_numeral_100 : decode cX10_numeral 100 = .ok (.putfield 200, 3) := by decide +kernel
theorem dX10_numeral_103 : decode cX10_numeral 103 = .ok (.iinc 3 1, 3) := by decide +kernel
theorem dX10_numeral_106 : decode cX10_numeral 106 = .ok (.goto (-51), 3) := by decide +kernel
theorem dX10_numeral_109 : decode cX10_numeral 109 = .ok (.aload_n 0, 1) := by decide +kernel
theorem dX10_numeral_110 : decode cX10_numeral 110 = .ok (.getfield 61, 3) := by decide +kernel
theorem dX10_numeral_113 : decode cX10_numeral 113 = .ok (.iload_n 1, 1) := by decide +kernel
theorem dX10_numeral_114 : decode cX10_numeral 114 = .ok (.iload_n 2, 1) := by decide +kernel
theorem dX10_numeral_115 : decode cX10_numeral 115 = .ok (.ifCond .eq 9, 3) := by decide +kernel
theorem dX10_numeral_118 : decode cX10_numeral 118 = .ok (.iload 4, 2) := by decide +kernel
theorem dX10_numeral_120 : decode cX10_numeral 120 = .ok (.ineg, 1) := by decide +kernel
theorem dX10_numeral_121 : decode cX10_numeral 121 = .ok (.goto 5, 3) := by decide +kernel
theorem dX10_numeral_124 : decode cX10_numeral 124 = .ok (.iload 4, 2) := by decide +kernel
theorem dX10_numeral_126 : decode cX10_numeral 126 = .ok (.iastore, 1) := by decide +kernel
theorem dX10_numeral_127 : decode cX10_numeral 127 = .ok (.iload_n 3, 1) := by decide +kernel
theorem dX10_numeral_128 : decode cX10_numeral 128 = .ok (.ifCond .le 7, 3) := by decide +kernel
theorem dX10_numeral_131 : decode cX10_numeral 131 = .ok (.iconst 1, 1) := by decide +kernel
theorem dX10_numeral_132 : decode cX10_numeral 132 = .ok (.goto 4, 3) := by decide +kernel
theorem dX10_numeral_135 : decode cX10_numeral 135 = .ok (.iconst 0, 1) := by decide +kernel
theorem dX10_numeral_136 : decode cX10_numeral 136 = .ok (.ireturn, 1) := by decide +kernel
theorem dX10_reads_0 : decode cX10_reads 0 = .ok (.aload_n 0, 1) := by decide +kernel
theorem dX10_reads_1 : decode cX10_reads 1 = .ok (.iconst 0, 1) := by decide +kernel
theorem dX10_reads_2 : decode cX10_reads 2 = .ok (.putfield 200, 3) := by decide +kernel
theorem dX10_reads_5 : decode cX10_reads 5 = .ok (.aload_n 0, 1) := by decide +kernel
theorem dX10_reads_6 : decode cX10_reads 6 = .ok (.iconst 0, 1) := by decide +kernel
theorem dX10_reads_7 : decode cX10_reads 7 = .ok (.putfield 239, 3) := by decide +kernel
theorem dX10_reads_10 : decode cX10_reads 10 = .ok (.aload_n 0, 1) := by decide +kernel
theorem dX10_reads_11 : decode cX10_reads 11 = .ok (.invokevirtual 242, 3) := by decide +kernel
theorem dX10_reads_14 : decode cX10_reads 14 = .ok (.istore_n 1, 1) := by decide +kernel
theorem dX10_reads_15 : decode cX10_reads 15 = .ok (.iload_n 1, 1) := by decide +kernel
theorem dX10_reads_16 : decode cX10_reads 16 = .ok (.ifCond .ge 5, 3) := by decide +kernel
theorem dX10_reads_19 : decode cX10_reads 19 = .ok (.iconst 0, 1) := by decide +kernel
theorem dX10_reads_20 : decode cX10_reads 20 = .ok (.ireturn, 1) := by decide +kernel
theorem dX10_reads_21 : decode cX10_reads 21 = .ok (.aload_n 0, 1) := by decide +kernel
theorem dX10_reads_22 : decode cX10_reads 22 = .ok (.getfield 58, 3) := by decide +kernel
theorem dX10_reads_25 : decode cX10_reads 25 = .ok (.aload_n 0, 1) := by decide +kernel
theorem dX10_reads_26 : decode cX10_reads 26 = .ok (.getfield 239, 3) := by decide +kernel
theorem dX10_reads_29 : decode cX10_reads 29 = .ok (.iload_n 1, 1) := by decide +kernel
theorem dX10_reads_30 : decode cX10_reads 30 = .ok (.iastore, 1) := by decide +kernel
theorem dX10_reads_31 : decode cX10_reads 31 = .ok (.iconst 0, 1) := by decide +kernel
theorem dX10_reads_32 : decode cX10_reads 32 = .ok (.istore_n 2, 1) := by decide +kernel
theorem dX10_reads_33 : decode cX10_reads 33 = .ok (.iload_n 2, 1) := by decide +kernel
theorem dX10_reads_34 : decode cX10_reads 34 = .ok (.iload_n 1, 1) := by decide +kernel
theorem dX10_reads_35 : decode cX10_reads 35 = .ok (.invokestatic 245, 3) := by decide +kernel
theorem dX10_reads_38 : decode cX10_reads 38 = .ok (.if_icmp .ge 26, 3) := by decide +kernel
theorem dX10_reads_41 : decode cX10_reads 41 = .ok (.aload_n 0, 1) := by decide +kernel
theorem dX10_reads_42 : decode cX10_reads 42 = .ok (.iconst 3, 1) := by decide +kernel
theorem dX10_reads_43 : decode cX10_reads 43 = .ok (.aload_n 0, 1) := by decide +kernel
theorem dX10_reads_44 : decode cX10_reads 44 = .ok (.getfield 239, 3) := by decide +kernel
theorem dX10_reads_47 : decode cX10_reads 47 = .ok (.imul, 1) := by decide +kernel
theorem dX10_reads_48 : decode cX10_reads 48 = .ok (.iload_n 2, 1) := by decide +kernel
theorem dX10_reads_49 : decode cX10_reads 49 = .ok (.iadd, 1) := by decide +kernel
theorem dX10_reads_50 : decode cX10_reads 50 = .ok (.invokevirtual 248, 3) := by decide +kernel
theorem dX10_reads_53 : decode cX10_reads 53 = .ok (.ifCond .ne 5, 3) := by decide +kernel
theorem dX10_reads_56 : decode cX10_reads 56 = .ok (.iconst 0, 1) := by decide +kernel
theorem dX10_reads_57 : decode cX10_reads 57 = .ok (.ireturn, 1) := by decide +kernel
theorem dX10_reads_58 : decode cX10_reads 58 = .ok (.iinc 2 1, 3) := by decide +kernel
theorem dX10_reads_61 : decode cX10_reads 61 = .ok (.goto (-28), 3) := by decide +kernel
theorem dX10_reads_64 : decode cX10_reads 64 = .ok (.aload_n 0, 1) := by decide +kernel
theorem dX10_reads_65 : decode cX10_reads 65 = .ok (.dup, 1) := by decide +kernel
theorem dX10_reads_66 : decode cX10_reads 66 = .ok (.getfield 239, 3) := by decide +kernel
theorem dX10_reads_69 : decode cX10_reads 69 = .ok (.iconst 1, 1) := by decide +kernel
theorem dX10_reads_70 : decode cX10_reads 70 = .ok (.iadd, 1) := by decide +kernel
theorem dX10_reads_71 : decode cX10_reads 71 = .ok (.putfield 239, 3) := by decide +kernel
theorem dX10_reads_74 : decode cX10_reads 74 = .ok (.aload_n 0, 1) := by decide +kernel
theorem dX10_reads_75 : decode cX10_reads 75 = .ok (.getfield 200, 3) := by decide +kernel
theorem dX10_reads_78 : decode cX10_reads 78 = .ok (.aload_n 0, 1) := by decide +kernel
theorem dX10_reads_79 : decode cX10_reads 79 = .ok (.getfield 197, 3) := by decide +kernel
theorem dX10_reads_82 : decode cX10_reads 82 = .ok (.if_icmp .ne 5, 3) := by decide +kernel
theorem dX10_reads_85 : decode cX10_reads 85 = .ok (.iconst 1, 1) := by decide +kernel
theorem dX10_reads_86 : decode cX10_reads 86 = .ok (.ireturn, 1) := by decide +kernel
theorem dX10_reads_87 : decode cX10_reads 87 = .ok (.aload_n 0, 1) := by decide +kernel
theorem dX10_reads_88 : decode cX10_reads 88 = .ok (.invokevirtual 208, 3) := by decide +kernel
theorem dX10_reads_91 : decode cX10_reads 91 = .ok (.bipush 59, 2) := by decide +kernel
theorem dX10_reads_93 : decode cX10_reads 93 = .ok (.if_icmp .ne 12, 3) := by decide +kernel
theorem dX10_reads_96 : decode cX10_reads 96 = .ok (.aload_n 0, 1) := by decide +kernel
theorem dX10_reads_97 : decode cX10_reads 97 = .ok (.getfield 239, 3) := by decide +kernel
theorem dX10_reads_100 : decode cX10_reads 100 = .ok (.bipush 12, 2) := by decide +kernel
theorem dX10_reads_102 : decode cX10_reads 102 = .ok (.if_icmp .ne 5, 3) := by decide +kernel
theorem dX10_reads_105 : decode cX10_reads 105 = .ok (.iconst 0, 1) := by decide +kernel
theorem dX10_reads_106 : decode cX10_reads 106 = .ok (.ireturn, 1) := by decide +kernel
theorem dX10_reads_107 : decode cX10_reads 107 = .ok (.aload_n 0, 1) := by decide +kernel
theorem dX10_reads_108 : decode cX10_reads 108 = .ok (.dup, 1) := by decide +kernel
theorem dX10_reads_109 : decode cX10_reads 109 = .ok (.getfield 200, 3) := by decide +kernel
theorem dX10_reads_112 : decode cX10_reads 112 = .ok (.iconst 1, 1) := by decide +kernel
theorem dX10_reads_113 : decode cX10_reads 113 = .ok (.iadd, 1) := by decide +kernel
theorem dX10_reads_114 : decode cX10_reads 114 = .ok (.putfield 200, 3) := by decide +kernel
theorem dX10_reads_117 : decode cX10_reads 117 = .ok (.goto (-107), 3) := by decide +kernel
theorem dX10_does_0 : decode cX10_does 0 = .ok (.aload_n 0, 1) := by decide +kernel
theorem dX10_does_1 : decode cX10_does 1 = .ok (.getfield 61, 3) := by decide +kernel
theorem dX10_does_4 : decode cX10_does 4 = .ok (.iconst 3, 1) := by decide +kernel
theorem dX10_does_5 : decode cX10_does 5 = .ok (.iload_n 1, 1) := by decide +kernel
theorem dX10_does_6 : decode cX10_does 6 = .ok (.imul, 1) := by decide +kernel
theorem dX10_does_7 : decode cX10_does 7 = .ok (.iaload, 1) := by decide +kernel
theorem dX10_does_8 : decode cX10_does 8 = .ok (.istore_n 2, 1) := by decide +kernel
theorem dX10_does_9 : decode cX10_does 9 = .ok (.aload_n 0, 1) := by decide +kernel
theorem dX10_does_10 : decode cX10_does 10 = .ok (.getfield 61, 3) := by decide +kernel
theorem dX10_does_13 : decode cX10_does 13 = .ok (.iconst 3, 1) := by decide +kernel
theorem dX10_does_14 : decode cX10_does 14 = .ok (.iload_n 1, 1) := by decide +kernel
theorem dX10_does_15 : decode cX10_does 15 = .ok (.imul, 1) := by decide +kernel
theorem dX10_does_16 : decode cX10_does 16 = .ok (.iconst 1, 1) := by decide +kernel
theorem dX10_does_17 : decode cX10_does 17 = .ok (.iadd, 1) := by decide +kernel
theorem dX10_does_18 : decode cX10_does 18 = .ok (.iaload, 1) := by decide +kernel
theorem dX10_does_19 : decode cX10_does 19 = .ok (.istore_n 3, 1) := by decide +kernel
theorem dX10_does_20 : decode cX10_does 20 = .ok (.aload_n 0, 1) := by decide +kernel
theorem dX10_does_21 : decode cX10_does 21 = .ok (.getfield 58, 3) := by decide +kernel
theorem dX10_does_24 : decode cX10_does 24 = .ok (.iload_n 1, 1) := by decide +kernel
theorem dX10_does_25 : decode cX10_does 25 = .ok (.iaload, 1) := by decide +kernel
theorem dX10_does_26 : decode cX10_does 26 = .ok (.tableswitch 162 0 6 #[42, 67, 82, 97, 123, 136, 149], 42) := by decide +kernel
theorem dX10_does_68 : decode cX10_does 68 = .ok (.aload_n 0, 1) := by decide +kernel
theorem dX10_does_69 : decode cX10_does 69 = .ok (.iload_n 2, 1) := by decide +kernel
theorem dX10_does_70 : decode cX10_does 70 = .ok (.iload_n 3, 1) := by decide +kernel
theorem dX10_does_71 : decode cX10_does 71 = .ok (.aload_n 0, 1) := by decide +kernel
theorem dX10_does_72 : decode cX10_does 72 = .ok (.getfield 61, 3) := by decide +kernel
theorem dX10_does_75 : decode cX10_does 75 = .ok (.iconst 3, 1) := by decide +kernel
theorem dX10_does_76 : decode cX10_does 76 = .ok (.iload_n 1, 1) := by decide +kernel
theorem dX10_does_77 : decode cX10_does 77 = .ok (.imul, 1) := by decide +kernel
theorem dX10_does_78 : decode cX10_does 78 = .ok (.iconst 2, 1) := by decide +kernel
theorem dX10_does_79 : decode cX10_does 79 = .ok (.iadd, 1) := by decide +kernel
theorem dX10_does_80 : decode cX10_does 80 = .ok (.iaload, 1) := by decide +kernel
theorem dX10_does_81 : decode cX10_does 81 = .ok (.invokevirtual 251, 3) := by decide +kernel
theorem dX10_does_84 : decode cX10_does 84 = .ok (.ifCond .lt 7, 3) := by decide +kernel
theorem dX10_does_87 : decode cX10_does 87 = .ok (.iconst 1, 1) := by decide +kernel
theorem dX10_does_88 : decode cX10_does 88 = .ok (.goto 4, 3) := by decide +kernel
theorem dX10_does_91 : decode cX10_does 91 = .ok (.iconst 0, 1) := by decide +kernel
theorem dX10_does_92 : decode cX10_does 92 = .ok (.ireturn, 1) := by decide +kernel
theorem dX10_does_93 : decode cX10_does 93 = .ok (.aload_n 0, 1) := by decide +kernel
theorem dX10_does_94 : decode cX10_does 94 = .ok (.iload_n 2, 1) := by decide +kernel
theorem dX10_does_95 : decode cX10_does 95 = .ok (.iload_n 3, 1) := by decide +kernel
theorem dX10_does_96 : decode cX10_does 96 = .ok (.invokevirtual 254, 3) := by decide +kernel
theorem dX10_does_99 : decode cX10_does 99 = .ok (.ifCond .lt 7, 3) := by decide +kernel
theorem dX10_does_102 : decode cX10_does 102 = .ok (.iconst 1, 1) := by decide +kernel
theorem dX10_does_103 : decode cX10_does 103 = .ok (.goto 4, 3) := by decide +kernel
theorem dX10_does_106 : decode cX10_does 106 = .ok (.iconst 0, 1) := by decide +kernel
theorem dX10_does_107 : decode cX10_does 107 = .ok (.ireturn, 1) := by decide +kernel
theorem dX10_does_108 : decode cX10_does 108 = .ok (.aload_n 0, 1) := by decide +kernel
theorem dX10_does_109 : decode cX10_does 109 = .ok (.iload_n 2, 1) := by decide +kernel
theorem dX10_does_110 : decode cX10_does 110 = .ok (.iload_n 3, 1) := by decide +kernel
theorem dX10_does_111 : decode cX10_does 111 = .ok (.invokevirtual 256, 3) := by decide +kernel
theorem dX10_does_114 : decode cX10_does 114 = .ok (.ifCond .lt 7, 3) := by decide +kernel
theorem dX10_does_117 : decode cX10_does 117 = .ok (.iconst 1, 1) := by decide +kernel
theorem dX10_does_118 : decode cX10_does 118 = .ok (.goto 4, 3) := by decide +kernel
theorem dX10_does_121 : decode cX10_does 121 = .ok (.iconst 0, 1) := by decide +kernel
theorem dX10_does_122 : decode cX10_does 122 = .ok (.ireturn, 1) := by decide +kernel
theorem dX10_does_123 : decode cX10_does 123 = .ok (.aload_n 0, 1) := by decide +kernel
theorem dX10_does_124 : decode cX10_does 124 = .ok (.iload_n 2, 1) := by decide +kernel
theorem dX10_does_125 : decode cX10_does 125 = .ok (.invokevirtual 140, 3) := by decide +kernel
theorem dX10_does_128 : decode cX10_does 128 = .ok (.ifCond .ne 5, 3) := by decide +kernel
theorem dX10_does_131 : decode cX10_does 131 = .ok (.iconst 0, 1) := by decide +kernel
theorem dX10_does_132 : decode cX10_does 132 = .ok (.ireturn, 1) := by decide +kernel
theorem dX10_does_133 : decode cX10_does 133 = .ok (.aload_n 0, 1) := by decide +kernel
theorem dX10_does_134 : decode cX10_does 134 = .ok (.getfield 31, 3) := by decide +kernel
theorem dX10_does_137 : decode cX10_does 137 = .ok (.iload_n 2, 1) := by decide +kernel
theorem dX10_does_138 : decode cX10_does 138 = .ok (.iconst 1, 1) := by decide +kernel
theorem dX10_does_139 : decode cX10_does 139 = .ok (.aload_n 0, 1) := by decide +kernel
theorem dX10_does_140 : decode cX10_does 140 = .ok (.getfield 31, 3) := by decide +kernel
theorem dX10_does_143 : decode cX10_does 143 = .ok (.iload_n 2, 1) := by decide +kernel
theorem dX10_does_144 : decode cX10_does 144 = .ok (.iaload, 1) := by decide +kernel
theorem dX10_does_145 : decode cX10_does 145 = .ok (.isub, 1) := by decide +kernel
theorem dX10_does_146 : decode cX10_does 146 = .ok (.iastore, 1) := by decide +kernel
theorem dX10_does_147 : decode cX10_does 147 = .ok (.iconst 1, 1) := by decide +kernel
theorem dX10_does_148 : decode cX10_does 148 = .ok (.ireturn, 1) := by decide +kernel
theorem dX10_does_149 : decode cX10_does 149 = .ok (.aload_n 0, 1) := by decide +kernel
theorem dX10_does_150 : decode cX10_does 150 = .ok (.invokevirtual 259, 3) := by decide +kernel
theorem dX10_does_153 : decode cX10_does 153 = .ok (.ifCond .lt 7, 3) := by decide +kernel
theorem dX10_does_156 : decode cX10_does 156 = .ok (.iconst 1, 1) := by decide +kernel
theorem dX10_does_157 : decode cX10_does 157 = .ok (.goto 4, 3) := by decide +kernel
theorem dX10_does_160 : decode cX10_does 160 = .ok (.iconst 0, 1) := by decide +kernel
theorem dX10_does_161 : decode cX10_does 161 = .ok (.ireturn, 1) := by decide +kernel
theorem dX10_does_162 : decode cX10_does 162 = .ok (.aload_n 0, 1) := by decide +kernel
theorem dX10_does_163 : decode cX10_does 163 = .ok (.invokevirtual 262, 3) := by decide +kernel
theorem dX10_does_166 : decode cX10_does 166 = .ok (.ifCond .lt 7, 3) := by decide +kernel
theorem dX10_does_169 : decode cX10_does 169 = .ok (.iconst 1, 1) := by decide +kernel
theorem dX10_does_170 : decode cX10_does 170 = .ok (.goto 4, 3) := by decide +kernel
theorem dX10_does_173 : decode cX10_does 173 = .ok (.iconst 0, 1) := by decide +kernel
theorem dX10_does_174 : decode cX10_does 174 = .ok (.ireturn, 1) := by decide +kernel
theorem dX10_does_175 : decode cX10_does 175 = .ok (.aload_n 0, 1) := by decide +kernel
theorem dX10_does_176 : decode cX10_does 176 = .ok (.invokevirtual 265, 3) := by decide +kernel
theorem dX10_does_179 : decode cX10_does 179 = .ok (.ifCond .lt 7, 3) := by decide +kernel
theorem dX10_does_182 : decode cX10_does 182 = .ok (.iconst 1, 1) := by decide +kernel
theorem dX10_does_183 : decode cX10_does 183 = .ok (.goto 4, 3) := by decide +kernel
theorem dX10_does_186 : decode cX10_does 186 = .ok (.iconst 0, 1) := by decide +kernel
theorem dX10_does_187 : decode cX10_does 187 = .ok (.ireturn, 1) := by decide +kernel
theorem dX10_does_188 : decode cX10_does 188 = .ok (.aload_n 0, 1) := by decide +kernel
theorem dX10_does_189 : decode cX10_does 189 = .ok (.invokevirtual 267, 3) := by decide +kernel
theorem dX10_does_192 : decode cX10_does 192 = .ok (.ifCond .lt 7, 3) := by decide +kernel
theorem dX10_does_195 : decode cX10_does 195 = .ok (.iconst 1, 1) := by decide +kernel
theorem dX10_does_196 : decode cX10_does 196 = .ok (.goto 4, 3) := by decide +kernel
theorem dX10_does_199 : decode cX10_does 199 = .ok (.iconst 0, 1) := by decide +kernel
theorem dX10_does_200 : decode cX10_does 200 = .ok (.ireturn, 1) := by decide +kernel
theorem dX10_read_0 : decode cX10_read 0 = .ok (.aload_n 0, 1) := by decide +kernel
theorem dX10_read_1 : decode cX10_read 1 = .ok (.invokevirtual 269, 3) := by decide +kernel
theorem dX10_read_4 : decode cX10_read 4 = .ok (.istore_n 1, 1) := by decide +kernel
theorem dX10_read_5 : decode cX10_read 5 = .ok (.aload_n 0, 1) := by decide +kernel
theorem dX10_read_6 : decode cX10_read 6 = .ok (.iconst 0, 1) := by decide +kernel
theorem dX10_read_7 : decode cX10_read 7 = .ok (.putfield 197, 3) := by decide +kernel
theorem dX10_read_10 : decode cX10_read 10 = .ok (.iload_n 1, 1) := by decide +kernel
theorem dX10_read_11 : decode cX10_read 11 = .ok (.ifCond .ne 11, 3) := by decide +kernel
theorem dX10_read_14 : decode cX10_read 14 = .ok (.bipush (-10), 2) := by decide +kernel
theorem dX10_read_16 : decode cX10_read 16 = .ok (.aload_n 0, 1) := by decide +kernel
theorem dX10_read_17 : decode cX10_read 17 = .ok (.getfield 200, 3) := by decide +kernel
theorem dX10_read_20 : decode cX10_read 20 = .ok (.isub, 1) := by decide +kernel
theorem dX10_read_21 : decode cX10_read 21 = .ok (.ireturn, 1) := by decide +kernel
theorem dX10_read_22 : decode cX10_read 22 = .ok (.iconst 0, 1) := by decide +kernel
theorem dX10_read_23 : decode cX10_read 23 = .ok (.istore_n 2, 1) := by decide +kernel
theorem dX10_read_24 : decode cX10_read 24 = .ok (.iconst 0, 1) := by decide +kernel
theorem dX10_read_25 : decode cX10_read 25 = .ok (.istore_n 3, 1) := by decide +kernel
theorem dX10_read_26 : decode cX10_read 26 = .ok (.iload_n 3, 1) := by decide +kernel
theorem dX10_read_27 : decode cX10_read 27 = .ok (.aload_n 0, 1) := by decide +kernel
theorem dX10_read_28 : decode cX10_read 28 = .ok (.getfield 239, 3) := by decide +kernel
theorem dX10_read_31 : decode cX10_read 31 = .ok (.if_icmp .ge 20, 3) := by decide +kernel
theorem dX10_read_34 : decode cX10_read 34 = .ok (.aload_n 0, 1) := by decide +kernel
theorem dX10_read_35 : decode cX10_read 35 = .ok (.iload_n 3, 1) := by decide +kernel
theorem dX10_read_36 : decode cX10_read 36 = .ok (.invokevirtual 272, 3) := by decide +kernel
theorem dX10_read_39 : decode cX10_read 39 = .ok (.ifCond .eq 6, 3) := by decide +kernel
theorem dX10_read_42 : decode cX10_read 42 = .ok (.iinc 2 1, 3) := by decide +kernel
theorem dX10_read_45 : decode cX10_read 45 = .ok (.iinc 3 1, 3) := by decide +kernel
theorem dX10_read_48 : decode cX10_read 48 = .ok (.goto (-22), 3) := by decide +kernel
theorem dX10_read_51 : decode cX10_read 51 = .ok (.iload_n 2, 1) := by decide +kernel
theorem dX10_read_52 : decode cX10_read 52 = .ok (.ireturn, 1) := by decide +kernel
theorem dX10_coverOf_0 : decode cX10_coverOf 0 = .ok (.iconst 0, 1) := by decide +kernel
theorem dX10_coverOf_1 : decode cX10_coverOf 1 = .ok (.istore_n 2, 1) := by decide +kernel
theorem dX10_coverOf_2 : decode cX10_coverOf 2 = .ok (.iconst 0, 1) := by decide +kernel
theorem dX10_coverOf_3 : decode cX10_coverOf 3 = .ok (.istore_n 3, 1) := by decide +kernel
theorem dX10_coverOf_4 : decode cX10_coverOf 4 = .ok (.iload_n 3, 1) := by decide +kernel
theorem dX10_coverOf_5 : decode cX10_coverOf 5 = .ok (.aload_n 0, 1) := by decide +kernel
theorem dX10_coverOf_6 : decode cX10_coverOf 6 = .ok (.getfield 110, 3) := by decide +kernel
theorem dX10_coverOf_9 : decode cX10_coverOf 9 = .ok (.if_icmp .ge 30, 3) := by decide +kernel
theorem dX10_coverOf_12 : decode cX10_coverOf 12 = .ok (.aload_n 0, 1) := by decide +kernel
theorem dX10_coverOf_13 : decode cX10_coverOf 13 = .ok (.getfield 21, 3) := by decide +kernel
theorem dX10_coverOf_16 : decode cX10_coverOf 16 = .ok (.iload_n 3, 1) := by decide +kernel
theorem dX10_coverOf_17 : decode cX10_coverOf 17 = .ok (.iaload, 1) := by decide +kernel
theorem dX10_coverOf_18 : decode cX10_coverOf 18 = .ok (.iload_n 1, 1) := by decide +kernel
theorem dX10_coverOf_19 : decode cX10_coverOf 19 = .ok (.iand, 1) := by decide +kernel
theorem dX10_coverOf_20 : decode cX10_coverOf 20 = .ok (.iload_n 1, 1) := by decide +kernel
theorem dX10_coverOf_21 : decode cX10_coverOf 21 = .ok (.if_icmp .ne 12, 3) := by decide +kernel
theorem dX10_coverOf_24 : decode cX10_coverOf 24 = .ok (.iload_n 2, 1) := by decide +kernel
theorem dX10_coverOf_25 : decode cX10_coverOf 25 = .ok (.aload_n 0, 1) := by decide +kernel
theorem dX10_coverOf_26 : decode cX10_coverOf 26 = .ok (.getfield 31, 3) := by decide +kernel
theorem dX10_coverOf_29 : decode cX10_coverOf 29 = .ok (.iload_n 3, 1) := by decide +kernel
theorem dX10_coverOf_30 : decode cX10_coverOf 30 = .ok (.iaload, 1) := by decide +kernel
theorem dX10_coverOf_31 : decode cX10_coverOf 31 = .ok (.iadd, 1) := by decide +kernel
theorem dX10_coverOf_32 : decode cX10_coverOf 32 = .ok (.istore_n 2, 1) := by decide +kernel
theorem dX10_coverOf_33 : decode cX10_coverOf 33 = .ok (.iinc 3 1, 3) := by decide +kernel
theorem dX10_coverOf_36 : decode cX10_coverOf 36 = .ok (.goto (-32), 3) := by decide +kernel
theorem dX10_coverOf_39 : decode cX10_coverOf 39 = .ok (.iload_n 2, 1) := by decide +kernel
theorem dX10_coverOf_40 : decode cX10_coverOf 40 = .ok (.ireturn, 1) := by decide +kernel
theorem dX10_index_0 : decode cX10_index 0 = .ok (.bipush (-5), 2) := by decide +kernel
theorem dX10_index_2 : decode cX10_index 2 = .ok (.istore_n 1, 1) := by decide +kernel
theorem dX10_index_3 : decode cX10_index 3 = .ok (.iconst 0, 1) := by decide +kernel
theorem dX10_index_4 : decode cX10_index 4 = .ok (.istore_n 2, 1) := by decide +kernel
theorem dX10_index_5 : decode cX10_index 5 = .ok (.iload_n 2, 1) := by decide +kernel
theorem dX10_index_6 : decode cX10_index 6 = .ok (.iconst 1, 1) := by decide +kernel
theorem dX10_index_7 : decode cX10_index 7 = .ok (.aload_n 0, 1) := by decide +kernel
theorem dX10_index_8 : decode cX10_index 8 = .ok (.getfield 9, 3) := by decide +kernel
theorem dX10_index_11 : decode cX10_index 11 = .ok (.ishl, 1) := by decide +kernel
theorem dX10_index_12 : decode cX10_index 12 = .ok (.if_icmp .ge 45, 3) := by decide +kernel
theorem dX10_index_15 : decode cX10_index 15 = .ok (.iload_n 2, 1) := by decide +kernel
theorem dX10_index_16 : decode cX10_index 16 = .ok (.invokestatic 113, 3) := by decide +kernel
theorem dX10_index_19 : decode cX10_index 19 = .ok (.aload_n 0, 1) := by decide +kernel
theorem dX10_index_20 : decode cX10_index 20 = .ok (.getfield 18, 3) := by decide +kernel
theorem dX10_index_23 : decode cX10_index 23 = .ok (.if_icmp .eq 6, 3) := by decide +kernel
theorem dX10_index_26 : decode cX10_index 26 = .ok (.goto 25, 3) := by decide +kernel
theorem dX10_index_29 : decode cX10_index 29 = .ok (.aload_n 0, 1) := by decide +kernel
theorem dX10_index_30 : decode cX10_index 30 = .ok (.iload_n 2, 1) := by decide +kernel
theorem dX10_index_31 : decode cX10_index 31 = .ok (.invokevirtual 275, 3) := by decide +kernel
theorem dX10_index_34 : decode cX10_index 34 = .ok (.istore_n 3, 1) := by decide +kernel
theorem dX10_index_35 : decode cX10_index 35 = .ok (.iload_n 1, 1) := by decide +kernel
theorem dX10_index_36 : decode cX10_index 36 = .ok (.bipush (-5), 2) := by decide +kernel
theorem dX10_index_38 : decode cX10_index 38 = .ok (.if_icmp .eq 11, 3) := by decide +kernel
theorem dX10_index_41 : decode cX10_index 41 = .ok (.iload_n 3, 1) := by decide +kernel
theorem dX10_index_42 : decode cX10_index 42 = .ok (.iload_n 1, 1) := by decide +kernel
theorem dX10_index_43 : decode cX10_index 43 = .ok (.if_icmp .eq 6, 3) := by decide +kernel
theorem dX10_index_46 : decode cX10_index 46 = .ok (.bipush (-5), 2) := by decide +kernel
theorem dX10_index_48 : decode cX10_index 48 = .ok (.ireturn, 1) := by decide +kernel
theorem dX10_index_49 : decode cX10_index 49 = .ok (.iload_n 3, 1) := by decide +kernel
theorem dX10_index_50 : decode cX10_index 50 = .ok (.istore_n 1, 1) := by decide +kernel
theorem dX10_index_51 : decode cX10_index 51 = .ok (.iinc 2 1, 3) := by decide +kernel
theorem dX10_index_54 : decode cX10_index 54 = .ok (.goto (-49), 3) := by decide +kernel
theorem dX10_index_57 : decode cX10_index 57 = .ok (.iload_n 1, 1) := by decide +kernel
theorem dX10_index_58 : decode cX10_index 58 = .ok (.ireturn, 1) := by decide +kernel
theorem dX10_foundation_0 : decode cX10_foundation 0 = .ok (.iconst 0, 1) := by decide +kernel
theorem dX10_foundation_1 : decode cX10_foundation 1 = .ok (.istore_n 1, 1) := by decide +kernel
theorem dX10_foundation_2 : decode cX10_foundation 2 = .ok (.iconst 0, 1) := by decide +kernel
theorem dX10_foundation_3 : decode cX10_foundation 3 = .ok (.istore_n 2, 1) := by decide +kernel
theorem dX10_foundation_4 : decode cX10_foundation 4 = .ok (.iload_n 2, 1) := by decide +kernel
theorem dX10_foundation_5 : decode cX10_foundation 5 = .ok (.aload_n 0, 1) := by decide +kernel
theorem dX10_foundation_6 : decode cX10_foundation 6 = .ok (.getfield 110, 3) := by decide +kernel
theorem dX10_foundation_9 : decode cX10_foundation 9 = .ok (.if_icmp .ge 27, 3) := by decide +kernel
theorem dX10_foundation_12 : decode cX10_foundation 12 = .ok (.aload_n 0, 1) := by decide +kernel
theorem dX10_foundation_13 : decode cX10_foundation 13 = .ok (.getfield 28, 3) := by decide +kernel
theorem dX10_foundation_16 : decode cX10_foundation 16 = .ok (.iload_n 2, 1) := by decide +kernel
theorem dX10_foundation_17 : decode cX10_foundation 17 = .ok (.iaload, 1) := by decide +kernel
theorem dX10_foundation_18 : decode cX10_foundation 18 = .ok (.ifCond .eq 12, 3) := by decide +kernel
theorem dX10_foundation_21 : decode cX10_foundation 21 = .ok (.iload_n 1, 1) := by decide +kernel
theorem dX10_foundation_22 : decode cX10_foundation 22 = .ok (.aload_n 0, 1) := by decide +kernel
theorem dX10_foundation_23 : decode cX10_foundation 23 = .ok (.getfield 21, 3) := by decide +kernel
theorem dX10_foundation_26 : decode cX10_foundation 26 = .ok (.iload_n 2, 1) := by decide +kernel
theorem dX10_foundation_27 : decode cX10_foundation 27 = .ok (.iaload, 1) := by decide +kernel
theorem dX10_foundation_28 : decode cX10_foundation 28 = .ok (.ior, 1) := by decide +kernel
theorem dX10_foundation_29 : decode cX10_foundation 29 = .ok (.istore_n 1, 1) := by decide +kernel
theorem dX10_foundation_30 : decode cX10_foundation 30 = .ok (.iinc 2 1, 3) := by decide +kernel
theorem dX10_foundation_33 : decode cX10_foundation 33 = .ok (.goto (-29), 3) := by decide +kernel
theorem dX10_foundation_36 : decode cX10_foundation 36 = .ok (.iload_n 1, 1) := by decide +kernel
theorem dX10_foundation_37 : decode cX10_foundation 37 = .ok (.ireturn, 1) := by decide +kernel
theorem dX10_told_0 : decode cX10_told 0 = .ok (.iconst 0, 1) := by decide +kernel
theorem dX10_told_1 : decode cX10_told 1 = .ok (.istore_n 2, 1) := by decide +kernel
theorem dX10_told_2 : decode cX10_told 2 = .ok (.iload_n 1, 1) := by decide +kernel
theorem dX10_told_3 : decode cX10_told 3 = .ok (.tableswitch 143 0 9 #[53, 58, 63, 68, 81, 94, 99, 104, 131, 138], 53) := by decide +kernel
theorem dX10_told_56 : decode cX10_told 56 = .ok (.aload_n 0, 1) := by decide +kernel
theorem dX10_told_57 : decode cX10_told 57 = .ok (.getfield 110, 3) := by decide +kernel
theorem dX10_told_60 : decode cX10_told 60 = .ok (.ireturn, 1) := by decide +kernel
theorem dX10_told_61 : decode cX10_told 61 = .ok (.aload_n 0, 1) := by decide +kernel
theorem dX10_told_62 : decode cX10_told 62 = .ok (.invokevirtual 167, 3) := by decide +kernel
theorem dX10_told_65 : decode cX10_told 65 = .ok (.ireturn, 1) := by decide +kernel
theorem dX10_told_66 : decode cX10_told 66 = .ok (.aload_n 0, 1) := by decide +kernel
theorem dX10_told_67 : decode cX10_told 67 = .ok (.invokevirtual 278, 3) := by decide +kernel
theorem dX10_told_70 : decode cX10_told 70 = .ok (.ireturn, 1) := by decide +kernel
theorem dX10_told_71 : decode cX10_told 71 = .ok (.aload_n 0, 1) := by decide +kernel
theorem dX10_told_72 : decode cX10_told 72 = .ok (.invokevirtual 175, 3) := by decide +kernel
theorem dX10_told_75 : decode cX10_told 75 = .ok (.ifCond .eq 7, 3) := by decide +kernel
theorem dX10_told_78 : decode cX10_told 78 = .ok (.iconst 1, 1) := by decide +kernel
theorem dX10_told_79 : decode cX10_told 79 = .ok (.goto 4, 3) := by decide +kernel
theorem dX10_told_82 : decode cX10_told 82 = .ok (.iconst 0, 1) := by decide +kernel
theorem dX10_told_83 : decode cX10_told 83 = .ok (.ireturn, 1) := by decide +kernel
theorem dX10_told_84 : decode cX10_told 84 = .ok (.aload_n 0, 1) := by decide +kernel
theorem dX10_told_85 : decode cX10_told 85 = .ok (.invokevirtual 179, 3) := by decide +kernel
theorem dX10_told_88 : decode cX10_told 88 = .ok (.ifCond .eq 7, 3) := by decide +kernel
theorem dX10_told_91 : decode cX10_told 91 = .ok (.iconst 1, 1) := by decide +kernel
theorem dX10_told_92 : decode cX10_told 92 = .ok (.goto 4, 3) := by decide +kernel
theorem dX10_told_95 : decode cX10_told 95 = .ok (.iconst 0, 1) := by decide +kernel
theorem dX10_told_96 : decode cX10_told 96 = .ok (.ireturn, 1) := by decide +kernel
theorem dX10_told_97 : decode cX10_told 97 = .ok (.aload_n 0, 1) := by decide +kernel
theorem dX10_told_98 : decode cX10_told 98 = .ok (.invokevirtual 188, 3) := by decide +kernel
theorem dX10_told_101 : decode cX10_told 101 = .ok (.ireturn, 1) := by decide +kernel
theorem dX10_told_102 : decode cX10_told 102 = .ok (.aload_n 0, 1) := by decide +kernel
theorem dX10_told_103 : decode cX10_told 103 = .ok (.invokevirtual 281, 3) := by decide +kernel
theorem dX10_told_106 : decode cX10_told 106 = .ok (.ireturn, 1) := by decide +kernel
theorem dX10_told_107 : decode cX10_told 107 = .ok (.iconst 0, 1) := by decide +kernel
theorem dX10_told_108 : decode cX10_told 108 = .ok (.istore_n 3, 1) := by decide +kernel
theorem dX10_told_109 : decode cX10_told 109 = .ok (.iload_n 3, 1) := by decide +kernel
theorem dX10_told_110 : decode cX10_told 110 = .ok (.aload_n 0, 1) := by decide +kernel
theorem dX10_told_111 : decode cX10_told 111 = .ok (.getfield 110, 3) := by decide +kernel
theorem dX10_told_114 : decode cX10_told 114 = .ok (.if_icmp .ge 18, 3) := by decide +kernel
theorem dX10_told_117 : decode cX10_told 117 = .ok (.iload_n 2, 1) := by decide +kernel
theorem dX10_told_118 : decode cX10_told 118 = .ok (.aload_n 0, 1) := by decide +kernel
theorem dX10_told_119 : decode cX10_told 119 = .ok (.getfield 34, 3) := by decide +kernel
theorem dX10_told_122 : decode cX10_told 122 = .ok (.iload_n 3, 1) := by decide +kernel
theorem dX10_told_123 : decode cX10_told 123 = .ok (.iaload, 1) := by decide +kernel
theorem dX10_told_124 : decode cX10_told 124 = .ok (.iadd, 1) := by decide +kernel
theorem dX10_told_125 : decode cX10_told 125 = .ok (.istore_n 2, 1) := by decide +kernel
theorem dX10_told_126 : decode cX10_told 126 = .ok (.iinc 3 1, 3) := by decide +kernel
theorem dX10_told_129 : decode cX10_told 129 = .ok (.goto (-20), 3) := by decide +kernel
theorem dX10_told_132 : decode cX10_told 132 = .ok (.iload_n 2, 1) := by decide +kernel
theorem dX10_told_133 : decode cX10_told 133 = .ok (.ireturn, 1) := by decide +kernel
theorem dX10_told_134 : decode cX10_told 134 = .ok (.iconst 1, 1) := by decide +kernel
theorem dX10_told_135 : decode cX10_told 135 = .ok (.aload_n 0, 1) := by decide +kernel
theorem dX10_told_136 : decode cX10_told 136 = .ok (.getfield 18, 3) := by decide +kernel
theorem dX10_told_139 : decode cX10_told 139 = .ok (.ishl, 1) := by decide +kernel
theorem dX10_told_140 : decode cX10_told 140 = .ok (.ireturn, 1) := by decide +kernel
theorem dX10_told_141 : decode cX10_told 141 = .ok (.aload_n 0, 1) := by decide +kernel
theorem dX10_told_142 : decode cX10_told 142 = .ok (.invokevirtual 132, 3) := by decide +kernel
theorem dX10_told_145 : decode cX10_told 145 = .ok (.ireturn, 1) := by decide +kernel
theorem dX10_told_146 : decode cX10_told 146 = .ok (.iconst (-1), 1) := by decide +kernel
theorem dX10_told_147 : decode cX10_told 147 = .ok (.ireturn, 1) := by decide +kernel
theorem dX10_block_0 : decode cX10_block 0 = .ok (.aload_n 0, 1) := by decide +kernel
theorem dX10_block_1 : decode cX10_block 1 = .ok (.iload_n 1, 1) := by decide +kernel
theorem dX10_block_2 : decode cX10_block 2 = .ok (.invokevirtual 140, 3) := by decide +kernel
theorem dX10_block_5 : decode cX10_block 5 = .ok (.ifCond .eq 12, 3) := by decide +kernel
theorem dX10_block_8 : decode cX10_block 8 = .ok (.aload_n 0, 1) := by decide +kernel
theorem dX10_block_9 : decode cX10_block 9 = .ok (.getfield 21, 3) := by decide +kernel
theorem dX10_block_12 : decode cX10_block 12 = .ok (.iload_n 1, 1) := by decide +kernel
theorem dX10_block_13 : decode cX10_block 13 = .ok (.iaload, 1) := by decide +kernel
theorem dX10_block_14 : decode cX10_block 14 = .ok (.goto 4, 3) := by decide +kernel
theorem dX10_block_17 : decode cX10_block 17 = .ok (.iconst (-1), 1) := by decide +kernel
theorem dX10_block_18 : decode cX10_block 18 = .ok (.ireturn, 1) := by decide +kernel
theorem dX10_number_0 : decode cX10_number 0 = .ok (.iload_n 1, 1) := by decide +kernel
theorem dX10_number_1 : decode cX10_number 1 = .ok (.i2l, 1) := by decide +kernel
theorem dX10_number_2 : decode cX10_number 2 = .ok (.lconst 0, 1) := by decide +kernel
theorem dX10_number_3 : decode cX10_number 3 = .ok (.iconst 1, 1) := by decide +kernel
theorem dX10_number_4 : decode cX10_number 4 = .ok (.aload_n 0, 1) := by decide +kernel
theorem dX10_number_5 : decode cX10_number 5 = .ok (.getfield 9, 3) := by decide +kernel
theorem dX10_number_8 : decode cX10_number 8 = .ok (.ishl, 1) := by decide +kernel
theorem dX10_number_9 : decode cX10_number 9 = .ok (.iconst 1, 1) := by decide +kernel
theorem dX10_number_10 : decode cX10_number 10 = .ok (.isub, 1) := by decide +kernel
theorem dX10_number_11 : decode cX10_number 11 = .ok (.i2l, 1) := by decide +kernel
theorem dX10_number_12 : decode cX10_number 12 = .ok (.invokestatic 116, 3) := by decide +kernel
theorem dX10_number_15 : decode cX10_number 15 = .ok (.ifCond .eq 12, 3) := by decide +kernel
theorem dX10_number_18 : decode cX10_number 18 = .ok (.aload_n 0, 1) := by decide +kernel
theorem dX10_number_19 : decode cX10_number 19 = .ok (.getfield 25, 3) := by decide +kernel
theorem dX10_number_22 : decode cX10_number 22 = .ok (.iload_n 1, 1) := by decide +kernel
theorem dX10_number_23 : decode cX10_number 23 = .ok (.iaload, 1) := by decide +kernel
theorem dX10_number_24 : decode cX10_number 24 = .ok (.goto 4, 3) := by decide +kernel
theorem dX10_number_27 : decode cX10_number 27 = .ok (.iconst (-1), 1) := by decide +kernel
theorem dX10_number_28 : decode cX10_number 28 = .ok (.ireturn, 1) := by decide +kernel
theorem dX10_of_0 : decode cX10_of 0 = .ok (.aload_n 0, 1) := by decide +kernel
theorem dX10_of_1 : decode cX10_of 1 = .ok (.iload_n 1, 1) := by decide +kernel
theorem dX10_of_2 : decode cX10_of 2 = .ok (.invokevirtual 140, 3) := by decide +kernel
theorem dX10_of_5 : decode cX10_of 5 = .ok (.ifCond .eq 15, 3) := by decide +kernel
theorem dX10_of_8 : decode cX10_of 8 = .ok (.iload_n 2, 1) := by decide +kernel
theorem dX10_of_9 : decode cX10_of 9 = .ok (.i2l, 1) := by decide +kernel
theorem dX10_of_10 : decode cX10_of 10 = .ok (.lconst 0, 1) := by decide +kernel
theorem dX10_of_11 : decode cX10_of 11 = .ok (.ldc2_w 124, 3) := by decide +kernel
theorem dX10_of_14 : decode cX10_of 14 = .ok (.invokestatic 116, 3) := by decide +kernel
theorem dX10_of_17 : decode cX10_of 17 = .ok (.ifCond .ne 5, 3) := by decide +kernel
theorem dX10_of_20 : decode cX10_of 20 = .ok (.iconst (-1), 1) := by decide +kernel
theorem dX10_of_21 : decode cX10_of 21 = .ok (.ireturn, 1) := by decide +kernel
theorem dX10_of_22 : decode cX10_of 22 = .ok (.iload_n 2, 1) := by decide +kernel
theorem dX10_of_23 : decode cX10_of 23 = .ok (.ifCond .ne 15, 3) := by decide +kernel
theorem dX10_of_26 : decode cX10_of 26 = .ok (.aload_n 0, 1) := by decide +kernel
theorem dX10_of_27 : decode cX10_of 27 = .ok (.getfield 28, 3) := by decide +kernel
theorem dX10_of_30 : decode cX10_of 30 = .ok (.iload_n 1, 1) := by decide +kernel
theorem dX10_of_31 : decode cX10_of 31 = .ok (.iaload, 1) := by decide +kernel
theorem dX10_of_32 : decode cX10_of 32 = .ok (.bipush 100, 2) := by decide +kernel
theorem dX10_of_34 : decode cX10_of 34 = .ok (.iadd, 1) := by decide +kernel
theorem dX10_of_35 : decode cX10_of 35 = .ok (.goto 23, 3) := by decide +kernel
theorem dX10_of_38 : decode cX10_of 38 = .ok (.iload_n 2, 1) := by decide +kernel
theorem dX10_of_39 : decode cX10_of 39 = .ok (.iconst 1, 1) := by decide +kernel
theorem dX10_of_40 : decode cX10_of 40 = .ok (.if_icmp .ne 12, 3) := by decide +kernel
theorem dX10_of_43 : decode cX10_of 43 = .ok (.aload_n 0, 1) := by decide +kernel
theorem dX10_of_44 : decode cX10_of 44 = .ok (.getfield 31, 3) := by decide +kernel
theorem dX10_of_47 : decode cX10_of 47 = .ok (.iload_n 1, 1) := by decide +kernel
theorem dX10_of_48 : decode cX10_of 48 = .ok (.iaload, 1) := by decide +kernel
theorem dX10_of_49 : decode cX10_of 49 = .ok (.goto 9, 3) := by decide +kernel
theorem dX10_of_52 : decode cX10_of 52 = .ok (.aload_n 0, 1) := by decide +kernel
theorem dX10_of_53 : decode cX10_of 53 = .ok (.getfield 34, 3) := by decide +kernel
theorem dX10_of_56 : decode cX10_of 56 = .ok (.iload_n 1, 1) := by decide +kernel
theorem dX10_of_57 : decode cX10_of 57 = .ok (.iaload, 1) := by decide +kernel
theorem dX10_of_58 : decode cX10_of 58 = .ok (.ireturn, 1) := by decide +kernel
theorem dX10_sum_0 : decode cX10_sum 0 = .ok (.aload_n 0, 1) := by decide +kernel
theorem dX10_sum_1 : decode cX10_sum 1 = .ok (.iload_n 1, 1) := by decide +kernel
theorem dX10_sum_2 : decode cX10_sum 2 = .ok (.aload_n 0, 1) := by decide +kernel
theorem dX10_sum_3 : decode cX10_sum 3 = .ok (.getfield 15, 3) := by decide +kernel
theorem dX10_sum_6 : decode cX10_sum 6 = .ok (.invokevirtual 284, 3) := by decide +kernel
theorem dX10_sum_9 : decode cX10_sum 9 = .ok (.ifCond .eq 15, 3) := by decide +kernel
theorem dX10_sum_12 : decode cX10_sum 12 = .ok (.aload_n 0, 1) := by decide +kernel
theorem dX10_sum_13 : decode cX10_sum 13 = .ok (.iload_n 1, 1) := by decide +kernel
theorem dX10_sum_14 : decode cX10_sum 14 = .ok (.invokevirtual 170, 3) := by decide +kernel
theorem dX10_sum_17 : decode cX10_sum 17 = .ok (.sipush 10000, 3) := by decide +kernel
theorem dX10_sum_20 : decode cX10_sum 20 = .ok (.iadd, 1) := by decide +kernel
theorem dX10_sum_21 : decode cX10_sum 21 = .ok (.goto 4, 3) := by decide +kernel
theorem dX10_sum_24 : decode cX10_sum 24 = .ok (.iconst (-1), 1) := by decide +kernel
theorem dX10_sum_25 : decode cX10_sum 25 = .ok (.ireturn, 1) := by decide +kernel
theorem dX10_amiss_0 : decode cX10_amiss 0 = .ok (.iconst 0, 1) := by decide +kernel
theorem dX10_amiss_1 : decode cX10_amiss 1 = .ok (.istore_n 1, 1) := by decide +kernel
theorem dX10_amiss_2 : decode cX10_amiss 2 = .ok (.iload_n 1, 1) := by decide +kernel
theorem dX10_amiss_3 : decode cX10_amiss 3 = .ok (.aload_n 0, 1) := by decide +kernel
theorem dX10_amiss_4 : decode cX10_amiss 4 = .ok (.getfield 18, 3) := by decide +kernel
theorem dX10_amiss_7 : decode cX10_amiss 7 = .ok (.if_icmp .gt 45, 3) := by decide +kernel
theorem dX10_amiss_10 : decode cX10_amiss 10 = .ok (.iconst 0, 1) := by decide +kernel
theorem dX10_amiss_11 : decode cX10_amiss 11 = .ok (.istore_n 2, 1) := by decide +kernel
theorem dX10_amiss_12 : decode cX10_amiss 12 = .ok (.iload_n 2, 1) := by decide +kernel
theorem dX10_amiss_13 : decode cX10_amiss 13 = .ok (.iconst 1, 1) := by decide +kernel
theorem dX10_amiss_14 : decode cX10_amiss 14 = .ok (.aload_n 0, 1) := by decide +kernel
theorem dX10_amiss_15 : decode cX10_amiss 15 = .ok (.getfield 9, 3) := by decide +kernel
theorem dX10_amiss_18 : decode cX10_amiss 18 = .ok (.ishl, 1) := by decide +kernel
theorem dX10_amiss_19 : decode cX10_amiss 19 = .ok (.if_icmp .ge 27, 3) := by decide +kernel
theorem dX10_amiss_22 : decode cX10_amiss 22 = .ok (.iload_n 2, 1) := by decide +kernel
theorem dX10_amiss_23 : decode cX10_amiss 23 = .ok (.invokestatic 113, 3) := by decide +kernel
theorem dX10_amiss_26 : decode cX10_amiss 26 = .ok (.iload_n 1, 1) := by decide +kernel
theorem dX10_amiss_27 : decode cX10_amiss 27 = .ok (.if_icmp .ne 13, 3) := by decide +kernel
theorem dX10_amiss_30 : decode cX10_amiss 30 = .ok (.aload_n 0, 1) := by decide +kernel
theorem dX10_amiss_31 : decode cX10_amiss 31 = .ok (.iload_n 2, 1) := by decide +kernel
theorem dX10_amiss_32 : decode cX10_amiss 32 = .ok (.invokevirtual 170, 3) := by decide +kernel
theorem dX10_amiss_35 : decode cX10_amiss 35 = .ok (.ifCond .eq 5, 3) := by decide +kernel
theorem dX10_amiss_38 : decode cX10_amiss 38 = .ok (.iload_n 2, 1) := by decide +kernel
theorem dX10_amiss_39 : decode cX10_amiss 39 = .ok (.ireturn, 1) := by decide +kernel
theorem dX10_amiss_40 : decode cX10_amiss 40 = .ok (.iinc 2 1, 3) := by decide +kernel
theorem dX10_amiss_43 : decode cX10_amiss 43 = .ok (.goto (-31), 3) := by decide +kernel
theorem dX10_amiss_46 : decode cX10_amiss 46 = .ok (.iinc 1 1, 3) := by decide +kernel
theorem dX10_amiss_49 : decode cX10_amiss 49 = .ok (.goto (-47), 3) := by decide +kernel
theorem dX10_amiss_52 : decode cX10_amiss 52 = .ok (.bipush (-5), 2) := by decide +kernel
theorem dX10_amiss_54 : decode cX10_amiss 54 = .ok (.ireturn, 1) := by decide +kernel
theorem dX10_cover_0 : decode cX10_cover 0 = .ok (.aload_n 0, 1) := by decide +kernel
theorem dX10_cover_1 : decode cX10_cover 1 = .ok (.iload_n 1, 1) := by decide +kernel
theorem dX10_cover_2 : decode cX10_cover 2 = .ok (.aload_n 0, 1) := by decide +kernel
theorem dX10_cover_3 : decode cX10_cover 3 = .ok (.getfield 15, 3) := by decide +kernel
theorem dX10_cover_6 : decode cX10_cover 6 = .ok (.invokevirtual 284, 3) := by decide +kernel
theorem dX10_cover_9 : decode cX10_cover 9 = .ok (.ifCond .eq 11, 3) := by decide +kernel
theorem dX10_cover_12 : decode cX10_cover 12 = .ok (.aload_n 0, 1) := by decide +kernel
theorem dX10_cover_13 : decode cX10_cover 13 = .ok (.iload_n 1, 1) := by decide +kernel
theorem dX10_cover_14 : decode cX10_cover 14 = .ok (.invokevirtual 275, 3) := by decide +kernel
theorem dX10_cover_17 : decode cX10_cover 17 = .ok (.goto 4, 3) := by decide +kernel
theorem dX10_cover_20 : decode cX10_cover 20 = .ok (.iconst (-1), 1) := by decide +kernel
theorem dX10_cover_21 : decode cX10_cover 21 = .ok (.ireturn, 1) := by decide +kernel
theorem dX10_write_0 : decode cX10_write 0 = .ok (.aload_n 0, 1) := by decide +kernel
theorem dX10_write_1 : decode cX10_write 1 = .ok (.getfield 89, 3) := by decide +kernel
theorem dX10_write_4 : decode cX10_write 4 = .ok (.aload_n 0, 1) := by decide +kernel
theorem dX10_write_5 : decode cX10_write 5 = .ok (.dup, 1) := by decide +kernel
theorem dX10_write_6 : decode cX10_write 6 = .ok (.getfield 288, 3) := by decide +kernel
theorem dX10_write_9 : decode cX10_write 9 = .ok (.dup_x1, 1) := by decide +kernel
theorem dX10_write_10 : decode cX10_write 10 = .ok (.iconst 1, 1) := by decide +kernel
theorem dX10_write_11 : decode cX10_write 11 = .ok (.iadd, 1) := by decide +kernel
theorem dX10_write_12 : decode cX10_write 12 = .ok (.putfield 288, 3) := by decide +kernel
theorem dX10_write_15 : decode cX10_write 15 = .ok (.iload_n 1, 1) := by decide +kernel
theorem dX10_write_16 : decode cX10_write 16 = .ok (.iastore, 1) := by decide +kernel
theorem dX10_write_17 : decode cX10_write 17 = .ok (.return_, 1) := by decide +kernel
theorem dX10_writes_0 : decode cX10_writes 0 = .ok (.aload_n 0, 1) := by decide +kernel
theorem dX10_writes_1 : decode cX10_writes 1 = .ok (.iconst 0, 1) := by decide +kernel
theorem dX10_writes_2 : decode cX10_writes 2 = .ok (.putfield 288, 3) := by decide +kernel
theorem dX10_writes_5 : decode cX10_writes 5 = .ok (.iconst 0, 1) := by decide +kernel
theorem dX10_writes_6 : decode cX10_writes 6 = .ok (.istore_n 1, 1) := by decide +kernel
theorem dX10_writes_7 : decode cX10_writes 7 = .ok (.iload_n 1, 1) := by decide +kernel
theorem dX10_writes_8 : decode cX10_writes 8 = .ok (.aload_n 0, 1) := by decide +kernel
theorem dX10_writes_9 : decode cX10_writes 9 = .ok (.getfield 110, 3) := by decide +kernel
theorem dX10_writes_12 : decode cX10_writes 12 = .ok (.if_icmp .ge 124, 3) := by decide +kernel
theorem dX10_writes_15 : decode cX10_writes 15 = .ok (.aload_n 0, 1) := by decide +kernel
theorem dX10_writes_16 : decode cX10_writes 16 = .ok (.getfield 28, 3) := by decide +kernel
theorem dX10_writes_19 : decode cX10_writes 19 = .ok (.iload_n 1, 1) := by decide +kernel
theorem dX10_writes_20 : decode cX10_writes 20 = .ok (.iaload, 1) := by decide +kernel
theorem dX10_writes_21 : decode cX10_writes 21 = .ok (.istore_n 2, 1) := by decide +kernel
theorem dX10_writes_22 : decode cX10_writes 22 = .ok (.iload_n 2, 1) := by decide +kernel
theorem dX10_writes_23 : decode cX10_writes 23 = .ok (.ifCond .ne 6, 3) := by decide +kernel
theorem dX10_writes_26 : decode cX10_writes 26 = .ok (.goto 104, 3) := by decide +kernel
theorem dX10_writes_29 : decode cX10_writes 29 = .ok (.aload_n 0, 1) := by decide +kernel
theorem dX10_writes_30 : decode cX10_writes 30 = .ok (.iload_n 2, 1) := by decide +kernel
theorem dX10_writes_31 : decode cX10_writes 31 = .ok (.ifCond .le 8, 3) := by decide +kernel
theorem dX10_writes_34 : decode cX10_writes 34 = .ok (.bipush 43, 2) := by decide +kernel
theorem dX10_writes_36 : decode cX10_writes 36 = .ok (.goto 5, 3) := by decide +kernel
theorem dX10_writes_39 : decode cX10_writes 39 = .ok (.bipush 45, 2) := by decide +kernel
theorem dX10_writes_41 : decode cX10_writes 41 = .ok (.invokevirtual 291, 3) := by decide +kernel
theorem dX10_writes_44 : decode cX10_writes 44 = .ok (.iload_n 2, 1) := by decide +kernel
theorem dX10_writes_45 : decode cX10_writes 45 = .ok (.invokestatic 295, 3) := by decide +kernel
theorem dX10_writes_48 : decode cX10_writes 48 = .ok (.istore_n 3, 1) := by decide +kernel
theorem dX10_writes_49 : decode cX10_writes 49 = .ok (.iload_n 3, 1) := by decide +kernel
theorem dX10_writes_50 : decode cX10_writes 50 = .ok (.bipush 9, 2) := by decide +kernel
theorem dX10_writes_52 : decode cX10_writes 52 = .ok (.if_icmp .le 14, 3) := by decide +kernel
theorem dX10_writes_55 : decode cX10_writes 55 = .ok (.aload_n 0, 1) := by decide +kernel
theorem dX10_writes_56 : decode cX10_writes 56 = .ok (.bipush 48, 2) := by decide +kernel
theorem dX10_writes_58 : decode cX10_writes 58 = .ok (.iload_n 3, 1) := by decide +kernel
theorem dX10_writes_59 : decode cX10_writes 59 = .ok (.bipush 10, 2) := by decide +kernel
theorem dX10_writes_61 : decode cX10_writes 61 = .ok (.idiv, 1) := by decide +kernel
theorem dX10_writes_62 : decode cX10_writes 62 = .ok (.iadd, 1) := by decide +kernel
theorem dX10_writes_63 : decode cX10_writes 63 = .ok (.invokevirtual 291, 3) := by decide +kernel
theorem dX10_writes_66 : decode cX10_writes 66 = .ok (.iload_n 3, 1) := by decide +kernel
theorem dX10_writes_67 : decode cX10_writes 67 = .ok (.iconst 1, 1) := by decide +kernel
theorem dX10_writes_68 : decode cX10_writes 68 = .ok (.if_icmp .eq 20, 3) := by decide +kernel
theorem dX10_writes_71 : decode cX10_writes 71 = .ok (.aload_n 0, 1) := by decide +kernel
theorem dX10_writes_72 : decode cX10_writes 72 = .ok (.bipush 48, 2) := by decide +kernel
theorem dX10_writes_74 : decode cX10_writes 74 = .ok (.iload_n 3, 1) := by decide +kernel
theorem dX10_writes_75 : decode cX10_writes 75 = .ok (.bipush 10, 2) := by decide +kernel
theorem dX10_writes_77 : decode cX10_writes 77 = .ok (.irem, 1) := by decide +kernel
theorem dX10_writes_78 : decode cX10_writes 78 = .ok (.iadd, 1) := by decide +kernel
theorem dX10_writes_79 : decode cX10_writes 79 = .ok (.invokevirtual 291, 3) := by decide +kernel
theorem dX10_writes_82 : decode cX10_writes 82 = .ok (.aload_n 0, 1) := by decide +kernel
theorem dX10_writes_83 : decode cX10_writes 83 = .ok (.bipush 42, 2) := by decide +kernel
theorem dX10_writes_85 : decode cX10_writes 85 = .ok (.invokevirtual 291, 3) := by decide +kernel
theorem dX10_writes_88 : decode cX10_writes 88 = .ok (.iconst 0, 1) := by decide +kernel
theorem dX10_writes_89 : decode cX10_writes 89 = .ok (.istore 4, 2) := by decide +kernel
theorem dX10_writes_91 : decode cX10_writes 91 = .ok (.iload 4, 2) := by decide +kernel
theorem dX10_writes_93 : decode cX10_writes 93 = .ok (.aload_n 0, 1) := by decide +kernel
theorem dX10_writes_94 : decode cX10_writes 94 = .ok (.getfield 9, 3) := by decide +kernel
theorem dX10_writes_97 : decode cX10_writes 97 = .ok (.if_icmp .ge 33, 3) := by decide +kernel
theorem dX10_writes_100 : decode cX10_writes 100 = .ok (.aload_n 0, 1) := by decide +kernel
theorem dX10_writes_101 : decode cX10_writes 101 = .ok (.getfield 21, 3) := by decide +kernel
theorem dX10_writes_104 : decode cX10_writes 104 = .ok (.iload_n 1, 1) := by decide +kernel
theorem dX10_writes_105 : decode cX10_writes 105 = .ok (.iaload, 1) := by decide +kernel
theorem dX10_writes_106 : decode cX10_writes 106 = .ok (.iload 4, 2) := by decide +kernel
theorem dX10_writes_108 : decode cX10_writes 108 = .ok (.ishr, 1) := by decide +kernel
theorem dX10_writes_109 : decode cX10_writes 109 = .ok (.iconst 1, 1) := by decide +kernel
theorem dX10_writes_110 : decode cX10_writes 110 = .ok (.iand, 1) := by decide +kernel
theorem dX10_writes_111 : decode cX10_writes 111 = .ok (.iconst 1, 1) := by decide +kernel
theorem dX10_writes_112 : decode cX10_writes 112 = .ok (.if_icmp .ne 12, 3) := by decide +kernel
theorem dX10_writes_115 : decode cX10_writes 115 = .ok (.aload_n 0, 1) := by decide +kernel
theorem dX10_writes_116 : decode cX10_writes 116 = .ok (.bipush 48, 2) := by decide +kernel
theorem dX10_writes_118 : decode cX10_writes 118 = .ok (.iload 4, 2) := by decide +kernel
theorem dX10_writes_120 : decode cX10_writes 120 = .ok (.iadd, 1) := by decide +kernel
theorem dX10_writes_121 : decode cX10_writes 121 = .ok (.invokevirtual 291, 3) := by decide +kernel
theorem dX10_writes_124 : decode cX10_writes 124 = .ok (.iinc 4 1, 3) := by decide +kernel
theorem dX10_writes_127 : decode cX10_writes 127 = .ok (.goto (-36), 3) := by decide +kernel
theorem dX10_writes_130 : decode cX10_writes 130 = .ok (.iinc 1 1, 3) := by decide +kernel
theorem dX10_writes_133 : decode cX10_writes 133 = .ok (.goto (-126), 3) := by decide +kernel
theorem dX10_writes_136 : decode cX10_writes 136 = .ok (.aload_n 0, 1) := by decide +kernel
theorem dX10_writes_137 : decode cX10_writes 137 = .ok (.getfield 288, 3) := by decide +kernel
theorem dX10_writes_140 : decode cX10_writes 140 = .ok (.ifCond .ne 9, 3) := by decide +kernel
theorem dX10_writes_143 : decode cX10_writes 143 = .ok (.aload_n 0, 1) := by decide +kernel
theorem dX10_writes_144 : decode cX10_writes 144 = .ok (.bipush 48, 2) := by decide +kernel
theorem dX10_writes_146 : decode cX10_writes 146 = .ok (.invokevirtual 291, 3) := by decide +kernel
theorem dX10_writes_149 : decode cX10_writes 149 = .ok (.return_, 1) := by decide +kernel
theorem dX10_written_0 : decode cX10_written 0 = .ok (.iload_n 1, 1) := by decide +kernel
theorem dX10_written_1 : decode cX10_written 1 = .ok (.ifCond .ge 5, 3) := by decide +kernel
theorem dX10_written_4 : decode cX10_written 4 = .ok (.iconst (-1), 1) := by decide +kernel
theorem dX10_written_5 : decode cX10_written 5 = .ok (.ireturn, 1) := by decide +kernel
theorem dX10_written_6 : decode cX10_written 6 = .ok (.aload_n 0, 1) := by decide +kernel
theorem dX10_written_7 : decode cX10_written 7 = .ok (.invokevirtual 298, 3) := by decide +kernel
theorem dX10_written_10 : decode cX10_written 10 = .ok (.iload_n 1, 1) := by decide +kernel
theorem dX10_written_11 : decode cX10_written 11 = .ok (.aload_n 0, 1) := by decide +kernel
theorem dX10_written_12 : decode cX10_written 12 = .ok (.getfield 288, 3) := by decide +kernel
theorem dX10_written_15 : decode cX10_written 15 = .ok (.if_icmp .ge 12, 3) := by decide +kernel
theorem dX10_written_18 : decode cX10_written 18 = .ok (.aload_n 0, 1) := by decide +kernel
theorem dX10_written_19 : decode cX10_written 19 = .ok (.getfield 89, 3) := by decide +kernel
theorem dX10_written_22 : decode cX10_written 22 = .ok (.iload_n 1, 1) := by decide +kernel
theorem dX10_written_23 : decode cX10_written 23 = .ok (.iaload, 1) := by decide +kernel
theorem dX10_written_24 : decode cX10_written 24 = .ok (.goto 5, 3) := by decide +kernel
theorem dX10_written_27 : decode cX10_written 27 = .ok (.bipush (-5), 2) := by decide +kernel
theorem dX10_written_29 : decode cX10_written 29 = .ok (.ireturn, 1) := by decide +kernel
theorem dX10_isOpen_0 : decode cX10_isOpen 0 = .ok (.iconst 0, 1) := by decide +kernel
theorem dX10_isOpen_1 : decode cX10_isOpen 1 = .ok (.istore_n 2, 1) := by decide +kernel
theorem dX10_isOpen_2 : decode cX10_isOpen 2 = .ok (.iload_n 2, 1) := by decide +kernel
theorem dX10_isOpen_3 : decode cX10_isOpen 3 = .ok (.aload_n 0, 1) := by decide +kernel
theorem dX10_isOpen_4 : decode cX10_isOpen 4 = .ok (.getfield 110, 3) := by decide +kernel
theorem dX10_isOpen_7 : decode cX10_isOpen 7 = .ok (.if_icmp .ge 49, 3) := by decide +kernel
theorem dX10_isOpen_10 : decode cX10_isOpen 10 = .ok (.iload_n 1, 1) := by decide +kernel
theorem dX10_isOpen_11 : decode cX10_isOpen 11 = .ok (.aload_n 0, 1) := by decide +kernel
theorem dX10_isOpen_12 : decode cX10_isOpen 12 = .ok (.getfield 80, 3) := by decide +kernel
theorem dX10_isOpen_15 : decode cX10_isOpen 15 = .ok (.iload_n 2, 1) := by decide +kernel
theorem dX10_isOpen_16 : decode cX10_isOpen 16 = .ok (.iaload, 1) := by decide +kernel
theorem dX10_isOpen_17 : decode cX10_isOpen 17 = .ok (.imul, 1) := by decide +kernel
theorem dX10_isOpen_18 : decode cX10_isOpen 18 = .ok (.istore_n 3, 1) := by decide +kernel
theorem dX10_isOpen_19 : decode cX10_isOpen 19 = .ok (.iload_n 3, 1) := by decide +kernel
theorem dX10_isOpen_20 : decode cX10_isOpen 20 = .ok (.iconst (-1), 1) := by decide +kernel
theorem dX10_isOpen_21 : decode cX10_isOpen 21 = .ok (.if_icmp .ne 12, 3) := by decide +kernel
theorem dX10_isOpen_24 : decode cX10_isOpen 24 = .ok (.aload_n 0, 1) := by decide +kernel
theorem dX10_isOpen_25 : decode cX10_isOpen 25 = .ok (.getfield 31, 3) := by decide +kernel
theorem dX10_isOpen_28 : decode cX10_isOpen 28 = .ok (.iload_n 2, 1) := by decide +kernel
theorem dX10_isOpen_29 : decode cX10_isOpen 29 = .ok (.iaload, 1) := by decide +kernel
theorem dX10_isOpen_30 : decode cX10_isOpen 30 = .ok (.ifCond .eq 18, 3) := by decide +kernel
theorem dX10_isOpen_33 : decode cX10_isOpen 33 = .ok (.iload_n 3, 1) := by decide +kernel
theorem dX10_isOpen_34 : decode cX10_isOpen 34 = .ok (.iconst 1, 1) := by decide +kernel
theorem dX10_isOpen_35 : decode cX10_isOpen 35 = .ok (.if_icmp .ne 15, 3) := by decide +kernel
theorem dX10_isOpen_38 : decode cX10_isOpen 38 = .ok (.aload_n 0, 1) := by decide +kernel
theorem dX10_isOpen_39 : decode cX10_isOpen 39 = .ok (.getfield 31, 3) := by decide +kernel
theorem dX10_isOpen_42 : decode cX10_isOpen 42 = .ok (.iload_n 2, 1) := by decide +kernel
theorem dX10_isOpen_43 : decode cX10_isOpen 43 = .ok (.iaload, 1) := by decide +kernel
theorem dX10_isOpen_44 : decode cX10_isOpen 44 = .ok (.iconst 1, 1) := by decide +kernel
theorem dX10_isOpen_45 : decode cX10_isOpen 45 = .ok (.if_icmp .ne 5, 3) := by decide +kernel
theorem dX10_isOpen_48 : decode cX10_isOpen 48 = .ok (.iconst 0, 1) := by decide +kernel
theorem dX10_isOpen_49 : decode cX10_isOpen 49 = .ok (.ireturn, 1) := by decide +kernel
theorem dX10_isOpen_50 : decode cX10_isOpen 50 = .ok (.iinc 2 1, 3) := by decide +kernel
theorem dX10_isOpen_53 : decode cX10_isOpen 53 = .ok (.goto (-51), 3) := by decide +kernel
theorem dX10_isOpen_56 : decode cX10_isOpen 56 = .ok (.iconst 1, 1) := by decide +kernel
theorem dX10_isOpen_57 : decode cX10_isOpen 57 = .ok (.ireturn, 1) := by decide +kernel
theorem dX10_opens_0 : decode cX10_opens 0 = .ok (.aload_n 0, 1) := by decide +kernel
theorem dX10_opens_1 : decode cX10_opens 1 = .ok (.getfield 18, 3) := by decide +kernel
theorem dX10_opens_4 : decode cX10_opens 4 = .ok (.aload_n 0, 1) := by decide +kernel
theorem dX10_opens_5 : decode cX10_opens 5 = .ok (.getfield 15, 3) := by decide +kernel
theorem dX10_opens_8 : decode cX10_opens 8 = .ok (.iadd, 1) := by decide +kernel
theorem dX10_opens_9 : decode cX10_opens 9 = .ok (.iconst 1, 1) := by decide +kernel
theorem dX10_opens_10 : decode cX10_opens 10 = .ok (.iadd, 1) := by decide +kernel
theorem dX10_opens_11 : decode cX10_opens 11 = .ok (.istore 4, 2) := by decide +kernel
theorem dX10_opens_13 : decode cX10_opens 13 = .ok (.iload_n 1, 1) := by decide +kernel
theorem dX10_opens_14 : decode cX10_opens 14 = .ok (.iload 4, 2) := by decide +kernel
theorem dX10_opens_16 : decode cX10_opens 16 = .ok (.if_icmp .ne 71, 3) := by decide +kernel
theorem dX10_opens_19 : decode cX10_opens 19 = .ok (.aload_n 0, 1) := by decide +kernel
theorem dX10_opens_20 : decode cX10_opens 20 = .ok (.iload_n 2, 1) := by decide +kernel
theorem dX10_opens_21 : decode cX10_opens 21 = .ok (.invokevirtual 157, 3) := by decide +kernel
theorem dX10_opens_24 : decode cX10_opens 24 = .ok (.istore 5, 2) := by decide +kernel
theorem dX10_opens_26 : decode cX10_opens 26 = .ok (.iconst (-1), 1) := by decide +kernel
theorem dX10_opens_27 : decode cX10_opens 27 = .ok (.istore 6, 2) := by decide +kernel
theorem dX10_opens_29 : decode cX10_opens 29 = .ok (.iload 5, 2) := by decide +kernel
theorem dX10_opens_31 : decode cX10_opens 31 = .ok (.ifCond .eq 55, 3) := by decide +kernel
theorem dX10_opens_34 : decode cX10_opens 34 = .ok (.iload 6, 2) := by decide +kernel
theorem dX10_opens_36 : decode cX10_opens 36 = .ok (.iconst 2, 1) := by decide +kernel
theorem dX10_opens_37 : decode cX10_opens 37 = .ok (.if_icmp .ge 49, 3) := by decide +kernel
theorem dX10_opens_40 : decode cX10_opens 40 = .ok (.aload_n 0, 1) := by decide +kernel
theorem dX10_opens_41 : decode cX10_opens 41 = .ok (.iload 6, 2) := by decide +kernel
theorem dX10_opens_43 : decode cX10_opens 43 = .ok (.invokevirtual 301, 3) := by decide +kernel
theorem dX10_opens_46 : decode cX10_opens 46 = .ok (.ifCond .ne 6, 3) := by decide +kernel
theorem dX10_opens_49 : decode cX10_opens 49 = .ok (.goto 31, 3) := by decide +kernel
theorem dX10_opens_52 : decode cX10_opens 52 = .ok (.aload_n 0, 1) := by decide +kernel
theorem dX10_opens_53 : decode cX10_opens 53 = .ok (.getfield 304, 3) := by decide +kernel
theorem dX10_opens_56 : decode cX10_opens 56 = .ok (.ifCond .ne 14, 3) := by decide +kernel
theorem dX10_opens_59 : decode cX10_opens 59 = .ok (.aload_n 0, 1) := by decide +kernel
theorem dX10_opens_60 : decode cX10_opens 60 = .ok (.iload_n 2, 1) := by decide +kernel
theorem dX10_opens_61 : decode cX10_opens 61 = .ok (.putfield 307, 3) := by decide +kernel
theorem dX10_opens_64 : decode cX10_opens 64 = .ok (.aload_n 0, 1) := by decide +kernel
theorem dX10_opens_65 : decode cX10_opens 65 = .ok (.iload 6, 2) := by decide +kernel
theorem dX10_opens_67 : decode cX10_opens 67 = .ok (.putfield 310, 3) := by decide +kernel
theorem dX10_opens_70 : decode cX10_opens 70 = .ok (.aload_n 0, 1) := by decide +kernel
theorem dX10_opens_71 : decode cX10_opens 71 = .ok (.dup, 1) := by decide +kernel
theorem dX10_opens_72 : decode cX10_opens 72 = .ok (.getfield 304, 3) := by decide +kernel
theorem dX10_opens_75 : decode cX10_opens 75 = .ok (.iconst 1, 1) := by decide +kernel
theorem dX10_opens_76 : decode cX10_opens 76 = .ok (.iadd, 1) := by decide +kernel
theorem dX10_opens_77 : decode cX10_opens 77 = .ok (.putfield 304, 3) := by decide +kernel
theorem dX10_opens_80 : decode cX10_opens 80 = .ok (.iinc 6 2, 3) := by decide +kernel
theorem dX10_opens_83 : decode cX10_opens 83 = .ok (.goto (-54), 3) := by decide +kernel
theorem dX10_opens_86 : decode cX10_opens 86 = .ok (.return_, 1) := by decide +kernel
theorem dX10_opens_87 : decode cX10_opens 87 = .ok (.iconst 0, 1) := by decide +kernel
theorem dX10_opens_88 : decode cX10_opens 88 = .ok (.istore 5, 2) := by decide +kernel
theorem dX10_opens_90 : decode cX10_opens 90 = .ok (.iload_n 1, 1) := by decide +kernel
theorem dX10_opens_91 : decode cX10_opens 91 = .ok (.iconst 2, 1) := by decide +kernel
theorem dX10_opens_92 : decode cX10_opens 92 = .ok (.aload_n 0, 1) := by decide +kernel
theorem dX10_opens_93 : decode cX10_opens 93 = .ok (.getfield 18, 3) := by decide +kernel
theorem dX10_opens_96 : decode cX10_opens 96 = .ok (.imul, 1) := by decide +kernel
theorem dX10_opens_97 : decode cX10_opens 97 = .ok (.iconst 2, 1) := by decide +kernel
theorem dX10_opens_98 : decode cX10_opens 98 = .ok (.iadd, 1) := by decide +kernel
theorem dX10_opens_99 : decode cX10_opens 99 = .ok (.if_icmp .ge 37, 3) := by decide +kernel
theorem dX10_opens_102 : decode cX10_opens 102 = .ok (.iload_n 1, 1) := by decide +kernel
theorem dX10_opens_103 : decode cX10_opens 103 = .ok (.iconst 2, 1) := by decide +kernel
theorem dX10_opens_104 : decode cX10_opens 104 = .ok (.irem, 1) := by decide +kernel
theorem dX10_opens_105 : decode cX10_opens 105 = .ok (.iconst 1, 1) := by decide +kernel
theorem dX10_opens_106 : decode cX10_opens 106 = .ok (.if_icmp .ne 10, 3) := by decide +kernel
theorem dX10_opens_109 : decode cX10_opens 109 = .ok (.iload_n 2, 1) := by decide +kernel
theorem dX10_opens_110 : decode cX10_opens 110 = .ok (.bipush 10, 2) := by decide +kernel
theorem dX10_opens_112 : decode cX10_opens 112 = .ok (.irem, 1) := by decide +kernel
theorem dX10_opens_113 : decode cX10_opens 113 = .ok (.goto 18, 3) := by decide +kernel
theorem dX10_opens_116 : decode cX10_opens 116 = .ok (.iload_n 1, 1) := by decide +kernel
theorem dX10_opens_117 : decode cX10_opens 117 = .ok (.ifCond .le 13, 3) := by decide +kernel
theorem dX10_opens_120 : decode cX10_opens 120 = .ok (.iload_n 2, 1) := by decide +kernel
theorem dX10_opens_121 : decode cX10_opens 121 = .ok (.bipush 10, 2) := by decide +kernel
theorem dX10_opens_123 : decode cX10_opens 123 = .ok (.idiv, 1) := by decide +kernel
theorem dX10_opens_124 : decode cX10_opens 124 = .ok (.bipush 10, 2) := by decide +kernel
theorem dX10_opens_126 : decode cX10_opens 126 = .ok (.irem, 1) := by decide +kernel
theorem dX10_opens_127 : decode cX10_opens 127 = .ok (.goto 4, 3) := by decide +kernel
theorem dX10_opens_130 : decode cX10_opens 130 = .ok (.iconst 0, 1) := by decide +kernel
theorem dX10_opens_131 : decode cX10_opens 131 = .ok (.istore 5, 2) := by decide +kernel
theorem dX10_opens_133 : decode cX10_opens 133 = .ok (.goto 21, 3) := by decide +kernel
theorem dX10_opens_136 : decode cX10_opens 136 = .ok (.iload_n 1, 1) := by decide +kernel
theorem dX10_opens_137 : decode cX10_opens 137 = .ok (.iconst 2, 1) := by decide +kernel
theorem dX10_opens_138 : decode cX10_opens 138 = .ok (.aload_n 0, 1) := by decide +kernel
theorem dX10_opens_139 : decode cX10_opens 139 = .ok (.getfield 18, 3) := by decide +kernel
theorem dX10_opens_142 : decode cX10_opens 142 = .ok (.imul, 1) := by decide +kernel
theorem dX10_opens_143 : decode cX10_opens 143 = .ok (.iconst 2, 1) := by decide +kernel
theorem dX10_opens_144 : decode cX10_opens 144 = .ok (.iadd, 1) := by decide +kernel
theorem dX10_opens_145 : decode cX10_opens 145 = .ok (.if_icmp .le 9, 3) := by decide +kernel
theorem dX10_opens_148 : decode cX10_opens 148 = .ok (.iload_n 2, 1) := by decide +kernel
theorem dX10_opens_149 : decode cX10_opens 149 = .ok (.bipush 10, 2) := by decide +kernel
theorem dX10_opens_151 : decode cX10_opens 151 = .ok (.irem, 1) := by decide +kernel
theorem dX10_opens_152 : decode cX10_opens 152 = .ok (.istore 5, 2) := by decide +kernel
theorem dX10_opens_154 : decode cX10_opens 154 = .ok (.iload 5, 2) := by decide +kernel
theorem dX10_opens_156 : decode cX10_opens 156 = .ok (.iconst 1, 1) := by decide +kernel
theorem dX10_opens_157 : decode cX10_opens 157 = .ok (.iadd, 1) := by decide +kernel
theorem dX10_opens_158 : decode cX10_opens 158 = .ok (.istore 6, 2) := by decide +kernel
theorem dX10_opens_160 : decode cX10_opens 160 = .ok (.iload 6, 2) := by decide +kernel
theorem dX10_opens_162 : decode cX10_opens 162 = .ok (.aload_n 0, 1) := by decide +kernel
theorem dX10_opens_163 : decode cX10_opens 163 = .ok (.getfield 9, 3) := by decide +kernel
theorem dX10_opens_166 : decode cX10_opens 166 = .ok (.if_icmp .gt 38, 3) := by decide +kernel
theorem dX10_opens_169 : decode cX10_opens 169 = .ok (.iload_n 3, 1) := by decide +kernel
theorem dX10_opens_170 : decode cX10_opens 170 = .ok (.iload 6, 2) := by decide +kernel
theorem dX10_opens_172 : decode cX10_opens 172 = .ok (.ishr, 1) := by decide +kernel
theorem dX10_opens_173 : decode cX10_opens 173 = .ok (.iconst 1, 1) := by decide +kernel
theorem dX10_opens_174 : decode cX10_opens 174 = .ok (.iand, 1) := by decide +kernel
theorem dX10_opens_175 : decode cX10_opens 175 = .ok (.ifCond .ne 23, 3) := by decide +kernel
theorem dX10_opens_178 : decode cX10_opens 178 = .ok (.aload_n 0, 1) := by decide +kernel
theorem dX10_opens_179 : decode cX10_opens 179 = .ok (.iload_n 1, 1) := by decide +kernel
theorem dX10_opens_180 : decode cX10_opens 180 = .ok (.iconst 1, 1) := by decide +kernel
theorem dX10_opens_181 : decode cX10_opens 181 = .ok (.iadd, 1) := by decide +kernel
theorem dX10_opens_182 : decode cX10_opens 182 = .ok (.bipush 10, 2) := by decide +kernel
theorem dX10_opens_184 : decode cX10_opens 184 = .ok (.iload_n 2, 1) := by decide +kernel
theorem dX10_opens_185 : decode cX10_opens 185 = .ok (.imul, 1) := by decide +kernel
theorem dX10_opens_186 : decode cX10_opens 186 = .ok (.iload 6, 2) := by decide +kernel
theorem dX10_opens_188 : decode cX10_opens 188 = .ok (.iadd, 1) := by decide +kernel
theorem dX10_opens_189 : decode cX10_opens 189 = .ok (.iload_n 3, 1) := by decide +kernel
theorem dX10_opens_190 : decode cX10_opens 190 = .ok (.iconst 1, 1) := by decide +kernel
theorem dX10_opens_191 : decode cX10_opens 191 = .ok (.iload 6, 2) := by decide +kernel
theorem dX10_opens_193 : decode cX10_opens 193 = .ok (.ishl, 1) := by decide +kernel
theorem dX10_opens_194 : decode cX10_opens 194 = .ok (.ior, 1) := by decide +kernel
theorem dX10_opens_195 : decode cX10_opens 195 = .ok (.invokevirtual 313, 3) := by decide +kernel
theorem dX10_opens_198 : decode cX10_opens 198 = .ok (.iinc 6 1, 3) := by decide +kernel
theorem dX10_opens_201 : decode cX10_opens 201 = .ok (.goto (-41), 3) := by decide +kernel
theorem dX10_opens_204 : decode cX10_opens 204 = .ok (.return_, 1) := by decide +kernel
theorem dX10_open_0 : decode cX10_open 0 = .ok (.iload_n 1, 1) := by decide +kernel
theorem dX10_open_1 : decode cX10_open 1 = .ok (.i2l, 1) := by decide +kernel
theorem dX10_open_2 : decode cX10_open 2 = .ok (.lconst 0, 1) := by decide +kernel
theorem dX10_open_3 : decode cX10_open 3 = .ok (.ldc2_w 124, 3) := by decide +kernel
theorem dX10_open_6 : decode cX10_open 6 = .ok (.invokestatic 116, 3) := by decide +kernel
theorem dX10_open_9 : decode cX10_open 9 = .ok (.ifCond .ne 5, 3) := by decide +kernel
theorem dX10_open_12 : decode cX10_open 12 = .ok (.iconst (-1), 1) := by decide +kernel
theorem dX10_open_13 : decode cX10_open 13 = .ok (.ireturn, 1) := by decide +kernel
theorem dX10_open_14 : decode cX10_open 14 = .ok (.aload_n 0, 1) := by decide +kernel
theorem dX10_open_15 : decode cX10_open 15 = .ok (.iconst 0, 1) := by decide +kernel
theorem dX10_open_16 : decode cX10_open 16 = .ok (.putfield 304, 3) := by decide +kernel
theorem dX10_open_19 : decode cX10_open 19 = .ok (.aload_n 0, 1) := by decide +kernel
theorem dX10_open_20 : decode cX10_open 20 = .ok (.iconst 0, 1) := by decide +kernel
theorem dX10_open_21 : decode cX10_open 21 = .ok (.iconst 0, 1) := by decide +kernel
theorem dX10_open_22 : decode cX10_open 22 = .ok (.iconst 0, 1) := by decide +kernel
theorem dX10_open_23 : decode cX10_open 23 = .ok (.invokevirtual 313, 3) := by decide +kernel
theorem dX10_open_26 : decode cX10_open 26 = .ok (.iload_n 1, 1) := by decide +kernel
theorem dX10_open_27 : decode cX10_open 27 = .ok (.ifCond .ne 8, 3) := by decide +kernel
theorem dX10_open_30 : decode cX10_open 30 = .ok (.aload_n 0, 1) := by decide +kernel
theorem dX10_open_31 : decode cX10_open 31 = .ok (.getfield 304, 3) := by decide +kernel
theorem dX10_open_34 : decode cX10_open 34 = .ok (.ireturn, 1) := by decide +kernel
theorem dX10_open_35 : decode cX10_open 35 = .ok (.aload_n 0, 1) := by decide +kernel
theorem dX10_open_36 : decode cX10_open 36 = .ok (.getfield 304, 3) := by decide +kernel
theorem dX10_open_39 : decode cX10_open 39 = .ok (.ifCond .ne 8, 3) := by decide +kernel
theorem dX10_open_42 : decode cX10_open 42 = .ok (.bipush (-5), 2) := by decide +kernel
theorem dX10_open_44 : decode cX10_open 44 = .ok (.goto 21, 3) := by decide +kernel
theorem dX10_open_47 : decode cX10_open 47 = .ok (.iload_n 1, 1) := by decide +kernel
theorem dX10_open_48 : decode cX10_open 48 = .ok (.iconst 1, 1) := by decide +kernel
theorem dX10_open_49 : decode cX10_open 49 = .ok (.if_icmp .ne 10, 3) := by decide +kernel
theorem dX10_open_52 : decode cX10_open 52 = .ok (.aload_n 0, 1) := by decide +kernel
theorem dX10_open_53 : decode cX10_open 53 = .ok (.getfield 307, 3) := by decide +kernel
theorem dX10_open_56 : decode cX10_open 56 = .ok (.goto 9, 3) := by decide +kernel
theorem dX10_open_59 : decode cX10_open 59 = .ok (.aload_n 0, 1) := by decide +kernel
theorem dX10_open_60 : decode cX10_open 60 = .ok (.getfield 310, 3) := by decide +kernel
theorem dX10_open_63 : decode cX10_open 63 = .ok (.iconst 1, 1) := by decide +kernel
theorem dX10_open_64 : decode cX10_open 64 = .ok (.iadd, 1) := by decide +kernel
theorem dX10_open_65 : decode cX10_open 65 = .ok (.ireturn, 1) := by decide +kernel
theorem dX10_isLookedFor_0 : decode cX10_isLookedFor 0 = .ok (.aload_n 0, 1) := by decide +kernel
theorem dX10_isLookedFor_1 : decode cX10_isLookedFor 1 = .ok (.getfield 110, 3) := by decide +kernel
theorem dX10_isLookedFor_4 : decode cX10_isLookedFor 4 = .ok (.aload_n 0, 1) := by decide +kernel
theorem dX10_isLookedFor_5 : decode cX10_isLookedFor 5 = .ok (.getfield 18, 3) := by decide +kernel
theorem dX10_isLookedFor_8 : decode cX10_isLookedFor 8 = .ok (.aload_n 0, 1) := by decide +kernel
theorem dX10_isLookedFor_9 : decode cX10_isLookedFor 9 = .ok (.getfield 15, 3) := by decide +kernel
theorem dX10_isLookedFor_12 : decode cX10_isLookedFor 12 = .ok (.iconst 1, 1) := by decide +kernel
theorem dX10_isLookedFor_13 : decode cX10_isLookedFor 13 = .ok (.isub, 1) := by decide +kernel
theorem dX10_isLookedFor_14 : decode cX10_isLookedFor 14 = .ok (.if_icmp .ne 8, 3) := by decide +kernel
theorem dX10_isLookedFor_17 : decode cX10_isLookedFor 17 = .ok (.bipush 20, 2) := by decide +kernel
theorem dX10_isLookedFor_19 : decode cX10_isLookedFor 19 = .ok (.goto 5, 3) := by decide +kernel
theorem dX10_isLookedFor_22 : decode cX10_isLookedFor 22 = .ok (.bipush 10, 2) := by decide +kernel
theorem dX10_isLookedFor_24 : decode cX10_isLookedFor 24 = .ok (.if_icmp .gt 7, 3) := by decide +kernel
theorem dX10_isLookedFor_27 : decode cX10_isLookedFor 27 = .ok (.iconst 1, 1) := by decide +kernel
theorem dX10_isLookedFor_28 : decode cX10_isLookedFor 28 = .ok (.goto 4, 3) := by decide +kernel
theorem dX10_isLookedFor_31 : decode cX10_isLookedFor 31 = .ok (.iconst 0, 1) := by decide +kernel
theorem dX10_isLookedFor_32 : decode cX10_isLookedFor 32 = .ok (.ireturn, 1) := by decide +kernel
theorem dX10_deals_0 : decode cX10_deals 0 = .ok (.iload_n 1, 1) := by decide +kernel
theorem dX10_deals_1 : decode cX10_deals 1 = .ok (.aload_n 0, 1) := by decide +kernel
theorem dX10_deals_2 : decode cX10_deals 2 = .ok (.getfield 110, 3) := by decide +kernel
theorem dX10_deals_5 : decode cX10_deals 5 = .ok (.if_icmp .ne 59, 3) := by decide +kernel
theorem dX10_deals_8 : decode cX10_deals 8 = .ok (.iload_n 2, 1) := by decide +kernel
theorem dX10_deals_9 : decode cX10_deals 9 = .ok (.iload_n 3, 1) := by decide +kernel
theorem dX10_deals_10 : decode cX10_deals 10 = .ok (.if_icmp .ge 4, 3) := by decide +kernel
theorem dX10_deals_13 : decode cX10_deals 13 = .ok (.return_, 1) := by decide +kernel
theorem dX10_deals_14 : decode cX10_deals 14 = .ok (.aload_n 0, 1) := by decide +kernel
theorem dX10_deals_15 : decode cX10_deals 15 = .ok (.getfield 315, 3) := by decide +kernel
theorem dX10_deals_18 : decode cX10_deals 18 = .ok (.ifCond .ne 35, 3) := by decide +kernel
theorem dX10_deals_21 : decode cX10_deals 21 = .ok (.iconst 0, 1) := by decide +kernel
theorem dX10_deals_22 : decode cX10_deals 22 = .ok (.istore 5, 2) := by decide +kernel
theorem dX10_deals_24 : decode cX10_deals 24 = .ok (.iload 5, 2) := by decide +kernel
theorem dX10_deals_26 : decode cX10_deals 26 = .ok (.aload_n 0, 1) := by decide +kernel
theorem dX10_deals_27 : decode cX10_deals 27 = .ok (.getfield 110, 3) := by decide +kernel
theorem dX10_deals_30 : decode cX10_deals 30 = .ok (.if_icmp .ge 23, 3) := by decide +kernel
theorem dX10_deals_33 : decode cX10_deals 33 = .ok (.aload_n 0, 1) := by decide +kernel
theorem dX10_deals_34 : decode cX10_deals 34 = .ok (.getfield 95, 3) := by decide +kernel
theorem dX10_deals_37 : decode cX10_deals 37 = .ok (.iload 5, 2) := by decide +kernel
theorem dX10_deals_39 : decode cX10_deals 39 = .ok (.aload_n 0, 1) := by decide +kernel
theorem dX10_deals_40 : decode cX10_deals 40 = .ok (.getfield 92, 3) := by decide +kernel
theorem dX10_deals_43 : decode cX10_deals 43 = .ok (.iload 5, 2) := by decide +kernel
theorem dX10_deals_45 : decode cX10_deals 45 = .ok (.iaload, 1) := by decide +kernel
theorem dX10_deals_46 : decode cX10_deals 46 = .ok (.iastore, 1) := by decide +kernel
theorem dX10_deals_47 : decode cX10_deals 47 = .ok (.iinc 5 1, 3) := by decide +kernel
theorem dX10_deals_50 : decode cX10_deals 50 = .ok (.goto (-26), 3) := by decide +kernel
theorem dX10_deals_53 : decode cX10_deals 53 = .ok (.aload_n 0, 1) := by decide +kernel
theorem dX10_deals_54 : decode cX10_deals 54 = .ok (.dup, 1) := by decide +kernel
theorem dX10_deals_55 : decode cX10_deals 55 = .ok (.getfield 315, 3) := by decide +kernel
theorem dX10_deals_58 : decode cX10_deals 58 = .ok (.iconst 1, 1) := by decide +kernel
theorem dX10_deals_59 : decode cX10_deals 59 = .ok (.iadd, 1) := by decide +kernel
theorem dX10_deals_60 : decode cX10_deals 60 = .ok (.putfield 315, 3) := by decide +kernel
theorem dX10_deals_63 : decode cX10_deals 63 = .ok (.return_, 1) := by decide +kernel
theorem dX10_deals_64 : decode cX10_deals 64 = .ok (.iconst 0, 1) := by decide +kernel
theorem dX10_deals_65 : decode cX10_deals 65 = .ok (.istore 5, 2) := by decide +kernel
theorem dX10_deals_67 : decode cX10_deals 67 = .ok (.iload 5, 2) := by decide +kernel
theorem dX10_deals_69 : decode cX10_deals 69 = .ok (.iload_n 2, 1) := by decide +kernel
theorem dX10_deals_70 : decode cX10_deals 70 = .ok (.if_icmp .gt 115, 3) := by decide +kernel
theorem dX10_deals_73 : decode cX10_deals 73 = .ok (.iload 5, 2) := by decide +kernel
theorem dX10_deals_75 : decode cX10_deals 75 = .ok (.iload_n 3, 1) := by decide +kernel
theorem dX10_deals_76 : decode cX10_deals 76 = .ok (.if_icmp .ge 109, 3) := by decide +kernel
theorem dX10_deals_79 : decode cX10_deals 79 = .ok (.aload_n 0, 1) := by decide +kernel
theorem dX10_deals_80 : decode cX10_deals 80 = .ok (.iload_n 1, 1) := by decide +kernel
theorem dX10_deals_81 : decode cX10_deals 81 = .ok (.iload 5, 2) := by decide +kernel
theorem dX10_deals_83 : decode cX10_deals 83 = .ok (.iload 4, 2) := by decide +kernel
theorem dX10_deals_85 : decode cX10_deals 85 = .ok (.invokevirtual 318, 3) := by decide +kernel
theorem dX10_deals_88 : decode cX10_deals 88 = .ok (.ifCond .ne 6, 3) := by decide +kernel
theorem dX10_deals_91 : decode cX10_deals 91 = .ok (.goto 88, 3) := by decide +kernel
theorem dX10_deals_94 : decode cX10_deals 94 = .ok (.aload_n 0, 1) := by decide +kernel
theorem dX10_deals_95 : decode cX10_deals 95 = .ok (.getfield 92, 3) := by decide +kernel
theorem dX10_deals_98 : decode cX10_deals 98 = .ok (.iload_n 1, 1) := by decide +kernel
theorem dX10_deals_99 : decode cX10_deals 99 = .ok (.iload 5, 2) := by decide +kernel
theorem dX10_deals_101 : decode cX10_deals 101 = .ok (.iastore, 1) := by decide +kernel
theorem dX10_deals_102 : decode cX10_deals 102 = .ok (.aload_n 0, 1) := by decide +kernel
theorem dX10_deals_103 : decode cX10_deals 103 = .ok (.iload_n 1, 1) := by decide +kernel
theorem dX10_deals_104 : decode cX10_deals 104 = .ok (.iconst 1, 1) := by decide +kernel
theorem dX10_deals_105 : decode cX10_deals 105 = .ok (.iadd, 1) := by decide +kernel
theorem dX10_deals_106 : decode cX10_deals 106 = .ok (.iload_n 2, 1) := by decide +kernel
theorem dX10_deals_107 : decode cX10_deals 107 = .ok (.iload 5, 2) := by decide +kernel
theorem dX10_deals_109 : decode cX10_deals 109 = .ok (.iconst 1, 1) := by decide +kernel
theorem dX10_deals_110 : decode cX10_deals 110 = .ok (.iadd, 1) := by decide +kernel
theorem dX10_deals_111 : decode cX10_deals 111 = .ok (.invokestatic 148, 3) := by decide +kernel
theorem dX10_deals_114 : decode cX10_deals 114 = .ok (.iload_n 3, 1) := by decide +kernel
theorem dX10_deals_115 : decode cX10_deals 115 = .ok (.iload 4, 2) := by decide +kernel
theorem dX10_deals_117 : decode cX10_deals 117 = .ok (.invokevirtual 321, 3) := by decide +kernel
theorem dX10_deals_120 : decode cX10_deals 120 = .ok (.aload_n 0, 1) := by decide +kernel
theorem dX10_deals_121 : decode cX10_deals 121 = .ok (.getfield 21, 3) := by decide +kernel
theorem dX10_deals_124 : decode cX10_deals 124 = .ok (.iload_n 1, 1) := by decide +kernel
theorem dX10_deals_125 : decode cX10_deals 125 = .ok (.iaload, 1) := by decide +kernel
theorem dX10_deals_126 : decode cX10_deals 126 = .ok (.istore 6, 2) := by decide +kernel
theorem dX10_deals_128 : decode cX10_deals 128 = .ok (.iload 6, 2) := by decide +kernel
theorem dX10_deals_130 : decode cX10_deals 130 = .ok (.ifCond .le 49, 3) := by decide +kernel
theorem dX10_deals_133 : decode cX10_deals 133 = .ok (.iload 6, 2) := by decide +kernel
theorem dX10_deals_135 : decode cX10_deals 135 = .ok (.invokestatic 113, 3) := by decide +kernel
theorem dX10_deals_138 : decode cX10_deals 138 = .ok (.aload_n 0, 1) := by decide +kernel
theorem dX10_deals_139 : decode cX10_deals 139 = .ok (.getfield 18, 3) := by decide +kernel
theorem dX10_deals_142 : decode cX10_deals 142 = .ok (.if_icmp .ne 21, 3) := by decide +kernel
theorem dX10_deals_145 : decode cX10_deals 145 = .ok (.aload_n 0, 1) := by decide +kernel
theorem dX10_deals_146 : decode cX10_deals 146 = .ok (.getfield 98, 3) := by decide +kernel
theorem dX10_deals_149 : decode cX10_deals 149 = .ok (.sipush 256, 3) := by decide +kernel
theorem dX10_deals_152 : decode cX10_deals 152 = .ok (.iload 5, 2) := by decide +kernel
theorem dX10_deals_154 : decode cX10_deals 154 = .ok (.imul, 1) := by decide +kernel
theorem dX10_deals_155 : decode cX10_deals 155 = .ok (.iload 6, 2) := by decide +kernel
theorem dX10_deals_157 : decode cX10_deals 157 = .ok (.iadd, 1) := by decide +kernel
theorem dX10_deals_158 : decode cX10_deals 158 = .ok (.dup2, 1) := by decide +kernel
theorem dX10_deals_159 : decode cX10_deals 159 = .ok (.iaload, 1) := by decide +kernel
theorem dX10_deals_160 : decode cX10_deals 160 = .ok (.iconst 1, 1) := by decide +kernel
theorem dX10_deals_161 : decode cX10_deals 161 = .ok (.isub, 1) := by decide +kernel
theorem dX10_deals_162 : decode cX10_deals 162 = .ok (.iastore, 1) := by decide +kernel
theorem dX10_deals_163 : decode cX10_deals 163 = .ok (.iload 6, 2) := by decide +kernel
theorem dX10_deals_165 : decode cX10_deals 165 = .ok (.iconst 1, 1) := by decide +kernel
theorem dX10_deals_166 : decode cX10_deals 166 = .ok (.isub, 1) := by decide +kernel
theorem dX10_deals_167 : decode cX10_deals 167 = .ok (.aload_n 0, 1) := by decide +kernel
theorem dX10_deals_168 : decode cX10_deals 168 = .ok (.getfield 21, 3) := by decide +kernel
theorem dX10_deals_171 : decode cX10_deals 171 = .ok (.iload_n 1, 1) := by decide +kernel
theorem dX10_deals_172 : decode cX10_deals 172 = .ok (.iaload, 1) := by decide +kernel
theorem dX10_deals_173 : decode cX10_deals 173 = .ok (.iand, 1) := by decide +kernel
theorem dX10_deals_174 : decode cX10_deals 174 = .ok (.istore 6, 2) := by decide +kernel
theorem dX10_deals_176 : decode cX10_deals 176 = .ok (.goto (-48), 3) := by decide +kernel
theorem dX10_deals_179 : decode cX10_deals 179 = .ok (.iinc 5 1, 3) := by decide +kernel
theorem dX10_deals_182 : decode cX10_deals 182 = .ok (.goto (-115), 3) := by decide +kernel
theorem dX10_deals_185 : decode cX10_deals 185 = .ok (.return_, 1) := by decide +kernel
theorem dX10_takes_0 : decode cX10_takes 0 = .ok (.aload_n 0, 1) := by decide +kernel
theorem dX10_takes_1 : decode cX10_takes 1 = .ok (.getfield 21, 3) := by decide +kernel
theorem dX10_takes_4 : decode cX10_takes 4 = .ok (.iload_n 1, 1) := by decide +kernel
theorem dX10_takes_5 : decode cX10_takes 5 = .ok (.iaload, 1) := by decide +kernel
theorem dX10_takes_6 : decode cX10_takes 6 = .ok (.istore 4, 2) := by decide +kernel
theorem dX10_takes_8 : decode cX10_takes 8 = .ok (.iload 4, 2) := by decide +kernel
theorem dX10_takes_10 : decode cX10_takes 10 = .ok (.ifCond .le 50, 3) := by decide +kernel
theorem dX10_takes_13 : decode cX10_takes 13 = .ok (.iload 4, 2) := by decide +kernel
theorem dX10_takes_15 : decode cX10_takes 15 = .ok (.invokestatic 113, 3) := by decide +kernel
theorem dX10_takes_18 : decode cX10_takes 18 = .ok (.aload_n 0, 1) := by decide +kernel
theorem dX10_takes_19 : decode cX10_takes 19 = .ok (.getfield 18, 3) := by decide +kernel
theorem dX10_takes_22 : decode cX10_takes 22 = .ok (.if_icmp .ne 22, 3) := by decide +kernel
theorem dX10_takes_25 : decode cX10_takes 25 = .ok (.aload_n 0, 1) := by decide +kernel
theorem dX10_takes_26 : decode cX10_takes 26 = .ok (.getfield 98, 3) := by decide +kernel
theorem dX10_takes_29 : decode cX10_takes 29 = .ok (.sipush 256, 3) := by decide +kernel
theorem dX10_takes_32 : decode cX10_takes 32 = .ok (.iload_n 2, 1) := by decide +kernel
theorem dX10_takes_33 : decode cX10_takes 33 = .ok (.imul, 1) := by decide +kernel
theorem dX10_takes_34 : decode cX10_takes 34 = .ok (.iload 4, 2) := by decide +kernel
theorem dX10_takes_36 : decode cX10_takes 36 = .ok (.iadd, 1) := by decide +kernel
theorem dX10_takes_37 : decode cX10_takes 37 = .ok (.iaload, 1) := by decide +kernel
theorem dX10_takes_38 : decode cX10_takes 38 = .ok (.iload_n 3, 1) := by decide +kernel
theorem dX10_takes_39 : decode cX10_takes 39 = .ok (.if_icmp .ne 5, 3) := by decide +kernel
theorem dX10_takes_42 : decode cX10_takes 42 = .ok (.iconst 0, 1) := by decide +kernel
theorem dX10_takes_43 : decode cX10_takes 43 = .ok (.ireturn, 1) := by decide +kernel
theorem dX10_takes_44 : decode cX10_takes 44 = .ok (.iload 4, 2) := by decide +kernel
theorem dX10_takes_46 : decode cX10_takes 46 = .ok (.iconst 1, 1) := by decide +kernel
theorem dX10_takes_47 : decode cX10_takes 47 = .ok (.isub, 1) := by decide +kernel
theorem dX10_takes_48 : decode cX10_takes 48 = .ok (.aload_n 0, 1) := by decide +kernel
theorem dX10_takes_49 : decode cX10_takes 49 = .ok (.getfield 21, 3) := by decide +kernel
theorem dX10_takes_52 : decode cX10_takes 52 = .ok (.iload_n 1, 1) := by decide +kernel
theorem dX10_takes_53 : decode cX10_takes 53 = .ok (.iaload, 1) := by decide +kernel
theorem dX10_takes_54 : decode cX10_takes 54 = .ok (.iand, 1) := by decide +kernel
theorem dX10_takes_55 : decode cX10_takes 55 = .ok (.istore 4, 2) := by decide +kernel
theorem dX10_takes_57 : decode cX10_takes 57 = .ok (.goto (-49), 3) := by decide +kernel
theorem dX10_takes_60 : decode cX10_takes 60 = .ok (.aload_n 0, 1) := by decide +kernel
theorem dX10_takes_61 : decode cX10_takes 61 = .ok (.getfield 21, 3) := by decide +kernel
theorem dX10_takes_64 : decode cX10_takes 64 = .ok (.iload_n 1, 1) := by decide +kernel
theorem dX10_takes_65 : decode cX10_takes 65 = .ok (.iaload, 1) := by decide +kernel
theorem dX10_takes_66 : decode cX10_takes 66 = .ok (.istore 4, 2) := by decide +kernel
theorem dX10_takes_68 : decode cX10_takes 68 = .ok (.iload 4, 2) := by decide +kernel
theorem dX10_takes_70 : decode cX10_takes 70 = .ok (.ifCond .le 48, 3) := by decide +kernel
theorem dX10_takes_73 : decode cX10_takes 73 = .ok (.iload 4, 2) := by decide +kernel
theorem dX10_takes_75 : decode cX10_takes 75 = .ok (.invokestatic 113, 3) := by decide +kernel
theorem dX10_takes_78 : decode cX10_takes 78 = .ok (.aload_n 0, 1) := by decide +kernel
theorem dX10_takes_79 : decode cX10_takes 79 = .ok (.getfield 18, 3) := by decide +kernel
theorem dX10_takes_82 : decode cX10_takes 82 = .ok (.if_icmp .ne 20, 3) := by decide +kernel
theorem dX10_takes_85 : decode cX10_takes 85 = .ok (.aload_n 0, 1) := by decide +kernel
theorem dX10_takes_86 : decode cX10_takes 86 = .ok (.getfield 98, 3) := by decide +kernel
theorem dX10_takes_89 : decode cX10_takes 89 = .ok (.sipush 256, 3) := by decide +kernel
theorem dX10_takes_92 : decode cX10_takes 92 = .ok (.iload_n 2, 1) := by decide +kernel
theorem dX10_takes_93 : decode cX10_takes 93 = .ok (.imul, 1) := by decide +kernel
theorem dX10_takes_94 : decode cX10_takes 94 = .ok (.iload 4, 2) := by decide +kernel
theorem dX10_takes_96 : decode cX10_takes 96 = .ok (.iadd, 1) := by decide +kernel
theorem dX10_takes_97 : decode cX10_takes 97 = .ok (.dup2, 1) := by decide +kernel
theorem dX10_takes_98 : decode cX10_takes 98 = .ok (.iaload, 1) := by decide +kernel
theorem dX10_takes_99 : decode cX10_takes 99 = .ok (.iconst 1, 1) := by decide +kernel
theorem dX10_takes_100 : decode cX10_takes 100 = .ok (.iadd, 1) := by decide +kernel
theorem dX10_takes_101 : decode cX10_takes 101 = .ok (.iastore, 1) := by decide +kernel
theorem dX10_takes_102 : decode cX10_takes 102 = .ok (.iload 4, 2) := by decide +kernel
theorem dX10_takes_104 : decode cX10_takes 104 = .ok (.iconst 1, 1) := by decide +kernel
theorem dX10_takes_105 : decode cX10_takes 105 = .ok (.isub, 1) := by decide +kernel
theorem dX10_takes_106 : decode cX10_takes 106 = .ok (.aload_n 0, 1) := by decide +kernel
theorem dX10_takes_107 : decode cX10_takes 107 = .ok (.getfield 21, 3) := by decide +kernel
theorem dX10_takes_110 : decode cX10_takes 110 = .ok (.iload_n 1, 1) := by decide +kernel
theorem dX10_takes_111 : decode cX10_takes 111 = .ok (.iaload, 1) := by decide +kernel
theorem dX10_takes_112 : decode cX10_takes 112 = .ok (.iand, 1) := by decide +kernel
theorem dX10_takes_113 : decode cX10_takes 113 = .ok (.istore 4, 2) := by decide +kernel
theorem dX10_takes_115 : decode cX10_takes 115 = .ok (.goto (-47), 3) := by decide +kernel
theorem dX10_takes_118 : decode cX10_takes 118 = .ok (.iconst 1, 1) := by decide +kernel
theorem dX10_takes_119 : decode cX10_takes 119 = .ok (.ireturn, 1) := by decide +kernel
theorem dX10_parts_0 : decode cX10_parts 0 = .ok (.aload_n 0, 1) := by decide +kernel
theorem dX10_parts_1 : decode cX10_parts 1 = .ok (.iconst 0, 1) := by decide +kernel
theorem dX10_parts_2 : decode cX10_parts 2 = .ok (.putfield 315, 3) := by decide +kernel
theorem dX10_parts_5 : decode cX10_parts 5 = .ok (.iconst 0, 1) := by decide +kernel
theorem dX10_parts_6 : decode cX10_parts 6 = .ok (.istore_n 2, 1) := by decide +kernel
theorem dX10_parts_7 : decode cX10_parts 7 = .ok (.iload_n 2, 1) := by decide +kernel
theorem dX10_parts_8 : decode cX10_parts 8 = .ok (.sipush 1536, 3) := by decide +kernel
theorem dX10_parts_11 : decode cX10_parts 11 = .ok (.if_icmp .ge 16, 3) := by decide +kernel
theorem dX10_parts_14 : decode cX10_parts 14 = .ok (.aload_n 0, 1) := by decide +kernel
theorem dX10_parts_15 : decode cX10_parts 15 = .ok (.getfield 98, 3) := by decide +kernel
theorem dX10_parts_18 : decode cX10_parts 18 = .ok (.iload_n 2, 1) := by decide +kernel
theorem dX10_parts_19 : decode cX10_parts 19 = .ok (.iconst 0, 1) := by decide +kernel
theorem dX10_parts_20 : decode cX10_parts 20 = .ok (.iastore, 1) := by decide +kernel
theorem dX10_parts_21 : decode cX10_parts 21 = .ok (.iinc 2 1, 3) := by decide +kernel
theorem dX10_parts_24 : decode cX10_parts 24 = .ok (.goto (-17), 3) := by decide +kernel
theorem dX10_parts_27 : decode cX10_parts 27 = .ok (.aload_n 0, 1) := by decide +kernel
theorem dX10_parts_28 : decode cX10_parts 28 = .ok (.getfield 18, 3) := by decide +kernel
theorem dX10_parts_31 : decode cX10_parts 31 = .ok (.aload_n 0, 1) := by decide +kernel
theorem dX10_parts_32 : decode cX10_parts 32 = .ok (.getfield 15, 3) := by decide +kernel
theorem dX10_parts_35 : decode cX10_parts 35 = .ok (.iconst 1, 1) := by decide +kernel
theorem dX10_parts_36 : decode cX10_parts 36 = .ok (.isub, 1) := by decide +kernel
theorem dX10_parts_37 : decode cX10_parts 37 = .ok (.if_icmp .ne 17, 3) := by decide +kernel
theorem dX10_parts_40 : decode cX10_parts 40 = .ok (.aload_n 0, 1) := by decide +kernel
theorem dX10_parts_41 : decode cX10_parts 41 = .ok (.getfield 9, 3) := by decide +kernel
theorem dX10_parts_44 : decode cX10_parts 44 = .ok (.aload_n 0, 1) := by decide +kernel
theorem dX10_parts_45 : decode cX10_parts 45 = .ok (.getfield 15, 3) := by decide +kernel
theorem dX10_parts_48 : decode cX10_parts 48 = .ok (.isub, 1) := by decide +kernel
theorem dX10_parts_49 : decode cX10_parts 49 = .ok (.iconst 1, 1) := by decide +kernel
theorem dX10_parts_50 : decode cX10_parts 50 = .ok (.iadd, 1) := by decide +kernel
theorem dX10_parts_51 : decode cX10_parts 51 = .ok (.goto 18, 3) := by decide +kernel
theorem dX10_parts_54 : decode cX10_parts 54 = .ok (.aload_n 0, 1) := by decide +kernel
theorem dX10_parts_55 : decode cX10_parts 55 = .ok (.getfield 9, 3) := by decide +kernel
theorem dX10_parts_58 : decode cX10_parts 58 = .ok (.iconst 1, 1) := by decide +kernel
theorem dX10_parts_59 : decode cX10_parts 59 = .ok (.isub, 1) := by decide +kernel
theorem dX10_parts_60 : decode cX10_parts 60 = .ok (.aload_n 0, 1) := by decide +kernel
theorem dX10_parts_61 : decode cX10_parts 61 = .ok (.getfield 9, 3) := by decide +kernel
theorem dX10_parts_64 : decode cX10_parts 64 = .ok (.iconst 2, 1) := by decide +kernel
theorem dX10_parts_65 : decode cX10_parts 65 = .ok (.isub, 1) := by decide +kernel
theorem dX10_parts_66 : decode cX10_parts 66 = .ok (.imul, 1) := by decide +kernel
theorem dX10_parts_67 : decode cX10_parts 67 = .ok (.iconst 2, 1) := by decide +kernel
theorem dX10_parts_68 : decode cX10_parts 68 = .ok (.idiv, 1) := by decide +kernel
theorem dX10_parts_69 : decode cX10_parts 69 = .ok (.istore_n 2, 1) := by decide +kernel
theorem dX10_parts_70 : decode cX10_parts 70 = .ok (.iload_n 2, 1) := by decide +kernel
theorem dX10_parts_71 : decode cX10_parts 71 = .ok (.iload_n 1, 1) := by decide +kernel
theorem dX10_parts_72 : decode cX10_parts 72 = .ok (.irem, 1) := by decide +kernel
theorem dX10_parts_73 : decode cX10_parts 73 = .ok (.ifCond .ne 13, 3) := by decide +kernel
theorem dX10_parts_76 : decode cX10_parts 76 = .ok (.aload_n 0, 1) := by decide +kernel
theorem dX10_parts_77 : decode cX10_parts 77 = .ok (.iconst 0, 1) := by decide +kernel
theorem dX10_parts_78 : decode cX10_parts 78 = .ok (.iconst 0, 1) := by decide +kernel
theorem dX10_parts_79 : decode cX10_parts 79 = .ok (.iload_n 1, 1) := by decide +kernel
theorem dX10_parts_80 : decode cX10_parts 80 = .ok (.iload_n 2, 1) := by decide +kernel
theorem dX10_parts_81 : decode cX10_parts 81 = .ok (.iload_n 1, 1) := by decide +kernel
theorem dX10_parts_82 : decode cX10_parts 82 = .ok (.idiv, 1) := by decide +kernel
theorem dX10_parts_83 : decode cX10_parts 83 = .ok (.invokevirtual 321, 3) := by decide +kernel
theorem dX10_parts_86 : decode cX10_parts 86 = .ok (.return_, 1) := by decide +kernel
theorem dX10_parted_0 : decode cX10_parted 0 = .ok (.iload_n 1, 1) := by decide +kernel
theorem dX10_parted_1 : decode cX10_parted 1 = .ok (.i2l, 1) := by decide +kernel
theorem dX10_parted_2 : decode cX10_parted 2 = .ok (.ldc2_w 124, 3) := by decide +kernel
theorem dX10_parted_5 : decode cX10_parted 5 = .ok (.ldc2_w 325, 3) := by decide +kernel
theorem dX10_parted_8 : decode cX10_parted 8 = .ok (.invokestatic 116, 3) := by decide +kernel
theorem dX10_parted_11 : decode cX10_parted 11 = .ok (.ifCond .ne 6, 3) := by decide +kernel
theorem dX10_parted_14 : decode cX10_parted 14 = .ok (.bipush (-2), 2) := by decide +kernel
theorem dX10_parted_16 : decode cX10_parted 16 = .ok (.ireturn, 1) := by decide +kernel
theorem dX10_parted_17 : decode cX10_parted 17 = .ok (.aload_n 0, 1) := by decide +kernel
theorem dX10_parted_18 : decode cX10_parted 18 = .ok (.invokevirtual 327, 3) := by decide +kernel
theorem dX10_parted_21 : decode cX10_parted 21 = .ok (.ifCond .ne 6, 3) := by decide +kernel
theorem dX10_parted_24 : decode cX10_parted 24 = .ok (.bipush (-3), 2) := by decide +kernel
theorem dX10_parted_26 : decode cX10_parted 26 = .ok (.ireturn, 1) := by decide +kernel
theorem dX10_parted_27 : decode cX10_parted 27 = .ok (.aload_n 0, 1) := by decide +kernel
theorem dX10_parted_28 : decode cX10_parted 28 = .ok (.iload_n 1, 1) := by decide +kernel
theorem dX10_parted_29 : decode cX10_parted 29 = .ok (.invokevirtual 330, 3) := by decide +kernel
theorem dX10_parted_32 : decode cX10_parted 32 = .ok (.aload_n 0, 1) := by decide +kernel
theorem dX10_parted_33 : decode cX10_parted 33 = .ok (.getfield 315, 3) := by decide +kernel
theorem dX10_parted_36 : decode cX10_parted 36 = .ok (.ireturn, 1) := by decide +kernel
theorem dX10_part_0 : decode cX10_part 0 = .ok (.aload_n 0, 1) := by decide +kernel
theorem dX10_part_1 : decode cX10_part 1 = .ok (.iload_n 2, 1) := by decide +kernel
theorem dX10_part_2 : decode cX10_part 2 = .ok (.invokevirtual 140, 3) := by decide +kernel
theorem dX10_part_5 : decode cX10_part 5 = .ok (.ifCond .ne 5, 3) := by decide +kernel
theorem dX10_part_8 : decode cX10_part 8 = .ok (.iconst (-1), 1) := by decide +kernel
theorem dX10_part_9 : decode cX10_part 9 = .ok (.ireturn, 1) := by decide +kernel
theorem dX10_part_10 : decode cX10_part 10 = .ok (.iload_n 1, 1) := by decide +kernel
theorem dX10_part_11 : decode cX10_part 11 = .ok (.i2l, 1) := by decide +kernel
theorem dX10_part_12 : decode cX10_part 12 = .ok (.ldc2_w 124, 3) := by decide +kernel
theorem dX10_part_15 : decode cX10_part 15 = .ok (.ldc2_w 325, 3) := by decide +kernel
theorem dX10_part_18 : decode cX10_part 18 = .ok (.invokestatic 116, 3) := by decide +kernel
theorem dX10_part_21 : decode cX10_part 21 = .ok (.ifCond .ne 6, 3) := by decide +kernel
theorem dX10_part_24 : decode cX10_part 24 = .ok (.bipush (-2), 2) := by decide +kernel
theorem dX10_part_26 : decode cX10_part 26 = .ok (.ireturn, 1) := by decide +kernel
theorem dX10_part_27 : decode cX10_part 27 = .ok (.aload_n 0, 1) := by decide +kernel
theorem dX10_part_28 : decode cX10_part 28 = .ok (.invokevirtual 327, 3) := by decide +kernel
theorem dX10_part_31 : decode cX10_part 31 = .ok (.ifCond .ne 6, 3) := by decide +kernel
theorem dX10_part_34 : decode cX10_part 34 = .ok (.bipush (-3), 2) := by decide +kernel
theorem dX10_part_36 : decode cX10_part 36 = .ok (.ireturn, 1) := by decide +kernel
theorem dX10_part_37 : decode cX10_part 37 = .ok (.aload_n 0, 1) := by decide +kernel
theorem dX10_part_38 : decode cX10_part 38 = .ok (.iload_n 1, 1) := by decide +kernel
theorem dX10_part_39 : decode cX10_part 39 = .ok (.invokevirtual 330, 3) := by decide +kernel
theorem dX10_part_42 : decode cX10_part 42 = .ok (.aload_n 0, 1) := by decide +kernel
theorem dX10_part_43 : decode cX10_part 43 = .ok (.getfield 315, 3) := by decide +kernel
theorem dX10_part_46 : decode cX10_part 46 = .ok (.ifCond .ne 8, 3) := by decide +kernel
theorem dX10_part_49 : decode cX10_part 49 = .ok (.bipush (-5), 2) := by decide +kernel
theorem dX10_part_51 : decode cX10_part 51 = .ok (.goto 9, 3) := by decide +kernel
theorem dX10_part_54 : decode cX10_part 54 = .ok (.aload_n 0, 1) := by decide +kernel
theorem dX10_part_55 : decode cX10_part 55 = .ok (.getfield 95, 3) := by decide +kernel
theorem dX10_part_58 : decode cX10_part 58 = .ok (.iload_n 2, 1) := by decide +kernel
theorem dX10_part_59 : decode cX10_part 59 = .ok (.iaload, 1) := by decide +kernel
theorem dX10_part_60 : decode cX10_part 60 = .ok (.ireturn, 1) := by decide +kernel
theorem dX10_see_0 : decode cX10_see 0 = .ok (.iload_n 1, 1) := by decide +kernel
theorem dX10_see_1 : decode cX10_see 1 = .ok (.iconst (-1), 1) := by decide +kernel
theorem dX10_see_2 : decode cX10_see 2 = .ok (.if_icmp .ne 10, 3) := by decide +kernel
theorem dX10_see_5 : decode cX10_see 5 = .ok (.aload_n 0, 1) := by decide +kernel
theorem dX10_see_6 : decode cX10_see 6 = .ok (.iconst 0, 1) := by decide +kernel
theorem dX10_see_7 : decode cX10_see 7 = .ok (.putfield 333, 3) := by decide +kernel
theorem dX10_see_10 : decode cX10_see 10 = .ok (.iconst 0, 1) := by decide +kernel
theorem dX10_see_11 : decode cX10_see 11 = .ok (.ireturn, 1) := by decide +kernel
theorem dX10_see_12 : decode cX10_see 12 = .ok (.aload_n 0, 1) := by decide +kernel
theorem dX10_see_13 : decode cX10_see 13 = .ok (.iload_n 1, 1) := by decide +kernel
theorem dX10_see_14 : decode cX10_see 14 = .ok (.aload_n 0, 1) := by decide +kernel
theorem dX10_see_15 : decode cX10_see 15 = .ok (.getfield 18, 3) := by decide +kernel
theorem dX10_see_18 : decode cX10_see 18 = .ok (.invokevirtual 284, 3) := by decide +kernel
theorem dX10_see_21 : decode cX10_see 21 = .ok (.ifCond .ne 5, 3) := by decide +kernel
theorem dX10_see_24 : decode cX10_see 24 = .ok (.iconst (-1), 1) := by decide +kernel
theorem dX10_see_25 : decode cX10_see 25 = .ok (.ireturn, 1) := by decide +kernel
theorem dX10_see_26 : decode cX10_see 26 = .ok (.iload_n 2, 1) := by decide +kernel
theorem dX10_see_27 : decode cX10_see 27 = .ok (.i2l, 1) := by decide +kernel
theorem dX10_see_28 : decode cX10_see 28 = .ok (.ldc2_w 336, 3) := by decide +kernel
theorem dX10_see_31 : decode cX10_see 31 = .ok (.ldc2_w 338, 3) := by decide +kernel
theorem dX10_see_34 : decode cX10_see 34 = .ok (.invokestatic 116, 3) := by decide +kernel
theorem dX10_see_37 : decode cX10_see 37 = .ok (.ifCond .ne 6, 3) := by decide +kernel
theorem dX10_see_40 : decode cX10_see 40 = .ok (.bipush (-2), 2) := by decide +kernel
theorem dX10_see_42 : decode cX10_see 42 = .ok (.ireturn, 1) := by decide +kernel
theorem dX10_see_43 : decode cX10_see 43 = .ok (.aload_n 0, 1) := by decide +kernel
theorem dX10_see_44 : decode cX10_see 44 = .ok (.getfield 333, 3) := by decide +kernel
theorem dX10_see_47 : decode cX10_see 47 = .ok (.iconst 4, 1) := by decide +kernel
theorem dX10_see_48 : decode cX10_see 48 = .ok (.if_icmp .ne 6, 3) := by decide +kernel
theorem dX10_see_51 : decode cX10_see 51 = .ok (.bipush (-4), 2) := by decide +kernel
theorem dX10_see_53 : decode cX10_see 53 = .ok (.ireturn, 1) := by decide +kernel
theorem dX10_see_54 : decode cX10_see 54 = .ok (.aload_n 0, 1) := by decide +kernel
theorem dX10_see_55 : decode cX10_see 55 = .ok (.getfield 37, 3) := by decide +kernel
theorem dX10_see_58 : decode cX10_see 58 = .ok (.aload_n 0, 1) := by decide +kernel
theorem dX10_see_59 : decode cX10_see 59 = .ok (.getfield 333, 3) := by decide +kernel
theorem dX10_see_62 : decode cX10_see 62 = .ok (.iload_n 1, 1) := by decide +kernel
theorem dX10_see_63 : decode cX10_see 63 = .ok (.iastore, 1) := by decide +kernel
theorem dX10_see_64 : decode cX10_see 64 = .ok (.aload_n 0, 1) := by decide +kernel
theorem dX10_see_65 : decode cX10_see 65 = .ok (.getfield 40, 3) := by decide +kernel
theorem dX10_see_68 : decode cX10_see 68 = .ok (.aload_n 0, 1) := by decide +kernel
theorem dX10_see_69 : decode cX10_see 69 = .ok (.getfield 333, 3) := by decide +kernel
theorem dX10_see_72 : decode cX10_see 72 = .ok (.iload_n 2, 1) := by decide +kernel
theorem dX10_see_73 : decode cX10_see 73 = .ok (.iastore, 1) := by decide +kernel
theorem dX10_see_74 : decode cX10_see 74 = .ok (.aload_n 0, 1) := by decide +kernel
theorem dX10_see_75 : decode cX10_see 75 = .ok (.dup, 1) := by decide +kernel
theorem dX10_see_76 : decode cX10_see 76 = .ok (.getfield 333, 3) := by decide +kernel
theorem dX10_see_79 : decode cX10_see 79 = .ok (.iconst 1, 1) := by decide +kernel
theorem dX10_see_80 : decode cX10_see 80 = .ok (.iadd, 1) := by decide +kernel
theorem dX10_see_81 : decode cX10_see 81 = .ok (.putfield 333, 3) := by decide +kernel
theorem dX10_see_84 : decode cX10_see 84 = .ok (.aload_n 0, 1) := by decide +kernel
theorem dX10_see_85 : decode cX10_see 85 = .ok (.getfield 333, 3) := by decide +kernel
theorem dX10_see_88 : decode cX10_see 88 = .ok (.ireturn, 1) := by decide +kernel
theorem dX10_isSeen_0 : decode cX10_isSeen 0 = .ok (.iconst 0, 1) := by decide +kernel
theorem dX10_isSeen_1 : decode cX10_isSeen 1 = .ok (.istore_n 1, 1) := by decide +kernel
theorem dX10_isSeen_2 : decode cX10_isSeen 2 = .ok (.iload_n 1, 1) := by decide +kernel
theorem dX10_isSeen_3 : decode cX10_isSeen 3 = .ok (.aload_n 0, 1) := by decide +kernel
theorem dX10_isSeen_4 : decode cX10_isSeen 4 = .ok (.getfield 333, 3) := by decide +kernel
theorem dX10_isSeen_7 : decode cX10_isSeen 7 = .ok (.if_icmp .ge 47, 3) := by decide +kernel
theorem dX10_isSeen_10 : decode cX10_isSeen 10 = .ok (.aload_n 0, 1) := by decide +kernel
theorem dX10_isSeen_11 : decode cX10_isSeen 11 = .ok (.aload_n 0, 1) := by decide +kernel
theorem dX10_isSeen_12 : decode cX10_isSeen 12 = .ok (.getfield 37, 3) := by decide +kernel
theorem dX10_isSeen_15 : decode cX10_isSeen 15 = .ok (.iload_n 1, 1) := by decide +kernel
theorem dX10_isSeen_16 : decode cX10_isSeen 16 = .ok (.iaload, 1) := by decide +kernel
theorem dX10_isSeen_17 : decode cX10_isSeen 17 = .ok (.aload_n 0, 1) := by decide +kernel
theorem dX10_isSeen_18 : decode cX10_isSeen 18 = .ok (.getfield 18, 3) := by decide +kernel
theorem dX10_isSeen_21 : decode cX10_isSeen 21 = .ok (.invokevirtual 284, 3) := by decide +kernel
theorem dX10_isSeen_24 : decode cX10_isSeen 24 = .ok (.ifCond .eq 22, 3) := by decide +kernel
theorem dX10_isSeen_27 : decode cX10_isSeen 27 = .ok (.aload_n 0, 1) := by decide +kernel
theorem dX10_isSeen_28 : decode cX10_isSeen 28 = .ok (.aload_n 0, 1) := by decide +kernel
theorem dX10_isSeen_29 : decode cX10_isSeen 29 = .ok (.getfield 37, 3) := by decide +kernel
theorem dX10_isSeen_32 : decode cX10_isSeen 32 = .ok (.iload_n 1, 1) := by decide +kernel
theorem dX10_isSeen_33 : decode cX10_isSeen 33 = .ok (.iaload, 1) := by decide +kernel
theorem dX10_isSeen_34 : decode cX10_isSeen 34 = .ok (.invokevirtual 170, 3) := by decide +kernel
theorem dX10_isSeen_37 : decode cX10_isSeen 37 = .ok (.aload_n 0, 1) := by decide +kernel
theorem dX10_isSeen_38 : decode cX10_isSeen 38 = .ok (.getfield 40, 3) := by decide +kernel
theorem dX10_isSeen_41 : decode cX10_isSeen 41 = .ok (.iload_n 1, 1) := by decide +kernel
theorem dX10_isSeen_42 : decode cX10_isSeen 42 = .ok (.iaload, 1) := by decide +kernel
theorem dX10_isSeen_43 : decode cX10_isSeen 43 = .ok (.if_icmp .eq 5, 3) := by decide +kernel
theorem dX10_isSeen_46 : decode cX10_isSeen 46 = .ok (.iconst 0, 1) := by decide +kernel
theorem dX10_isSeen_47 : decode cX10_isSeen 47 = .ok (.ireturn, 1) := by decide +kernel
theorem dX10_isSeen_48 : decode cX10_isSeen 48 = .ok (.iinc 1 1, 3) := by decide +kernel
theorem dX10_isSeen_51 : decode cX10_isSeen 51 = .ok (.goto (-49), 3) := by decide +kernel
theorem dX10_isSeen_54 : decode cX10_isSeen 54 = .ok (.iconst 1, 1) := by decide +kernel
theorem dX10_isSeen_55 : decode cX10_isSeen 55 = .ok (.ireturn, 1) := by decide +kernel
theorem dX10_fits_0 : decode cX10_fits 0 = .ok (.aload_n 0, 1) := by decide +kernel
theorem dX10_fits_1 : decode cX10_fits 1 = .ok (.iload_n 1, 1) := by decide +kernel
theorem dX10_fits_2 : decode cX10_fits 2 = .ok (.invokevirtual 140, 3) := by decide +kernel
theorem dX10_fits_5 : decode cX10_fits 5 = .ok (.ifCond .eq 13, 3) := by decide +kernel
theorem dX10_fits_8 : decode cX10_fits 8 = .ok (.iload_n 2, 1) := by decide +kernel
theorem dX10_fits_9 : decode cX10_fits 9 = .ok (.i2l, 1) := by decide +kernel
theorem dX10_fits_10 : decode cX10_fits 10 = .ok (.lconst 0, 1) := by decide +kernel
theorem dX10_fits_11 : decode cX10_fits 11 = .ok (.lconst 1, 1) := by decide +kernel
theorem dX10_fits_12 : decode cX10_fits 12 = .ok (.invokestatic 116, 3) := by decide +kernel
theorem dX10_fits_15 : decode cX10_fits 15 = .ok (.ifCond .ne 5, 3) := by decide +kernel
theorem dX10_fits_18 : decode cX10_fits 18 = .ok (.iconst (-1), 1) := by decide +kernel
theorem dX10_fits_19 : decode cX10_fits 19 = .ok (.ireturn, 1) := by decide +kernel
theorem dX10_fits_20 : decode cX10_fits 20 = .ok (.aload_n 0, 1) := by decide +kernel
theorem dX10_fits_21 : decode cX10_fits 21 = .ok (.getfield 28, 3) := by decide +kernel
theorem dX10_fits_24 : decode cX10_fits 24 = .ok (.iload_n 1, 1) := by decide +kernel
theorem dX10_fits_25 : decode cX10_fits 25 = .ok (.iaload, 1) := by decide +kernel
theorem dX10_fits_26 : decode cX10_fits 26 = .ok (.istore_n 3, 1) := by decide +kernel
theorem dX10_fits_27 : decode cX10_fits 27 = .ok (.iconst 0, 1) := by decide +kernel
theorem dX10_fits_28 : decode cX10_fits 28 = .ok (.istore 4, 2) := by decide +kernel
theorem dX10_fits_30 : decode cX10_fits 30 = .ok (.iconst 0, 1) := by decide +kernel
theorem dX10_fits_31 : decode cX10_fits 31 = .ok (.istore 5, 2) := by decide +kernel
theorem dX10_fits_33 : decode cX10_fits 33 = .ok (.bipush (-9), 2) := by decide +kernel
theorem dX10_fits_35 : decode cX10_fits 35 = .ok (.istore 6, 2) := by decide +kernel
theorem dX10_fits_37 : decode cX10_fits 37 = .ok (.iload 6, 2) := by decide +kernel
theorem dX10_fits_39 : decode cX10_fits 39 = .ok (.bipush 9, 2) := by decide +kernel
theorem dX10_fits_41 : decode cX10_fits 41 = .ok (.if_icmp .gt 42, 3) := by decide +kernel
theorem dX10_fits_44 : decode cX10_fits 44 = .ok (.aload_n 0, 1) := by decide +kernel
theorem dX10_fits_45 : decode cX10_fits 45 = .ok (.getfield 28, 3) := by decide +kernel
theorem dX10_fits_48 : decode cX10_fits 48 = .ok (.iload_n 1, 1) := by decide +kernel
theorem dX10_fits_49 : decode cX10_fits 49 = .ok (.iload 6, 2) := by decide +kernel
theorem dX10_fits_51 : decode cX10_fits 51 = .ok (.iastore, 1) := by decide +kernel
theorem dX10_fits_52 : decode cX10_fits 52 = .ok (.aload_n 0, 1) := by decide +kernel
theorem dX10_fits_53 : decode cX10_fits 53 = .ok (.invokevirtual 340, 3) := by decide +kernel
theorem dX10_fits_56 : decode cX10_fits 56 = .ok (.ifCond .ne 6, 3) := by decide +kernel
theorem dX10_fits_59 : decode cX10_fits 59 = .ok (.goto 18, 3) := by decide +kernel
theorem dX10_fits_62 : decode cX10_fits 62 = .ok (.iinc 4 1, 3) := by decide +kernel
theorem dX10_fits_65 : decode cX10_fits 65 = .ok (.iload 5, 2) := by decide +kernel
theorem dX10_fits_67 : decode cX10_fits 67 = .ok (.ifCond .ne 10, 3) := by decide +kernel
theorem dX10_fits_70 : decode cX10_fits 70 = .ok (.iload 6, 2) := by decide +kernel
theorem dX10_fits_72 : decode cX10_fits 72 = .ok (.bipush 10, 2) := by decide +kernel
theorem dX10_fits_74 : decode cX10_fits 74 = .ok (.iadd, 1) := by decide +kernel
theorem dX10_fits_75 : decode cX10_fits 75 = .ok (.istore 5, 2) := by decide +kernel
theorem dX10_fits_77 : decode cX10_fits 77 = .ok (.iinc 6 1, 3) := by decide +kernel
theorem dX10_fits_80 : decode cX10_fits 80 = .ok (.goto (-43), 3) := by decide +kernel
theorem dX10_fits_83 : decode cX10_fits 83 = .ok (.aload_n 0, 1) := by decide +kernel
theorem dX10_fits_84 : decode cX10_fits 84 = .ok (.getfield 28, 3) := by decide +kernel
theorem dX10_fits_87 : decode cX10_fits 87 = .ok (.iload_n 1, 1) := by decide +kernel
theorem dX10_fits_88 : decode cX10_fits 88 = .ok (.iload_n 3, 1) := by decide +kernel
theorem dX10_fits_89 : decode cX10_fits 89 = .ok (.iastore, 1) := by decide +kernel
theorem dX10_fits_90 : decode cX10_fits 90 = .ok (.iload_n 2, 1) := by decide +kernel
theorem dX10_fits_91 : decode cX10_fits 91 = .ok (.ifCond .ne 8, 3) := by decide +kernel
theorem dX10_fits_94 : decode cX10_fits 94 = .ok (.iload 4, 2) := by decide +kernel
theorem dX10_fits_96 : decode cX10_fits 96 = .ok (.goto 5, 3) := by decide +kernel
theorem dX10_fits_99 : decode cX10_fits 99 = .ok (.iload 5, 2) := by decide +kernel
theorem dX10_fits_101 : decode cX10_fits 101 = .ok (.ireturn, 1) := by decide +kernel
theorem dX10_lowest_0 : decode cX10_lowest 0 = .ok (.iload_n 0, 1) := by decide +kernel
theorem dX10_lowest_1 : decode cX10_lowest 1 = .ok (.istore_n 3, 1) := by decide +kernel
theorem dX10_lowest_2 : decode cX10_lowest 2 = .ok (.iload_n 1, 1) := by decide +kernel
theorem dX10_lowest_3 : decode cX10_lowest 3 = .ok (.istore 4, 2) := by decide +kernel
theorem dX10_lowest_5 : decode cX10_lowest 5 = .ok (.iload 4, 2) := by decide +kernel
theorem dX10_lowest_7 : decode cX10_lowest 7 = .ok (.ifCond .eq 19, 3) := by decide +kernel
theorem dX10_lowest_10 : decode cX10_lowest 10 = .ok (.iload_n 3, 1) := by decide +kernel
theorem dX10_lowest_11 : decode cX10_lowest 11 = .ok (.iload 4, 2) := by decide +kernel
theorem dX10_lowest_13 : decode cX10_lowest 13 = .ok (.irem, 1) := by decide +kernel
theorem dX10_lowest_14 : decode cX10_lowest 14 = .ok (.istore 5, 2) := by decide +kernel
theorem dX10_lowest_16 : decode cX10_lowest 16 = .ok (.iload 4, 2) := by decide +kernel
theorem dX10_lowest_18 : decode cX10_lowest 18 = .ok (.istore_n 3, 1) := by decide +kernel
theorem dX10_lowest_19 : decode cX10_lowest 19 = .ok (.iload 5, 2) := by decide +kernel
theorem dX10_lowest_21 : decode cX10_lowest 21 = .ok (.istore 4, 2) := by decide +kernel
theorem dX10_lowest_23 : decode cX10_lowest 23 = .ok (.goto (-18), 3) := by decide +kernel
theorem dX10_lowest_26 : decode cX10_lowest 26 = .ok (.iload_n 2, 1) := by decide +kernel
theorem dX10_lowest_27 : decode cX10_lowest 27 = .ok (.ifCond .ne 10, 3) := by decide +kernel
theorem dX10_lowest_30 : decode cX10_lowest 30 = .ok (.iload_n 0, 1) := by decide +kernel
theorem dX10_lowest_31 : decode cX10_lowest 31 = .ok (.iload_n 3, 1) := by decide +kernel
theorem dX10_lowest_32 : decode cX10_lowest 32 = .ok (.idiv, 1) := by decide +kernel
theorem dX10_lowest_33 : decode cX10_lowest 33 = .ok (.i2l, 1) := by decide +kernel
theorem dX10_lowest_34 : decode cX10_lowest 34 = .ok (.goto 7, 3) := by decide +kernel
theorem dX10_lowest_37 : decode cX10_lowest 37 = .ok (.iload_n 1, 1) := by decide +kernel
theorem dX10_lowest_38 : decode cX10_lowest 38 = .ok (.iload_n 3, 1) := by decide +kernel
theorem dX10_lowest_39 : decode cX10_lowest 39 = .ok (.idiv, 1) := by decide +kernel
theorem dX10_lowest_40 : decode cX10_lowest 40 = .ok (.i2l, 1) := by decide +kernel
theorem dX10_lowest_41 : decode cX10_lowest 41 = .ok (.lreturn, 1) := by decide +kernel
theorem dX10_odds_0 : decode cX10_odds 0 = .ok (.aload_n 0, 1) := by decide +kernel
theorem dX10_odds_1 : decode cX10_odds 1 = .ok (.iload_n 1, 1) := by decide +kernel
theorem dX10_odds_2 : decode cX10_odds 2 = .ok (.aload_n 0, 1) := by decide +kernel
theorem dX10_odds_3 : decode cX10_odds 3 = .ok (.getfield 15, 3) := by decide +kernel
theorem dX10_odds_6 : decode cX10_odds 6 = .ok (.invokevirtual 284, 3) := by decide +kernel
theorem dX10_odds_9 : decode cX10_odds 9 = .ok (.ifCond .eq 13, 3) := by decide +kernel
theorem dX10_odds_12 : decode cX10_odds 12 = .ok (.iload_n 2, 1) := by decide +kernel
theorem dX10_odds_13 : decode cX10_odds 13 = .ok (.i2l, 1) := by decide +kernel
theorem dX10_odds_14 : decode cX10_odds 14 = .ok (.lconst 0, 1) := by decide +kernel
theorem dX10_odds_15 : decode cX10_odds 15 = .ok (.lconst 1, 1) := by decide +kernel
theorem dX10_odds_16 : decode cX10_odds 16 = .ok (.invokestatic 116, 3) := by decide +kernel
theorem dX10_odds_19 : decode cX10_odds 19 = .ok (.ifCond .ne 7, 3) := by decide +kernel
theorem dX10_odds_22 : decode cX10_odds 22 = .ok (.ldc2_w 343, 3) := by decide +kernel
theorem dX10_odds_25 : decode cX10_odds 25 = .ok (.lreturn, 1) := by decide +kernel
theorem dX10_odds_26 : decode cX10_odds 26 = .ok (.iconst 0, 1) := by decide +kernel
theorem dX10_odds_27 : decode cX10_odds 27 = .ok (.istore_n 3, 1) := by decide +kernel
theorem dX10_odds_28 : decode cX10_odds 28 = .ok (.iconst 0, 1) := by decide +kernel
theorem dX10_odds_29 : decode cX10_odds 29 = .ok (.istore 4, 2) := by decide +kernel
theorem dX10_odds_31 : decode cX10_odds 31 = .ok (.iload 4, 2) := by decide +kernel
theorem dX10_odds_33 : decode cX10_odds 33 = .ok (.aload_n 0, 1) := by decide +kernel
theorem dX10_odds_34 : decode cX10_odds 34 = .ok (.getfield 110, 3) := by decide +kernel
theorem dX10_odds_37 : decode cX10_odds 37 = .ok (.if_icmp .ge 25, 3) := by decide +kernel
theorem dX10_odds_40 : decode cX10_odds 40 = .ok (.aload_n 0, 1) := by decide +kernel
theorem dX10_odds_41 : decode cX10_odds 41 = .ok (.getfield 21, 3) := by decide +kernel
theorem dX10_odds_44 : decode cX10_odds 44 = .ok (.iload 4, 2) := by decide +kernel
theorem dX10_odds_46 : decode cX10_odds 46 = .ok (.iaload, 1) := by decide +kernel
theorem dX10_odds_47 : decode cX10_odds 47 = .ok (.iload_n 1, 1) := by decide +kernel
theorem dX10_odds_48 : decode cX10_odds 48 = .ok (.iand, 1) := by decide +kernel
theorem dX10_odds_49 : decode cX10_odds 49 = .ok (.iload_n 1, 1) := by decide +kernel
theorem dX10_odds_50 : decode cX10_odds 50 = .ok (.if_icmp .ne 6, 3) := by decide +kernel
theorem dX10_odds_53 : decode cX10_odds 53 = .ok (.iinc 3 1, 3) := by decide +kernel
theorem dX10_odds_56 : decode cX10_odds 56 = .ok (.iinc 4 1, 3) := by decide +kernel
theorem dX10_odds_59 : decode cX10_odds 59 = .ok (.goto (-28), 3) := by decide +kernel
theorem dX10_odds_62 : decode cX10_odds 62 = .ok (.aload_n 0, 1) := by decide +kernel
theorem dX10_odds_63 : decode cX10_odds 63 = .ok (.iload_n 1, 1) := by decide +kernel
theorem dX10_odds_64 : decode cX10_odds 64 = .ok (.invokevirtual 275, 3) := by decide +kernel
theorem dX10_odds_67 : decode cX10_odds 67 = .ok (.iload_n 3, 1) := by decide +kernel
theorem dX10_odds_68 : decode cX10_odds 68 = .ok (.iload_n 2, 1) := by decide +kernel
theorem dX10_odds_69 : decode cX10_odds 69 = .ok (.invokestatic 345, 3) := by decide +kernel
theorem dX10_odds_72 : decode cX10_odds 72 = .ok (.lreturn, 1) := by decide +kernel
theorem dX10_mean_0 : decode cX10_mean 0 = .ok (.iconst 0, 1) := by decide +kernel
theorem dX10_mean_1 : decode cX10_mean 1 = .ok (.istore_n 2, 1) := by decide +kernel
theorem dX10_mean_2 : decode cX10_mean 2 = .ok (.iconst 0, 1) := by decide +kernel
theorem dX10_mean_3 : decode cX10_mean 3 = .ok (.istore_n 3, 1) := by decide +kernel
theorem dX10_mean_4 : decode cX10_mean 4 = .ok (.iload_n 3, 1) := by decide +kernel
theorem dX10_mean_5 : decode cX10_mean 5 = .ok (.aload_n 0, 1) := by decide +kernel
theorem dX10_mean_6 : decode cX10_mean 6 = .ok (.getfield 110, 3) := by decide +kernel
theorem dX10_mean_9 : decode cX10_mean 9 = .ok (.if_icmp .ge 21, 3) := by decide +kernel
theorem dX10_mean_12 : decode cX10_mean 12 = .ok (.aload_n 0, 1) := by decide +kernel
theorem dX10_mean_13 : decode cX10_mean 13 = .ok (.getfield 28, 3) := by decide +kernel
theorem dX10_mean_16 : decode cX10_mean 16 = .ok (.iload_n 3, 1) := by decide +kernel
theorem dX10_mean_17 : decode cX10_mean 17 = .ok (.iaload, 1) := by decide +kernel
theorem dX10_mean_18 : decode cX10_mean 18 = .ok (.ifCond .eq 6, 3) := by decide +kernel
theorem dX10_mean_21 : decode cX10_mean 21 = .ok (.iinc 2 1, 3) := by decide +kernel
theorem dX10_mean_24 : decode cX10_mean 24 = .ok (.iinc 3 1, 3) := by decide +kernel
theorem dX10_mean_27 : decode cX10_mean 27 = .ok (.goto (-23), 3) := by decide +kernel
theorem dX10_mean_30 : decode cX10_mean 30 = .ok (.iload_n 2, 1) := by decide +kernel
theorem dX10_mean_31 : decode cX10_mean 31 = .ok (.ifCond .eq 13, 3) := by decide +kernel
theorem dX10_mean_34 : decode cX10_mean 34 = .ok (.iload_n 1, 1) := by decide +kernel
theorem dX10_mean_35 : decode cX10_mean 35 = .ok (.i2l, 1) := by decide +kernel
theorem dX10_mean_36 : decode cX10_mean 36 = .ok (.lconst 0, 1) := by decide +kernel
theorem dX10_mean_37 : decode cX10_mean 37 = .ok (.lconst 1, 1) := by decide +kernel
theorem dX10_mean_38 : decode cX10_mean 38 = .ok (.invokestatic 116, 3) := by decide +kernel
theorem dX10_mean_41 : decode cX10_mean 41 = .ok (.ifCond .ne 9, 3) := by decide +kernel
theorem dX10_mean_44 : decode cX10_mean 44 = .ok (.ldc2_w 343, 3) := by decide +kernel
theorem dX10_mean_47 : decode cX10_mean 47 = .ok (.goto 12, 3) := by decide +kernel
theorem dX10_mean_50 : decode cX10_mean 50 = .ok (.aload_n 0, 1) := by decide +kernel
theorem dX10_mean_51 : decode cX10_mean 51 = .ok (.invokevirtual 167, 3) := by decide +kernel
theorem dX10_mean_54 : decode cX10_mean 54 = .ok (.iload_n 2, 1) := by decide +kernel
theorem dX10_mean_55 : decode cX10_mean 55 = .ok (.iload_n 1, 1) := by decide +kernel
theorem dX10_mean_56 : decode cX10_mean 56 = .ok (.invokestatic 345, 3) := by decide +kernel
theorem dX10_mean_59 : decode cX10_mean 59 = .ok (.lreturn, 1) := by decide +kernel
theorem dX10_event_0 : decode cX10_event 0 = .ok (.iload_n 1, 1) := by decide +kernel
theorem dX10_event_1 : decode cX10_event 1 = .ok (.iconst (-1), 1) := by decide +kernel
theorem dX10_event_2 : decode cX10_event 2 = .ok (.if_icmp .ne 10, 3) := by decide +kernel
theorem dX10_event_5 : decode cX10_event 5 = .ok (.aload_n 0, 1) := by decide +kernel
theorem dX10_event_6 : decode cX10_event 6 = .ok (.iconst 0, 1) := by decide +kernel
theorem dX10_event_7 : decode cX10_event 7 = .ok (.putfield 349, 3) := by decide +kernel
theorem dX10_event_10 : decode cX10_event 10 = .ok (.iconst 0, 1) := by decide +kernel
theorem dX10_event_11 : decode cX10_event 11 = .ok (.ireturn, 1) := by decide +kernel
theorem dX10_event_12 : decode cX10_event 12 = .ok (.iload_n 1, 1) := by decide +kernel
theorem dX10_event_13 : decode cX10_event 13 = .ok (.i2l, 1) := by decide +kernel
theorem dX10_event_14 : decode cX10_event 14 = .ok (.lconst 0, 1) := by decide +kernel
theorem dX10_event_15 : decode cX10_event 15 = .ok (.ldc2_w 120, 3) := by decide +kernel
theorem dX10_event_18 : decode cX10_event 18 = .ok (.invokestatic 116, 3) := by decide +kernel
theorem dX10_event_21 : decode cX10_event 21 = .ok (.ifCond .eq 16, 3) := by decide +kernel
theorem dX10_event_24 : decode cX10_event 24 = .ok (.iload_n 1, 1) := by decide +kernel
theorem dX10_event_25 : decode cX10_event 25 = .ok (.iconst 2, 1) := by decide +kernel
theorem dX10_event_26 : decode cX10_event 26 = .ok (.if_icmp .le 13, 3) := by decide +kernel
theorem dX10_event_29 : decode cX10_event 29 = .ok (.aload_n 0, 1) := by decide +kernel
theorem dX10_event_30 : decode cX10_event 30 = .ok (.iload_n 2, 1) := by decide +kernel
theorem dX10_event_31 : decode cX10_event 31 = .ok (.invokevirtual 140, 3) := by decide +kernel
theorem dX10_event_34 : decode cX10_event 34 = .ok (.ifCond .ne 5, 3) := by decide +kernel
theorem dX10_event_37 : decode cX10_event 37 = .ok (.iconst (-1), 1) := by decide +kernel
theorem dX10_event_38 : decode cX10_event 38 = .ok (.ireturn, 1) := by decide +kernel
theorem dX10_event_39 : decode cX10_event 39 = .ok (.iload_n 1, 1) := by decide +kernel
theorem dX10_event_40 : decode cX10_event 40 = .ok (.ifCond .ne 11, 3) := by decide +kernel
theorem dX10_event_43 : decode cX10_event 43 = .ok (.aload_n 0, 1) := by decide +kernel
theorem dX10_event_44 : decode cX10_event 44 = .ok (.iload_n 2, 1) := by decide +kernel
theorem dX10_event_45 : decode cX10_event 45 = .ok (.invokevirtual 157, 3) := by decide +kernel
theorem dX10_event_48 : decode cX10_event 48 = .ok (.ifCond .eq 19, 3) := by decide +kernel
theorem dX10_event_51 : decode cX10_event 51 = .ok (.iload_n 1, 1) := by decide +kernel
theorem dX10_event_52 : decode cX10_event 52 = .ok (.i2l, 1) := by decide +kernel
theorem dX10_event_53 : decode cX10_event 53 = .ok (.lconst 1, 1) := by decide +kernel
theorem dX10_event_54 : decode cX10_event 54 = .ok (.ldc2_w 124, 3) := by decide +kernel
theorem dX10_event_57 : decode cX10_event 57 = .ok (.invokestatic 116, 3) := by decide +kernel
theorem dX10_event_60 : decode cX10_event 60 = .ok (.ifCond .eq 10, 3) := by decide +kernel
theorem dX10_event_63 : decode cX10_event 63 = .ok (.iload_n 2, 1) := by decide +kernel
theorem dX10_event_64 : decode cX10_event 64 = .ok (.ifCond .eq 6, 3) := by decide +kernel
theorem dX10_event_67 : decode cX10_event 67 = .ok (.bipush (-2), 2) := by decide +kernel
theorem dX10_event_69 : decode cX10_event 69 = .ok (.ireturn, 1) := by decide +kernel
theorem dX10_event_70 : decode cX10_event 70 = .ok (.aload_n 0, 1) := by decide +kernel
theorem dX10_event_71 : decode cX10_event 71 = .ok (.getfield 349, 3) := by decide +kernel
theorem dX10_event_74 : decode cX10_event 74 = .ok (.bipush 8, 2) := by decide +kernel
theorem dX10_event_76 : decode cX10_event 76 = .ok (.if_icmp .ne 6, 3) := by decide +kernel
theorem dX10_event_79 : decode cX10_event 79 = .ok (.bipush (-4), 2) := by decide +kernel
theorem dX10_event_81 : decode cX10_event 81 = .ok (.ireturn, 1) := by decide +kernel
theorem dX10_event_82 : decode cX10_event 82 = .ok (.aload_n 0, 1) := by decide +kernel
theorem dX10_event_83 : decode cX10_event 83 = .ok (.getfield 43, 3) := by decide +kernel
theorem dX10_event_86 : decode cX10_event 86 = .ok (.aload_n 0, 1) := by decide +kernel
theorem dX10_event_87 : decode cX10_event 87 = .ok (.getfield 349, 3) := by decide +kernel
theorem dX10_event_90 : decode cX10_event 90 = .ok (.iload_n 1, 1) := by decide +kernel
theorem dX10_event_91 : decode cX10_event 91 = .ok (.iastore, 1) := by decide +kernel
theorem dX10_event_92 : decode cX10_event 92 = .ok (.aload_n 0, 1) := by decide +kernel
theorem dX10_event_93 : decode cX10_event 93 = .ok (.getfield 46, 3) := by decide +kernel
theorem dX10_event_96 : decode cX10_event 96 = .ok (.aload_n 0, 1) := by decide +kernel
theorem dX10_event_97 : decode cX10_event 97 = .ok (.getfield 349, 3) := by decide +kernel
theorem dX10_event_100 : decode cX10_event 100 = .ok (.iload_n 2, 1) := by decide +kernel
theorem dX10_event_101 : decode cX10_event 101 = .ok (.iastore, 1) := by decide +kernel
theorem dX10_event_102 : decode cX10_event 102 = .ok (.aload_n 0, 1) := by decide +kernel
theorem dX10_event_103 : decode cX10_event 103 = .ok (.dup, 1) := by decide +kernel
theorem dX10_event_104 : decode cX10_event 104 = .ok (.getfield 349, 3) := by decide +kernel
theorem dX10_event_107 : decode cX10_event 107 = .ok (.iconst 1, 1) := by decide +kernel
theorem dX10_event_108 : decode cX10_event 108 = .ok (.iadd, 1) := by decide +kernel
theorem dX10_event_109 : decode cX10_event 109 = .ok (.putfield 349, 3) := by decide +kernel
theorem dX10_event_112 : decode cX10_event 112 = .ok (.aload_n 0, 1) := by decide +kernel
theorem dX10_event_113 : decode cX10_event 113 = .ok (.getfield 349, 3) := by decide +kernel
theorem dX10_event_116 : decode cX10_event 116 = .ok (.ireturn, 1) := by decide +kernel
theorem dX10_happens_0 : decode cX10_happens 0 = .ok (.iload_n 1, 1) := by decide +kernel
theorem dX10_happens_1 : decode cX10_happens 1 = .ok (.tableswitch 114 0 3 #[31, 49, 79, 91], 31) := by decide +kernel
theorem dX10_happens_32 : decode cX10_happens 32 = .ok (.aload_n 0, 1) := by decide +kernel
theorem dX10_happens_33 : decode cX10_happens 33 = .ok (.iload_n 2, 1) := by decide +kernel
theorem dX10_happens_34 : decode cX10_happens 34 = .ok (.invokevirtual 157, 3) := by decide +kernel
theorem dX10_happens_37 : decode cX10_happens 37 = .ok (.ifCond .eq 12, 3) := by decide +kernel
theorem dX10_happens_40 : decode cX10_happens 40 = .ok (.aload_n 0, 1) := by decide +kernel
theorem dX10_happens_41 : decode cX10_happens 41 = .ok (.iconst 1, 1) := by decide +kernel
theorem dX10_happens_42 : decode cX10_happens 42 = .ok (.invokevirtual 164, 3) := by decide +kernel
theorem dX10_happens_45 : decode cX10_happens 45 = .ok (.ifCond .eq 4, 3) := by decide +kernel
theorem dX10_happens_48 : decode cX10_happens 48 = .ok (.return_, 1) := by decide +kernel
theorem dX10_happens_49 : decode cX10_happens 49 = .ok (.return_, 1) := by decide +kernel
theorem dX10_happens_50 : decode cX10_happens 50 = .ok (.iconst 0, 1) := by decide +kernel
theorem dX10_happens_51 : decode cX10_happens 51 = .ok (.istore_n 3, 1) := by decide +kernel
theorem dX10_happens_52 : decode cX10_happens 52 = .ok (.iload_n 3, 1) := by decide +kernel
theorem dX10_happens_53 : decode cX10_happens 53 = .ok (.aload_n 0, 1) := by decide +kernel
theorem dX10_happens_54 : decode cX10_happens 54 = .ok (.getfield 110, 3) := by decide +kernel
theorem dX10_happens_57 : decode cX10_happens 57 = .ok (.if_icmp .ge 22, 3) := by decide +kernel
theorem dX10_happens_60 : decode cX10_happens 60 = .ok (.aload_n 0, 1) := by decide +kernel
theorem dX10_happens_61 : decode cX10_happens 61 = .ok (.getfield 28, 3) := by decide +kernel
theorem dX10_happens_64 : decode cX10_happens 64 = .ok (.iload_n 3, 1) := by decide +kernel
theorem dX10_happens_65 : decode cX10_happens 65 = .ok (.aload_n 0, 1) := by decide +kernel
theorem dX10_happens_66 : decode cX10_happens 66 = .ok (.getfield 28, 3) := by decide +kernel
theorem dX10_happens_69 : decode cX10_happens 69 = .ok (.iload_n 3, 1) := by decide +kernel
theorem dX10_happens_70 : decode cX10_happens 70 = .ok (.iaload, 1) := by decide +kernel
theorem dX10_happens_71 : decode cX10_happens 71 = .ok (.ineg, 1) := by decide +kernel
theorem dX10_happens_72 : decode cX10_happens 72 = .ok (.iastore, 1) := by decide +kernel
theorem dX10_happens_73 : decode cX10_happens 73 = .ok (.iinc 3 1, 3) := by decide +kernel
theorem dX10_happens_76 : decode cX10_happens 76 = .ok (.goto (-24), 3) := by decide +kernel
theorem dX10_happens_79 : decode cX10_happens 79 = .ok (.return_, 1) := by decide +kernel
theorem dX10_happens_80 : decode cX10_happens 80 = .ok (.aload_n 0, 1) := by decide +kernel
theorem dX10_happens_81 : decode cX10_happens 81 = .ok (.invokevirtual 182, 3) := by decide +kernel
theorem dX10_happens_84 : decode cX10_happens 84 = .ok (.ifCond .eq 7, 3) := by decide +kernel
theorem dX10_happens_87 : decode cX10_happens 87 = .ok (.aload_n 0, 1) := by decide +kernel
theorem dX10_happens_88 : decode cX10_happens 88 = .ok (.invokevirtual 185, 3) := by decide +kernel
theorem dX10_happens_91 : decode cX10_happens 91 = .ok (.return_, 1) := by decide +kernel
theorem dX10_happens_92 : decode cX10_happens 92 = .ok (.aload_n 0, 1) := by decide +kernel
theorem dX10_happens_93 : decode cX10_happens 93 = .ok (.iload_n 2, 1) := by decide +kernel
theorem dX10_happens_94 : decode cX10_happens 94 = .ok (.invokevirtual 140, 3) := by decide +kernel
theorem dX10_happens_97 : decode cX10_happens 97 = .ok (.ifCond .eq 17, 3) := by decide +kernel
theorem dX10_happens_100 : decode cX10_happens 100 = .ok (.aload_n 0, 1) := by decide +kernel
theorem dX10_happens_101 : decode cX10_happens 101 = .ok (.getfield 31, 3) := by decide +kernel
theorem dX10_happens_104 : decode cX10_happens 104 = .ok (.iload_n 2, 1) := by decide +kernel
theorem dX10_happens_105 : decode cX10_happens 105 = .ok (.iconst 1, 1) := by decide +kernel
theorem dX10_happens_106 : decode cX10_happens 106 = .ok (.aload_n 0, 1) := by decide +kernel
theorem dX10_happens_107 : decode cX10_happens 107 = .ok (.getfield 31, 3) := by decide +kernel
theorem dX10_happens_110 : decode cX10_happens 110 = .ok (.iload_n 2, 1) := by decide +kernel
theorem dX10_happens_111 : decode cX10_happens 111 = .ok (.iaload, 1) := by decide +kernel
theorem dX10_happens_112 : decode cX10_happens 112 = .ok (.isub, 1) := by decide +kernel
theorem dX10_happens_113 : decode cX10_happens 113 = .ok (.iastore, 1) := by decide +kernel
theorem dX10_happens_114 : decode cX10_happens 114 = .ok (.return_, 1) := by decide +kernel
theorem dX10_happens_115 : decode cX10_happens 115 = .ok (.aload_n 0, 1) := by decide +kernel
theorem dX10_happens_116 : decode cX10_happens 116 = .ok (.iload_n 2, 1) := by decide +kernel
theorem dX10_happens_117 : decode cX10_happens 117 = .ok (.invokevirtual 140, 3) := by decide +kernel
theorem dX10_happens_120 : decode cX10_happens 120 = .ok (.ifCond .eq 24, 3) := by decide +kernel
theorem dX10_happens_123 : decode cX10_happens 123 = .ok (.aload_n 0, 1) := by decide +kernel
theorem dX10_happens_124 : decode cX10_happens 124 = .ok (.getfield 28, 3) := by decide +kernel
theorem dX10_happens_127 : decode cX10_happens 127 = .ok (.iload_n 2, 1) := by decide +kernel
theorem dX10_happens_128 : decode cX10_happens 128 = .ok (.iaload, 1) := by decide +kernel
theorem dX10_happens_129 : decode cX10_happens 129 = .ok (.bipush 99, 2) := by decide +kernel
theorem dX10_happens_131 : decode cX10_happens 131 = .ok (.if_icmp .ge 13, 3) := by decide +kernel
theorem dX10_happens_134 : decode cX10_happens 134 = .ok (.aload_n 0, 1) := by decide +kernel
theorem dX10_happens_135 : decode cX10_happens 135 = .ok (.getfield 28, 3) := by decide +kernel
theorem dX10_happens_138 : decode cX10_happens 138 = .ok (.iload_n 2, 1) := by decide +kernel
theorem dX10_happens_139 : decode cX10_happens 139 = .ok (.dup2, 1) := by decide +kernel
theorem dX10_happens_140 : decode cX10_happens 140 = .ok (.iaload, 1) := by decide +kernel
theorem dX10_happens_141 : decode cX10_happens 141 = .ok (.iconst 1, 1) := by decide +kernel
theorem dX10_happens_142 : decode cX10_happens 142 = .ok (.iadd, 1) := by decide +kernel
theorem dX10_happens_143 : decode cX10_happens 143 = .ok (.iastore, 1) := by decide +kernel
theorem dX10_happens_144 : decode cX10_happens 144 = .ok (.return_, 1) := by decide +kernel
theorem dX10_after_0 : decode cX10_after 0 = .ok (.iload_n 1, 1) := by decide +kernel
theorem dX10_after_1 : decode cX10_after 1 = .ok (.i2l, 1) := by decide +kernel
theorem dX10_after_2 : decode cX10_after 2 = .ok (.lconst 0, 1) := by decide +kernel
theorem dX10_after_3 : decode cX10_after 3 = .ok (.ldc2_w 124, 3) := by decide +kernel
theorem dX10_after_6 : decode cX10_after 6 = .ok (.invokestatic 116, 3) := by decide +kernel
theorem dX10_after_9 : decode cX10_after 9 = .ok (.ifCond .ne 5, 3) := by decide +kernel
theorem dX10_after_12 : decode cX10_after 12 = .ok (.iconst (-1), 1) := by decide +kernel
theorem dX10_after_13 : decode cX10_after 13 = .ok (.ireturn, 1) := by decide +kernel
theorem dX10_after_14 : decode cX10_after 14 = .ok (.aload_n 0, 1) := by decide +kernel
theorem dX10_after_15 : decode cX10_after 15 = .ok (.aload_n 0, 1) := by decide +kernel
theorem dX10_after_16 : decode cX10_after 16 = .ok (.getfield 77, 3) := by decide +kernel
theorem dX10_after_19 : decode cX10_after 19 = .ok (.invokevirtual 352, 3) := by decide +kernel
theorem dX10_after_22 : decode cX10_after 22 = .ok (.iconst 0, 1) := by decide +kernel
theorem dX10_after_23 : decode cX10_after 23 = .ok (.istore_n 2, 1) := by decide +kernel
theorem dX10_after_24 : decode cX10_after 24 = .ok (.iload_n 2, 1) := by decide +kernel
theorem dX10_after_25 : decode cX10_after 25 = .ok (.aload_n 0, 1) := by decide +kernel
theorem dX10_after_26 : decode cX10_after 26 = .ok (.getfield 349, 3) := by decide +kernel
theorem dX10_after_29 : decode cX10_after 29 = .ok (.if_icmp .ge 25, 3) := by decide +kernel
theorem dX10_after_32 : decode cX10_after 32 = .ok (.aload_n 0, 1) := by decide +kernel
theorem dX10_after_33 : decode cX10_after 33 = .ok (.aload_n 0, 1) := by decide +kernel
theorem dX10_after_34 : decode cX10_after 34 = .ok (.getfield 43, 3) := by decide +kernel
theorem dX10_after_37 : decode cX10_after 37 = .ok (.iload_n 2, 1) := by decide +kernel
theorem dX10_after_38 : decode cX10_after 38 = .ok (.iaload, 1) := by decide +kernel
theorem dX10_after_39 : decode cX10_after 39 = .ok (.aload_n 0, 1) := by decide +kernel
theorem dX10_after_40 : decode cX10_after 40 = .ok (.getfield 46, 3) := by decide +kernel
theorem dX10_after_43 : decode cX10_after 43 = .ok (.iload_n 2, 1) := by decide +kernel
theorem dX10_after_44 : decode cX10_after 44 = .ok (.iaload, 1) := by decide +kernel
theorem dX10_after_45 : decode cX10_after 45 = .ok (.invokevirtual 356, 3) := by decide +kernel
theorem dX10_after_48 : decode cX10_after 48 = .ok (.iinc 2 1, 3) := by decide +kernel
theorem dX10_after_51 : decode cX10_after 51 = .ok (.goto (-27), 3) := by decide +kernel
theorem dX10_after_54 : decode cX10_after 54 = .ok (.iload_n 1, 1) := by decide +kernel
theorem dX10_after_55 : decode cX10_after 55 = .ok (.ifCond .ne 10, 3) := by decide +kernel
theorem dX10_after_58 : decode cX10_after 58 = .ok (.aload_n 0, 1) := by decide +kernel
theorem dX10_after_59 : decode cX10_after 59 = .ok (.invokevirtual 167, 3) := by decide +kernel
theorem dX10_after_62 : decode cX10_after 62 = .ok (.goto 19, 3) := by decide +kernel
theorem dX10_after_65 : decode cX10_after 65 = .ok (.iload_n 1, 1) := by decide +kernel
theorem dX10_after_66 : decode cX10_after 66 = .ok (.iconst 1, 1) := by decide +kernel
theorem dX10_after_67 : decode cX10_after 67 = .ok (.if_icmp .ne 10, 3) := by decide +kernel
theorem dX10_after_70 : decode cX10_after 70 = .ok (.aload_n 0, 1) := by decide +kernel
theorem dX10_after_71 : decode cX10_after 71 = .ok (.invokevirtual 188, 3) := by decide +kernel
theorem dX10_after_74 : decode cX10_after 74 = .ok (.goto 7, 3) := by decide +kernel
theorem dX10_after_77 : decode cX10_after 77 = .ok (.aload_n 0, 1) := by decide +kernel
theorem dX10_after_78 : decode cX10_after 78 = .ok (.invokevirtual 281, 3) := by decide +kernel
theorem dX10_after_81 : decode cX10_after 81 = .ok (.istore_n 2, 1) := by decide +kernel
theorem dX10_after_82 : decode cX10_after 82 = .ok (.aload_n 0, 1) := by decide +kernel
theorem dX10_after_83 : decode cX10_after 83 = .ok (.aload_n 0, 1) := by decide +kernel
theorem dX10_after_84 : decode cX10_after 84 = .ok (.getfield 77, 3) := by decide +kernel
theorem dX10_after_87 : decode cX10_after 87 = .ok (.invokevirtual 360, 3) := by decide +kernel
theorem dX10_after_90 : decode cX10_after 90 = .ok (.iload_n 2, 1) := by decide +kernel
theorem dX10_after_91 : decode cX10_after 91 = .ok (.ireturn, 1) := by decide +kernel
theorem dX10_book_0 : decode cX10_book 0 = .ok (.iload_n 1, 1) := by decide +kernel
theorem dX10_book_1 : decode cX10_book 1 = .ok (.iconst (-1), 1) := by decide +kernel
theorem dX10_book_2 : decode cX10_book 2 = .ok (.if_icmp .ne 10, 3) := by decide +kernel
theorem dX10_book_5 : decode cX10_book 5 = .ok (.aload_n 0, 1) := by decide +kernel
theorem dX10_book_6 : decode cX10_book 6 = .ok (.iconst 0, 1) := by decide +kernel
theorem dX10_book_7 : decode cX10_book 7 = .ok (.putfield 363, 3) := by decide +kernel
theorem dX10_book_10 : decode cX10_book 10 = .ok (.iconst 0, 1) := by decide +kernel
theorem dX10_book_11 : decode cX10_book 11 = .ok (.ireturn, 1) := by decide +kernel
theorem dX10_book_12 : decode cX10_book 12 = .ok (.aload_n 0, 1) := by decide +kernel
theorem dX10_book_13 : decode cX10_book 13 = .ok (.iload_n 1, 1) := by decide +kernel
theorem dX10_book_14 : decode cX10_book 14 = .ok (.invokevirtual 140, 3) := by decide +kernel
theorem dX10_book_17 : decode cX10_book 17 = .ok (.ifCond .ne 5, 3) := by decide +kernel
theorem dX10_book_20 : decode cX10_book 20 = .ok (.iconst (-1), 1) := by decide +kernel
theorem dX10_book_21 : decode cX10_book 21 = .ok (.ireturn, 1) := by decide +kernel
theorem dX10_book_22 : decode cX10_book 22 = .ok (.iload_n 2, 1) := by decide +kernel
theorem dX10_book_23 : decode cX10_book 23 = .ok (.i2l, 1) := by decide +kernel
theorem dX10_book_24 : decode cX10_book 24 = .ok (.ldc2_w 144, 3) := by decide +kernel
theorem dX10_book_27 : decode cX10_book 27 = .ok (.ldc2_w 146, 3) := by decide +kernel
theorem dX10_book_30 : decode cX10_book 30 = .ok (.invokestatic 116, 3) := by decide +kernel
theorem dX10_book_33 : decode cX10_book 33 = .ok (.ifCond .ne 6, 3) := by decide +kernel
theorem dX10_book_36 : decode cX10_book 36 = .ok (.bipush (-2), 2) := by decide +kernel
theorem dX10_book_38 : decode cX10_book 38 = .ok (.ireturn, 1) := by decide +kernel
theorem dX10_book_39 : decode cX10_book 39 = .ok (.aload_n 0, 1) := by decide +kernel
theorem dX10_book_40 : decode cX10_book 40 = .ok (.getfield 363, 3) := by decide +kernel
theorem dX10_book_43 : decode cX10_book 43 = .ok (.bipush 8, 2) := by decide +kernel
theorem dX10_book_45 : decode cX10_book 45 = .ok (.if_icmp .ne 6, 3) := by decide +kernel
theorem dX10_book_48 : decode cX10_book 48 = .ok (.bipush (-4), 2) := by decide +kernel
theorem dX10_book_50 : decode cX10_book 50 = .ok (.ireturn, 1) := by decide +kernel
theorem dX10_book_51 : decode cX10_book 51 = .ok (.aload_n 0, 1) := by decide +kernel
theorem dX10_book_52 : decode cX10_book 52 = .ok (.getfield 49, 3) := by decide +kernel
theorem dX10_book_55 : decode cX10_book 55 = .ok (.aload_n 0, 1) := by decide +kernel
theorem dX10_book_56 : decode cX10_book 56 = .ok (.getfield 363, 3) := by decide +kernel
theorem dX10_book_59 : decode cX10_book 59 = .ok (.iload_n 1, 1) := by decide +kernel
theorem dX10_book_60 : decode cX10_book 60 = .ok (.iastore, 1) := by decide +kernel
theorem dX10_book_61 : decode cX10_book 61 = .ok (.aload_n 0, 1) := by decide +kernel
theorem dX10_book_62 : decode cX10_book 62 = .ok (.getfield 52, 3) := by decide +kernel
theorem dX10_book_65 : decode cX10_book 65 = .ok (.aload_n 0, 1) := by decide +kernel
theorem dX10_book_66 : decode cX10_book 66 = .ok (.getfield 363, 3) := by decide +kernel
theorem dX10_book_69 : decode cX10_book 69 = .ok (.iload_n 2, 1) := by decide +kernel
theorem dX10_book_70 : decode cX10_book 70 = .ok (.iastore, 1) := by decide +kernel
theorem dX10_book_71 : decode cX10_book 71 = .ok (.aload_n 0, 1) := by decide +kernel
theorem dX10_book_72 : decode cX10_book 72 = .ok (.dup, 1) := by decide +kernel
theorem dX10_book_73 : decode cX10_book 73 = .ok (.getfield 363, 3) := by decide +kernel
theorem dX10_book_76 : decode cX10_book 76 = .ok (.iconst 1, 1) := by decide +kernel
theorem dX10_book_77 : decode cX10_book 77 = .ok (.iadd, 1) := by decide +kernel
theorem dX10_book_78 : decode cX10_book 78 = .ok (.putfield 363, 3) := by decide +kernel
theorem dX10_book_81 : decode cX10_book 81 = .ok (.aload_n 0, 1) := by decide +kernel
theorem dX10_book_82 : decode cX10_book 82 = .ok (.getfield 363, 3) := by decide +kernel
theorem dX10_book_85 : decode cX10_book 85 = .ok (.ireturn, 1) := by decide +kernel
theorem dX10_looked_0 : decode cX10_looked 0 = .ok (.iconst 0, 1) := by decide +kernel
theorem dX10_looked_1 : decode cX10_looked 1 = .ok (.istore_n 1, 1) := by decide +kernel
theorem dX10_looked_2 : decode cX10_looked 2 = .ok (.iload_n 1, 1) := by decide +kernel
theorem dX10_looked_3 : decode cX10_looked 3 = .ok (.aload_n 0, 1) := by decide +kernel
theorem dX10_looked_4 : decode cX10_looked 4 = .ok (.getfield 363, 3) := by decide +kernel
theorem dX10_looked_7 : decode cX10_looked 7 = .ok (.if_icmp .ge 44, 3) := by decide +kernel
theorem dX10_looked_10 : decode cX10_looked 10 = .ok (.aload_n 0, 1) := by decide +kernel
theorem dX10_looked_11 : decode cX10_looked 11 = .ok (.aload_n 0, 1) := by decide +kernel
theorem dX10_looked_12 : decode cX10_looked 12 = .ok (.getfield 49, 3) := by decide +kernel
theorem dX10_looked_15 : decode cX10_looked 15 = .ok (.iload_n 1, 1) := by decide +kernel
theorem dX10_looked_16 : decode cX10_looked 16 = .ok (.iaload, 1) := by decide +kernel
theorem dX10_looked_17 : decode cX10_looked 17 = .ok (.invokevirtual 140, 3) := by decide +kernel
theorem dX10_looked_20 : decode cX10_looked 20 = .ok (.ifCond .eq 23, 3) := by decide +kernel
theorem dX10_looked_23 : decode cX10_looked 23 = .ok (.aload_n 0, 1) := by decide +kernel
theorem dX10_looked_24 : decode cX10_looked 24 = .ok (.getfield 28, 3) := by decide +kernel
theorem dX10_looked_27 : decode cX10_looked 27 = .ok (.aload_n 0, 1) := by decide +kernel
theorem dX10_looked_28 : decode cX10_looked 28 = .ok (.getfield 49, 3) := by decide +kernel
theorem dX10_looked_31 : decode cX10_looked 31 = .ok (.iload_n 1, 1) := by decide +kernel
theorem dX10_looked_32 : decode cX10_looked 32 = .ok (.iaload, 1) := by decide +kernel
theorem dX10_looked_33 : decode cX10_looked 33 = .ok (.iaload, 1) := by decide +kernel
theorem dX10_looked_34 : decode cX10_looked 34 = .ok (.aload_n 0, 1) := by decide +kernel
theorem dX10_looked_35 : decode cX10_looked 35 = .ok (.getfield 52, 3) := by decide +kernel
theorem dX10_looked_38 : decode cX10_looked 38 = .ok (.iload_n 1, 1) := by decide +kernel
theorem dX10_looked_39 : decode cX10_looked 39 = .ok (.iaload, 1) := by decide +kernel
theorem dX10_looked_40 : decode cX10_looked 40 = .ok (.if_icmp .eq 5, 3) := by decide +kernel
theorem dX10_looked_43 : decode cX10_looked 43 = .ok (.iload_n 1, 1) := by decide +kernel
theorem dX10_looked_44 : decode cX10_looked 44 = .ok (.ireturn, 1) := by decide +kernel
theorem dX10_looked_45 : decode cX10_looked 45 = .ok (.iinc 1 1, 3) := by decide +kernel
theorem dX10_looked_48 : decode cX10_looked 48 = .ok (.goto (-46), 3) := by decide +kernel
theorem dX10_looked_51 : decode cX10_looked 51 = .ok (.bipush (-5), 2) := by decide +kernel
theorem dX10_looked_53 : decode cX10_looked 53 = .ok (.ireturn, 1) := by decide +kernel
theorem dX10_judge_0 : decode cX10_judge 0 = .ok (.iload_n 1, 1) := by decide +kernel
theorem dX10_judge_1 : decode cX10_judge 1 = .ok (.i2l, 1) := by decide +kernel
theorem dX10_judge_2 : decode cX10_judge 2 = .ok (.lconst 0, 1) := by decide +kernel
theorem dX10_judge_3 : decode cX10_judge 3 = .ok (.ldc2_w 366, 3) := by decide +kernel
theorem dX10_judge_6 : decode cX10_judge 6 = .ok (.invokestatic 116, 3) := by decide +kernel
theorem dX10_judge_9 : decode cX10_judge 9 = .ok (.ifCond .ne 5, 3) := by decide +kernel
theorem dX10_judge_12 : decode cX10_judge 12 = .ok (.iconst (-1), 1) := by decide +kernel
theorem dX10_judge_13 : decode cX10_judge 13 = .ok (.ireturn, 1) := by decide +kernel
theorem dX10_judge_14 : decode cX10_judge 14 = .ok (.aload_n 0, 1) := by decide +kernel
theorem dX10_judge_15 : decode cX10_judge 15 = .ok (.getfield 68, 3) := by decide +kernel
theorem dX10_judge_18 : decode cX10_judge 18 = .ok (.iload_n 1, 1) := by decide +kernel
theorem dX10_judge_19 : decode cX10_judge 19 = .ok (.iaload, 1) := by decide +kernel
theorem dX10_judge_20 : decode cX10_judge 20 = .ok (.ifCond .le 6, 3) := by decide +kernel
theorem dX10_judge_23 : decode cX10_judge 23 = .ok (.bipush (-12), 2) := by decide +kernel
theorem dX10_judge_25 : decode cX10_judge 25 = .ok (.ireturn, 1) := by decide +kernel
theorem dX10_judge_26 : decode cX10_judge 26 = .ok (.iconst 0, 1) := by decide +kernel
theorem dX10_judge_27 : decode cX10_judge 27 = .ok (.istore_n 3, 1) := by decide +kernel
theorem dX10_judge_28 : decode cX10_judge 28 = .ok (.iload_n 3, 1) := by decide +kernel
theorem dX10_judge_29 : decode cX10_judge 29 = .ok (.aload_n 0, 1) := by decide +kernel
theorem dX10_judge_30 : decode cX10_judge 30 = .ok (.getfield 110, 3) := by decide +kernel
theorem dX10_judge_33 : decode cX10_judge 33 = .ok (.if_icmp .ge 69, 3) := by decide +kernel
theorem dX10_judge_36 : decode cX10_judge 36 = .ok (.aload_n 0, 1) := by decide +kernel
theorem dX10_judge_37 : decode cX10_judge 37 = .ok (.getfield 68, 3) := by decide +kernel
theorem dX10_judge_40 : decode cX10_judge 40 = .ok (.iload_n 1, 1) := by decide +kernel
theorem dX10_judge_41 : decode cX10_judge 41 = .ok (.iaload, 1) := by decide +kernel
theorem dX10_judge_42 : decode cX10_judge 42 = .ok (.ifCond .lt 23, 3) := by decide +kernel
theorem dX10_judge_45 : decode cX10_judge 45 = .ok (.iload_n 2, 1) := by decide +kernel
theorem dX10_judge_46 : decode cX10_judge 46 = .ok (.ifCond .lt 19, 3) := by decide +kernel
theorem dX10_judge_49 : decode cX10_judge 49 = .ok (.iload_n 2, 1) := by decide +kernel
theorem dX10_judge_50 : decode cX10_judge 50 = .ok (.i2l, 1) := by decide +kernel
theorem dX10_judge_51 : decode cX10_judge 51 = .ok (.iload_n 3, 1) := by decide +kernel
theorem dX10_judge_52 : decode cX10_judge 52 = .ok (.i2l, 1) := by decide +kernel
theorem dX10_judge_53 : decode cX10_judge 53 = .ok (.ladd, 1) := by decide +kernel
theorem dX10_judge_54 : decode cX10_judge 54 = .ok (.aload_n 0, 1) := by decide +kernel
theorem dX10_judge_55 : decode cX10_judge 55 = .ok (.getfield 71, 3) := by decide +kernel
theorem dX10_judge_58 : decode cX10_judge 58 = .ok (.iload_n 1, 1) := by decide +kernel
theorem dX10_judge_59 : decode cX10_judge 59 = .ok (.iaload, 1) := by decide +kernel
theorem dX10_judge_60 : decode cX10_judge 60 = .ok (.i2l, 1) := by decide +kernel
theorem dX10_judge_61 : decode cX10_judge 61 = .ok (.lcmp, 1) := by decide +kernel
theorem dX10_judge_62 : decode cX10_judge 62 = .ok (.ifCond .lt 8, 3) := by decide +kernel
theorem dX10_judge_65 : decode cX10_judge 65 = .ok (.bipush 100, 2) := by decide +kernel
theorem dX10_judge_67 : decode cX10_judge 67 = .ok (.iload_n 3, 1) := by decide +kernel
theorem dX10_judge_68 : decode cX10_judge 68 = .ok (.iadd, 1) := by decide +kernel
theorem dX10_judge_69 : decode cX10_judge 69 = .ok (.ireturn, 1) := by decide +kernel
theorem dX10_judge_70 : decode cX10_judge 70 = .ok (.aload_n 0, 1) := by decide +kernel
theorem dX10_judge_71 : decode cX10_judge 71 = .ok (.getfield 64, 3) := by decide +kernel
theorem dX10_judge_74 : decode cX10_judge 74 = .ok (.bipush 60, 2) := by decide +kernel
theorem dX10_judge_76 : decode cX10_judge 76 = .ok (.iload_n 1, 1) := by decide +kernel
theorem dX10_judge_77 : decode cX10_judge 77 = .ok (.imul, 1) := by decide +kernel
theorem dX10_judge_78 : decode cX10_judge 78 = .ok (.iload_n 2, 1) := by decide +kernel
theorem dX10_judge_79 : decode cX10_judge 79 = .ok (.iadd, 1) := by decide +kernel
theorem dX10_judge_80 : decode cX10_judge 80 = .ok (.iload_n 3, 1) := by decide +kernel
theorem dX10_judge_81 : decode cX10_judge 81 = .ok (.iadd, 1) := by decide +kernel
theorem dX10_judge_82 : decode cX10_judge 82 = .ok (.laload, 1) := by decide +kernel
theorem dX10_judge_83 : decode cX10_judge 83 = .ok (.aload_n 0, 1) := by decide +kernel
theorem dX10_judge_84 : decode cX10_judge 84 = .ok (.getfield 28, 3) := by decide +kernel
theorem dX10_judge_87 : decode cX10_judge 87 = .ok (.iload_n 3, 1) := by decide +kernel
theorem dX10_judge_88 : decode cX10_judge 88 = .ok (.iaload, 1) := by decide +kernel
theorem dX10_judge_89 : decode cX10_judge 89 = .ok (.i2l, 1) := by decide +kernel
theorem dX10_judge_90 : decode cX10_judge 90 = .ok (.lcmp, 1) := by decide +kernel
theorem dX10_judge_91 : decode cX10_judge 91 = .ok (.ifCond .eq 5, 3) := by decide +kernel
theorem dX10_judge_94 : decode cX10_judge 94 = .ok (.iload_n 3, 1) := by decide +kernel
theorem dX10_judge_95 : decode cX10_judge 95 = .ok (.ireturn, 1) := by decide +kernel
theorem dX10_judge_96 : decode cX10_judge 96 = .ok (.iinc 3 1, 3) := by decide +kernel
theorem dX10_judge_99 : decode cX10_judge 99 = .ok (.goto (-71), 3) := by decide +kernel
theorem dX10_judge_102 : decode cX10_judge 102 = .ok (.bipush (-5), 2) := by decide +kernel
theorem dX10_judge_104 : decode cX10_judge 104 = .ok (.ireturn, 1) := by decide +kernel
theorem dX10_keepTo_0 : decode cX10_keepTo 0 = .ok (.aload_n 1, 1) := by decide +kernel
theorem dX10_keepTo_1 : decode cX10_keepTo 1 = .ok (.iconst 0, 1) := by decide +kernel
theorem dX10_keepTo_2 : decode cX10_keepTo 2 = .ok (.aload_n 0, 1) := by decide +kernel
theorem dX10_keepTo_3 : decode cX10_keepTo 3 = .ok (.getfield 9, 3) := by decide +kernel
theorem dX10_keepTo_6 : decode cX10_keepTo 6 = .ok (.iastore, 1) := by decide +kernel
theorem dX10_keepTo_7 : decode cX10_keepTo 7 = .ok (.aload_n 1, 1) := by decide +kernel
theorem dX10_keepTo_8 : decode cX10_keepTo 8 = .ok (.iconst 1, 1) := by decide +kernel
theorem dX10_keepTo_9 : decode cX10_keepTo 9 = .ok (.aload_n 0, 1) := by decide +kernel
theorem dX10_keepTo_10 : decode cX10_keepTo 10 = .ok (.getfield 15, 3) := by decide +kernel
theorem dX10_keepTo_13 : decode cX10_keepTo 13 = .ok (.iastore, 1) := by decide +kernel
theorem dX10_keepTo_14 : decode cX10_keepTo 14 = .ok (.aload_n 1, 1) := by decide +kernel
theorem dX10_keepTo_15 : decode cX10_keepTo 15 = .ok (.iconst 2, 1) := by decide +kernel
theorem dX10_keepTo_16 : decode cX10_keepTo 16 = .ok (.aload_n 0, 1) := by decide +kernel
theorem dX10_keepTo_17 : decode cX10_keepTo 17 = .ok (.getfield 18, 3) := by decide +kernel
theorem dX10_keepTo_20 : decode cX10_keepTo 20 = .ok (.iastore, 1) := by decide +kernel
theorem dX10_keepTo_21 : decode cX10_keepTo 21 = .ok (.aload_n 1, 1) := by decide +kernel
theorem dX10_keepTo_22 : decode cX10_keepTo 22 = .ok (.iconst 3, 1) := by decide +kernel
theorem dX10_keepTo_23 : decode cX10_keepTo 23 = .ok (.aload_n 0, 1) := by decide +kernel
theorem dX10_keepTo_24 : decode cX10_keepTo 24 = .ok (.getfield 333, 3) := by decide +kernel
theorem dX10_keepTo_27 : decode cX10_keepTo 27 = .ok (.iastore, 1) := by decide +kernel
theorem dX10_keepTo_28 : decode cX10_keepTo 28 = .ok (.aload_n 1, 1) := by decide +kernel
theorem dX10_keepTo_29 : decode cX10_keepTo 29 = .ok (.iconst 4, 1) := by decide +kernel
theorem dX10_keepTo_30 : decode cX10_keepTo 30 = .ok (.aload_n 0, 1) := by decide +kernel
theorem dX10_keepTo_31 : decode cX10_keepTo 31 = .ok (.getfield 349, 3) := by decide +kernel
theorem dX10_keepTo_34 : decode cX10_keepTo 34 = .ok (.iastore, 1) := by decide +kernel
theorem dX10_keepTo_35 : decode cX10_keepTo 35 = .ok (.aload_n 1, 1) := by decide +kernel
theorem dX10_keepTo_36 : decode cX10_keepTo 36 = .ok (.iconst 5, 1) := by decide +kernel
theorem dX10_keepTo_37 : decode cX10_keepTo 37 = .ok (.aload_n 0, 1) := by decide +kernel
theorem dX10_keepTo_38 : decode cX10_keepTo 38 = .ok (.getfield 363, 3) := by decide +kernel
theorem dX10_keepTo_41 : decode cX10_keepTo 41 = .ok (.iastore, 1) := by decide +kernel
theorem dX10_keepTo_42 : decode cX10_keepTo 42 = .ok (.iconst 0, 1) := by decide +kernel
theorem dX10_keepTo_43 : decode cX10_keepTo 43 = .ok (.istore_n 2, 1) := by decide +kernel
theorem dX10_keepTo_44 : decode cX10_keepTo 44 = .ok (.iload_n 2, 1) := by decide +kernel
theorem dX10_keepTo_45 : decode cX10_keepTo 45 = .ok (.iconst 4, 1) := by decide +kernel
theorem dX10_keepTo_46 : decode cX10_keepTo 46 = .ok (.if_icmp .ge 33, 3) := by decide +kernel
theorem dX10_keepTo_49 : decode cX10_keepTo 49 = .ok (.aload_n 1, 1) := by decide +kernel
theorem dX10_keepTo_50 : decode cX10_keepTo 50 = .ok (.bipush 6, 2) := by decide +kernel
theorem dX10_keepTo_52 : decode cX10_keepTo 52 = .ok (.iload_n 2, 1) := by decide +kernel
theorem dX10_keepTo_53 : decode cX10_keepTo 53 = .ok (.iadd, 1) := by decide +kernel
theorem dX10_keepTo_54 : decode cX10_keepTo 54 = .ok (.aload_n 0, 1) := by decide +kernel
theorem dX10_keepTo_55 : decode cX10_keepTo 55 = .ok (.getfield 37, 3) := by decide +kernel
theorem dX10_keepTo_58 : decode cX10_keepTo 58 = .ok (.iload_n 2, 1) := by decide +kernel
theorem dX10_keepTo_59 : decode cX10_keepTo 59 = .ok (.iaload, 1) := by decide +kernel
theorem dX10_keepTo_60 : decode cX10_keepTo 60 = .ok (.iastore, 1) := by decide +kernel
theorem dX10_keepTo_61 : decode cX10_keepTo 61 = .ok (.aload_n 1, 1) := by decide +kernel
theorem dX10_keepTo_62 : decode cX10_keepTo 62 = .ok (.bipush 10, 2) := by decide +kernel
theorem dX10_keepTo_64 : decode cX10_keepTo 64 = .ok (.iload_n 2, 1) := by decide +kernel
theorem dX10_keepTo_65 : decode cX10_keepTo 65 = .ok (.iadd, 1) := by decide +kernel
theorem dX10_keepTo_66 : decode cX10_keepTo 66 = .ok (.aload_n 0, 1) := by decide +kernel
theorem dX10_keepTo_67 : decode cX10_keepTo 67 = .ok (.getfield 40, 3) := by decide +kernel
theorem dX10_keepTo_70 : decode cX10_keepTo 70 = .ok (.iload_n 2, 1) := by decide +kernel
theorem dX10_keepTo_71 : decode cX10_keepTo 71 = .ok (.iaload, 1) := by decide +kernel
theorem dX10_keepTo_72 : decode cX10_keepTo 72 = .ok (.iastore, 1) := by decide +kernel
theorem dX10_keepTo_73 : decode cX10_keepTo 73 = .ok (.iinc 2 1, 3) := by decide +kernel
theorem dX10_keepTo_76 : decode cX10_keepTo 76 = .ok (.goto (-32), 3) := by decide +kernel
theorem dX10_keepTo_79 : decode cX10_keepTo 79 = .ok (.iconst 0, 1) := by decide +kernel
theorem dX10_keepTo_80 : decode cX10_keepTo 80 = .ok (.istore_n 2, 1) := by decide +kernel
theorem dX10_keepTo_81 : decode cX10_keepTo 81 = .ok (.iload_n 2, 1) := by decide +kernel
theorem dX10_keepTo_82 : decode cX10_keepTo 82 = .ok (.bipush 8, 2) := by decide +kernel
theorem dX10_keepTo_84 : decode cX10_keepTo 84 = .ok (.if_icmp .ge 57, 3) := by decide +kernel
theorem dX10_keepTo_87 : decode cX10_keepTo 87 = .ok (.aload_n 1, 1) := by decide +kernel
theorem dX10_keepTo_88 : decode cX10_keepTo 88 = .ok (.bipush 14, 2) := by decide +kernel
theorem dX10_keepTo_90 : decode cX10_keepTo 90 = .ok (.iload_n 2, 1) := by decide +kernel
theorem dX10_keepTo_91 : decode cX10_keepTo 91 = .ok (.iadd, 1) := by decide +kernel
theorem dX10_keepTo_92 : decode cX10_keepTo 92 = .ok (.aload_n 0, 1) := by decide +kernel
theorem dX10_keepTo_93 : decode cX10_keepTo 93 = .ok (.getfield 43, 3) := by decide +kernel
theorem dX10_keepTo_96 : decode cX10_keepTo 96 = .ok (.iload_n 2, 1) := by decide +kernel
theorem dX10_keepTo_97 : decode cX10_keepTo 97 = .ok (.iaload, 1) := by decide +kernel
theorem dX10_keepTo_98 : decode cX10_keepTo 98 = .ok (.iastore, 1) := by decide +kernel
theorem dX10_keepTo_99 : decode cX10_keepTo 99 = .ok (.aload_n 1, 1) := by decide +kernel
theorem dX10_keepTo_100 : decode cX10_keepTo 100 = .ok (.bipush 22, 2) := by decide +kernel
theorem dX10_keepTo_102 : decode cX10_keepTo 102 = .ok (.iload_n 2, 1) := by decide +kernel
theorem dX10_keepTo_103 : decode cX10_keepTo 103 = .ok (.iadd, 1) := by decide +kernel
theorem dX10_keepTo_104 : decode cX10_keepTo 104 = .ok (.aload_n 0, 1) := by decide +kernel
theorem dX10_keepTo_105 : decode cX10_keepTo 105 = .ok (.getfield 46, 3) := by decide +kernel
theorem dX10_keepTo_108 : decode cX10_keepTo 108 = .ok (.iload_n 2, 1) := by decide +kernel
theorem dX10_keepTo_109 : decode cX10_keepTo 109 = .ok (.iaload, 1) := by decide +kernel
theorem dX10_keepTo_110 : decode cX10_keepTo 110 = .ok (.iastore, 1) := by decide +kernel
theorem dX10_keepTo_111 : decode cX10_keepTo 111 = .ok (.aload_n 1, 1) := by decide +kernel
theorem dX10_keepTo_112 : decode cX10_keepTo 112 = .ok (.bipush 30, 2) := by decide +kernel
theorem dX10_keepTo_114 : decode cX10_keepTo 114 = .ok (.iload_n 2, 1) := by decide +kernel
theorem dX10_keepTo_115 : decode cX10_keepTo 115 = .ok (.iadd, 1) := by decide +kernel
theorem dX10_keepTo_116 : decode cX10_keepTo 116 = .ok (.aload_n 0, 1) := by decide +kernel
theorem dX10_keepTo_117 : decode cX10_keepTo 117 = .ok (.getfield 49, 3) := by decide +kernel
theorem dX10_keepTo_120 : decode cX10_keepTo 120 = .ok (.iload_n 2, 1) := by decide +kernel
theorem dX10_keepTo_121 : decode cX10_keepTo 121 = .ok (.iaload, 1) := by decide +kernel
theorem dX10_keepTo_122 : decode cX10_keepTo 122 = .ok (.iastore, 1) := by decide +kernel
theorem dX10_keepTo_123 : decode cX10_keepTo 123 = .ok (.aload_n 1, 1) := by decide +kernel
theorem dX10_keepTo_124 : decode cX10_keepTo 124 = .ok (.bipush 38, 2) := by decide +kernel
theorem dX10_keepTo_126 : decode cX10_keepTo 126 = .ok (.iload_n 2, 1) := by decide +kernel
theorem dX10_keepTo_127 : decode cX10_keepTo 127 = .ok (.iadd, 1) := by decide +kernel
theorem dX10_keepTo_128 : decode cX10_keepTo 128 = .ok (.aload_n 0, 1) := by decide +kernel
theorem dX10_keepTo_129 : decode cX10_keepTo 129 = .ok (.getfield 52, 3) := by decide +kernel
theorem dX10_keepTo_132 : decode cX10_keepTo 132 = .ok (.iload_n 2, 1) := by decide +kernel
theorem dX10_keepTo_133 : decode cX10_keepTo 133 = .ok (.iaload, 1) := by decide +kernel
theorem dX10_keepTo_134 : decode cX10_keepTo 134 = .ok (.iastore, 1) := by decide +kernel
theorem dX10_keepTo_135 : decode cX10_keepTo 135 = .ok (.iinc 2 1, 3) := by decide +kernel
theorem dX10_keepTo_138 : decode cX10_keepTo 138 = .ok (.goto (-57), 3) := by decide +kernel
theorem dX10_keepTo_141 : decode cX10_keepTo 141 = .ok (.iconst 0, 1) := by decide +kernel
theorem dX10_keepTo_142 : decode cX10_keepTo 142 = .ok (.istore_n 2, 1) := by decide +kernel
theorem dX10_keepTo_143 : decode cX10_keepTo 143 = .ok (.iload_n 2, 1) := by decide +kernel
theorem dX10_keepTo_144 : decode cX10_keepTo 144 = .ok (.bipush 56, 2) := by decide +kernel
theorem dX10_keepTo_146 : decode cX10_keepTo 146 = .ok (.if_icmp .ge 46, 3) := by decide +kernel
theorem dX10_keepTo_149 : decode cX10_keepTo 149 = .ok (.aload_n 1, 1) := by decide +kernel
theorem dX10_keepTo_150 : decode cX10_keepTo 150 = .ok (.bipush 46, 2) := by decide +kernel
theorem dX10_keepTo_152 : decode cX10_keepTo 152 = .ok (.iload_n 2, 1) := by decide +kernel
theorem dX10_keepTo_153 : decode cX10_keepTo 153 = .ok (.iadd, 1) := by decide +kernel
theorem dX10_keepTo_154 : decode cX10_keepTo 154 = .ok (.aload_n 0, 1) := by decide +kernel
theorem dX10_keepTo_155 : decode cX10_keepTo 155 = .ok (.getfield 28, 3) := by decide +kernel
theorem dX10_keepTo_158 : decode cX10_keepTo 158 = .ok (.iload_n 2, 1) := by decide +kernel
theorem dX10_keepTo_159 : decode cX10_keepTo 159 = .ok (.iaload, 1) := by decide +kernel
theorem dX10_keepTo_160 : decode cX10_keepTo 160 = .ok (.iastore, 1) := by decide +kernel
theorem dX10_keepTo_161 : decode cX10_keepTo 161 = .ok (.aload_n 1, 1) := by decide +kernel
theorem dX10_keepTo_162 : decode cX10_keepTo 162 = .ok (.bipush 102, 2) := by decide +kernel
theorem dX10_keepTo_164 : decode cX10_keepTo 164 = .ok (.iload_n 2, 1) := by decide +kernel
theorem dX10_keepTo_165 : decode cX10_keepTo 165 = .ok (.iadd, 1) := by decide +kernel
theorem dX10_keepTo_166 : decode cX10_keepTo 166 = .ok (.aload_n 0, 1) := by decide +kernel
theorem dX10_keepTo_167 : decode cX10_keepTo 167 = .ok (.getfield 31, 3) := by decide +kernel
theorem dX10_keepTo_170 : decode cX10_keepTo 170 = .ok (.iload_n 2, 1) := by decide +kernel
theorem dX10_keepTo_171 : decode cX10_keepTo 171 = .ok (.iaload, 1) := by decide +kernel
theorem dX10_keepTo_172 : decode cX10_keepTo 172 = .ok (.iastore, 1) := by decide +kernel
theorem dX10_keepTo_173 : decode cX10_keepTo 173 = .ok (.aload_n 1, 1) := by decide +kernel
theorem dX10_keepTo_174 : decode cX10_keepTo 174 = .ok (.sipush 158, 3) := by decide +kernel
theorem dX10_keepTo_177 : decode cX10_keepTo 177 = .ok (.iload_n 2, 1) := by decide +kernel
theorem dX10_keepTo_178 : decode cX10_keepTo 178 = .ok (.iadd, 1) := by decide +kernel
theorem dX10_keepTo_179 : decode cX10_keepTo 179 = .ok (.aload_n 0, 1) := by decide +kernel
theorem dX10_keepTo_180 : decode cX10_keepTo 180 = .ok (.getfield 34, 3) := by decide +kernel
theorem dX10_keepTo_183 : decode cX10_keepTo 183 = .ok (.iload_n 2, 1) := by decide +kernel
theorem dX10_keepTo_184 : decode cX10_keepTo 184 = .ok (.iaload, 1) := by decide +kernel
theorem dX10_keepTo_185 : decode cX10_keepTo 185 = .ok (.iastore, 1) := by decide +kernel
theorem dX10_keepTo_186 : decode cX10_keepTo 186 = .ok (.iinc 2 1, 3) := by decide +kernel
theorem dX10_keepTo_189 : decode cX10_keepTo 189 = .ok (.goto (-46), 3) := by decide +kernel
theorem dX10_keepTo_192 : decode cX10_keepTo 192 = .ok (.return_, 1) := by decide +kernel
theorem dX10_again_0 : decode cX10_again 0 = .ok (.aload_n 0, 1) := by decide +kernel
theorem dX10_again_1 : decode cX10_again 1 = .ok (.aload_n 1, 1) := by decide +kernel
theorem dX10_again_2 : decode cX10_again 2 = .ok (.iconst 0, 1) := by decide +kernel
theorem dX10_again_3 : decode cX10_again 3 = .ok (.iaload, 1) := by decide +kernel
theorem dX10_again_4 : decode cX10_again 4 = .ok (.putfield 9, 3) := by decide +kernel
theorem dX10_again_7 : decode cX10_again 7 = .ok (.aload_n 0, 1) := by decide +kernel
theorem dX10_again_8 : decode cX10_again 8 = .ok (.aload_n 1, 1) := by decide +kernel
theorem dX10_again_9 : decode cX10_again 9 = .ok (.iconst 1, 1) := by decide +kernel
theorem dX10_again_10 : decode cX10_again 10 = .ok (.iaload, 1) := by decide +kernel
theorem dX10_again_11 : decode cX10_again 11 = .ok (.putfield 15, 3) := by decide +kernel
theorem dX10_again_14 : decode cX10_again 14 = .ok (.aload_n 0, 1) := by decide +kernel
theorem dX10_again_15 : decode cX10_again 15 = .ok (.aload_n 1, 1) := by decide +kernel
theorem dX10_again_16 : decode cX10_again 16 = .ok (.iconst 2, 1) := by decide +kernel
theorem dX10_again_17 : decode cX10_again 17 = .ok (.iaload, 1) := by decide +kernel
theorem dX10_again_18 : decode cX10_again 18 = .ok (.putfield 18, 3) := by decide +kernel
theorem dX10_again_21 : decode cX10_again 21 = .ok (.aload_n 0, 1) := by decide +kernel
theorem dX10_again_22 : decode cX10_again 22 = .ok (.invokevirtual 101, 3) := by decide +kernel
theorem dX10_again_25 : decode cX10_again 25 = .ok (.aload_n 0, 1) := by decide +kernel
theorem dX10_again_26 : decode cX10_again 26 = .ok (.aload_n 1, 1) := by decide +kernel
theorem dX10_again_27 : decode cX10_again 27 = .ok (.iconst 3, 1) := by decide +kernel
theorem dX10_again_28 : decode cX10_again 28 = .ok (.iaload, 1) := by decide +kernel
theorem dX10_again_29 : decode cX10_again 29 = .ok (.putfield 333, 3) := by decide +kernel
theorem dX10_again_32 : decode cX10_again 32 = .ok (.aload_n 0, 1) := by decide +kernel
theorem dX10_again_33 : decode cX10_again 33 = .ok (.aload_n 1, 1) := by decide +kernel
theorem dX10_again_34 : decode cX10_again 34 = .ok (.iconst 4, 1) := by decide +kernel
theorem dX10_again_35 : decode cX10_again 35 = .ok (.iaload, 1) := by decide +kernel
theorem dX10_again_36 : decode cX10_again 36 = .ok (.putfield 349, 3) := by decide +kernel
theorem dX10_again_39 : decode cX10_again 39 = .ok (.aload_n 0, 1) := by decide +kernel
theorem dX10_again_40 : decode cX10_again 40 = .ok (.aload_n 1, 1) := by decide +kernel
theorem dX10_again_41 : decode cX10_again 41 = .ok (.iconst 5, 1) := by decide +kernel
theorem dX10_again_42 : decode cX10_again 42 = .ok (.iaload, 1) := by decide +kernel
theorem dX10_again_43 : decode cX10_again 43 = .ok (.putfield 363, 3) := by decide +kernel
theorem dX10_again_46 : decode cX10_again 46 = .ok (.iconst 0, 1) := by decide +kernel
theorem dX10_again_47 : decode cX10_again 47 = .ok (.istore_n 2, 1) := by decide +kernel
theorem dX10_again_48 : decode cX10_again 48 = .ok (.iload_n 2, 1) := by decide +kernel
theorem dX10_again_49 : decode cX10_again 49 = .ok (.iconst 4, 1) := by decide +kernel
theorem dX10_again_50 : decode cX10_again 50 = .ok (.if_icmp .ge 33, 3) := by decide +kernel
theorem dX10_again_53 : decode cX10_again 53 = .ok (.aload_n 0, 1) := by decide +kernel
theorem dX10_again_54 : decode cX10_again 54 = .ok (.getfield 37, 3) := by decide +kernel
theorem dX10_again_57 : decode cX10_again 57 = .ok (.iload_n 2, 1) := by decide +kernel
theorem dX10_again_58 : decode cX10_again 58 = .ok (.aload_n 1, 1) := by decide +kernel
theorem dX10_again_59 : decode cX10_again 59 = .ok (.bipush 6, 2) := by decide +kernel
theorem dX10_again_61 : decode cX10_again 61 = .ok (.iload_n 2, 1) := by decide +kernel
theorem dX10_again_62 : decode cX10_again 62 = .ok (.iadd, 1) := by decide +kernel
theorem dX10_again_63 : decode cX10_again 63 = .ok (.iaload, 1) := by decide +kernel
theorem dX10_again_64 : decode cX10_again 64 = .ok (.iastore, 1) := by decide +kernel
theorem dX10_again_65 : decode cX10_again 65 = .ok (.aload_n 0, 1) := by decide +kernel
theorem dX10_again_66 : decode cX10_again 66 = .ok (.getfield 40, 3) := by decide +kernel
theorem dX10_again_69 : decode cX10_again 69 = .ok (.iload_n 2, 1) := by decide +kernel
theorem dX10_again_70 : decode cX10_again 70 = .ok (.aload_n 1, 1) := by decide +kernel
theorem dX10_again_71 : decode cX10_again 71 = .ok (.bipush 10, 2) := by decide +kernel
theorem dX10_again_73 : decode cX10_again 73 = .ok (.iload_n 2, 1) := by decide +kernel
theorem dX10_again_74 : decode cX10_again 74 = .ok (.iadd, 1) := by decide +kernel
theorem dX10_again_75 : decode cX10_again 75 = .ok (.iaload, 1) := by decide +kernel
theorem dX10_again_76 : decode cX10_again 76 = .ok (.iastore, 1) := by decide +kernel
theorem dX10_again_77 : decode cX10_again 77 = .ok (.iinc 2 1, 3) := by decide +kernel
theorem dX10_again_80 : decode cX10_again 80 = .ok (.goto (-32), 3) := by decide +kernel
theorem dX10_again_83 : decode cX10_again 83 = .ok (.iconst 0, 1) := by decide +kernel
theorem dX10_again_84 : decode cX10_again 84 = .ok (.istore_n 2, 1) := by decide +kernel
theorem dX10_again_85 : decode cX10_again 85 = .ok (.iload_n 2, 1) := by decide +kernel
theorem dX10_again_86 : decode cX10_again 86 = .ok (.bipush 8, 2) := by decide +kernel
theorem dX10_again_88 : decode cX10_again 88 = .ok (.if_icmp .ge 57, 3) := by decide +kernel
theorem dX10_again_91 : decode cX10_again 91 = .ok (.aload_n 0, 1) := by decide +kernel
theorem dX10_again_92 : decode cX10_again 92 = .ok (.getfield 43, 3) := by decide +kernel
theorem dX10_again_95 : decode cX10_again 95 = .ok (.iload_n 2, 1) := by decide +kernel
theorem dX10_again_96 : decode cX10_again 96 = .ok (.aload_n 1, 1) := by decide +kernel
theorem dX10_again_97 : decode cX10_again 97 = .ok (.bipush 14, 2) := by decide +kernel
theorem dX10_again_99 : decode cX10_again 99 = .ok (.iload_n 2, 1) := by decide +kernel
theorem dX10_again_100 : decode cX10_again 100 = .ok (.iadd, 1) := by decide +kernel
theorem dX10_again_101 : decode cX10_again 101 = .ok (.iaload, 1) := by decide +kernel
theorem dX10_again_102 : decode cX10_again 102 = .ok (.iastore, 1) := by decide +kernel
theorem dX10_again_103 : decode cX10_again 103 = .ok (.aload_n 0, 1) := by decide +kernel
theorem dX10_again_104 : decode cX10_again 104 = .ok (.getfield 46, 3) := by decide +kernel
theorem dX10_again_107 : decode cX10_again 107 = .ok (.iload_n 2, 1) := by decide +kernel
theorem dX10_again_108 : decode cX10_again 108 = .ok (.aload_n 1, 1) := by decide +kernel
theorem dX10_again_109 : decode cX10_again 109 = .ok (.bipush 22, 2) := by decide +kernel
theorem dX10_again_111 : decode cX10_again 111 = .ok (.iload_n 2, 1) := by decide +kernel
theorem dX10_again_112 : decode cX10_again 112 = .ok (.iadd, 1) := by decide +kernel
theorem dX10_again_113 : decode cX10_again 113 = .ok (.iaload, 1) := by decide +kernel
theorem dX10_again_114 : decode cX10_again 114 = .ok (.iastore, 1) := by decide +kernel
theorem dX10_again_115 : decode cX10_again 115 = .ok (.aload_n 0, 1) := by decide +kernel
theorem dX10_again_116 : decode cX10_again 116 = .ok (.getfield 49, 3) := by decide +kernel
theorem dX10_again_119 : decode cX10_again 119 = .ok (.iload_n 2, 1) := by decide +kernel
theorem dX10_again_120 : decode cX10_again 120 = .ok (.aload_n 1, 1) := by decide +kernel
theorem dX10_again_121 : decode cX10_again 121 = .ok (.bipush 30, 2) := by decide +kernel
theorem dX10_again_123 : decode cX10_again 123 = .ok (.iload_n 2, 1) := by decide +kernel
theorem dX10_again_124 : decode cX10_again 124 = .ok (.iadd, 1) := by decide +kernel
theorem dX10_again_125 : decode cX10_again 125 = .ok (.iaload, 1) := by decide +kernel
theorem dX10_again_126 : decode cX10_again 126 = .ok (.iastore, 1) := by decide +kernel
theorem dX10_again_127 : decode cX10_again 127 = .ok (.aload_n 0, 1) := by decide +kernel
theorem dX10_again_128 : decode cX10_again 128 = .ok (.getfield 52, 3) := by decide +kernel
theorem dX10_again_131 : decode cX10_again 131 = .ok (.iload_n 2, 1) := by decide +kernel
theorem dX10_again_132 : decode cX10_again 132 = .ok (.aload_n 1, 1) := by decide +kernel
theorem dX10_again_133 : decode cX10_again 133 = .ok (.bipush 38, 2) := by decide +kernel
theorem dX10_again_135 : decode cX10_again 135 = .ok (.iload_n 2, 1) := by decide +kernel
theorem dX10_again_136 : decode cX10_again 136 = .ok (.iadd, 1) := by decide +kernel
theorem dX10_again_137 : decode cX10_again 137 = .ok (.iaload, 1) := by decide +kernel
theorem dX10_again_138 : decode cX10_again 138 = .ok (.iastore, 1) := by decide +kernel
theorem dX10_again_139 : decode cX10_again 139 = .ok (.iinc 2 1, 3) := by decide +kernel
theorem dX10_again_142 : decode cX10_again 142 = .ok (.goto (-57), 3) := by decide +kernel
theorem dX10_again_145 : decode cX10_again 145 = .ok (.iconst 0, 1) := by decide +kernel
theorem dX10_again_146 : decode cX10_again 146 = .ok (.istore_n 2, 1) := by decide +kernel
theorem dX10_again_147 : decode cX10_again 147 = .ok (.iload_n 2, 1) := by decide +kernel
theorem dX10_again_148 : decode cX10_again 148 = .ok (.bipush 56, 2) := by decide +kernel
theorem dX10_again_150 : decode cX10_again 150 = .ok (.if_icmp .ge 46, 3) := by decide +kernel
theorem dX10_again_153 : decode cX10_again 153 = .ok (.aload_n 0, 1) := by decide +kernel
theorem dX10_again_154 : decode cX10_again 154 = .ok (.getfield 28, 3) := by decide +kernel
theorem dX10_again_157 : decode cX10_again 157 = .ok (.iload_n 2, 1) := by decide +kernel
theorem dX10_again_158 : decode cX10_again 158 = .ok (.aload_n 1, 1) := by decide +kernel
theorem dX10_again_159 : decode cX10_again 159 = .ok (.bipush 46, 2) := by decide +kernel
theorem dX10_again_161 : decode cX10_again 161 = .ok (.iload_n 2, 1) := by decide +kernel
theorem dX10_again_162 : decode cX10_again 162 = .ok (.iadd, 1) := by decide +kernel
theorem dX10_again_163 : decode cX10_again 163 = .ok (.iaload, 1) := by decide +kernel
theorem dX10_again_164 : decode cX10_again 164 = .ok (.iastore, 1) := by decide +kernel
theorem dX10_again_165 : decode cX10_again 165 = .ok (.aload_n 0, 1) := by decide +kernel
theorem dX10_again_166 : decode cX10_again 166 = .ok (.getfield 31, 3) := by decide +kernel
theorem dX10_again_169 : decode cX10_again 169 = .ok (.iload_n 2, 1) := by decide +kernel
theorem dX10_again_170 : decode cX10_again 170 = .ok (.aload_n 1, 1) := by decide +kernel
theorem dX10_again_171 : decode cX10_again 171 = .ok (.bipush 102, 2) := by decide +kernel
theorem dX10_again_173 : decode cX10_again 173 = .ok (.iload_n 2, 1) := by decide +kernel
theorem dX10_again_174 : decode cX10_again 174 = .ok (.iadd, 1) := by decide +kernel
theorem dX10_again_175 : decode cX10_again 175 = .ok (.iaload, 1) := by decide +kernel
theorem dX10_again_176 : decode cX10_again 176 = .ok (.iastore, 1) := by decide +kernel
theorem dX10_again_177 : decode cX10_again 177 = .ok (.aload_n 0, 1) := by decide +kernel
theorem dX10_again_178 : decode cX10_again 178 = .ok (.getfield 34, 3) := by decide +kernel
theorem dX10_again_181 : decode cX10_again 181 = .ok (.iload_n 2, 1) := by decide +kernel
theorem dX10_again_182 : decode cX10_again 182 = .ok (.aload_n 1, 1) := by decide +kernel
theorem dX10_again_183 : decode cX10_again 183 = .ok (.sipush 158, 3) := by decide +kernel
theorem dX10_again_186 : decode cX10_again 186 = .ok (.iload_n 2, 1) := by decide +kernel
theorem dX10_again_187 : decode cX10_again 187 = .ok (.iadd, 1) := by decide +kernel
theorem dX10_again_188 : decode cX10_again 188 = .ok (.iaload, 1) := by decide +kernel
theorem dX10_again_189 : decode cX10_again 189 = .ok (.iastore, 1) := by decide +kernel
theorem dX10_again_190 : decode cX10_again 190 = .ok (.iinc 2 1, 3) := by decide +kernel
theorem dX10_again_193 : decode cX10_again 193 = .ok (.goto (-46), 3) := by decide +kernel
theorem dX10_again_196 : decode cX10_again 196 = .ok (.return_, 1) := by decide +kernel
theorem dX10_image_0 : decode cX10_image 0 = .ok (.aload_n 0, 1) := by decide +kernel
theorem dX10_image_1 : decode cX10_image 1 = .ok (.aload_n 0, 1) := by decide +kernel
theorem dX10_image_2 : decode cX10_image 2 = .ok (.getfield 74, 3) := by decide +kernel
theorem dX10_image_5 : decode cX10_image 5 = .ok (.invokevirtual 352, 3) := by decide +kernel
theorem dX10_image_8 : decode cX10_image 8 = .ok (.aload_n 0, 1) := by decide +kernel
theorem dX10_image_9 : decode cX10_image 9 = .ok (.iconst 1, 1) := by decide +kernel
theorem dX10_image_10 : decode cX10_image 10 = .ok (.putfield 368, 3) := by decide +kernel
theorem dX10_image_13 : decode cX10_image 13 = .ok (.aload_n 0, 1) := by decide +kernel
theorem dX10_image_14 : decode cX10_image 14 = .ok (.invokevirtual 188, 3) := by decide +kernel
theorem dX10_image_17 : decode cX10_image 17 = .ok (.ireturn, 1) := by decide +kernel
theorem dX10_undo_0 : decode cX10_undo 0 = .ok (.aload_n 0, 1) := by decide +kernel
theorem dX10_undo_1 : decode cX10_undo 1 = .ok (.getfield 368, 3) := by decide +kernel
theorem dX10_undo_4 : decode cX10_undo 4 = .ok (.ifCond .ne 6, 3) := by decide +kernel
theorem dX10_undo_7 : decode cX10_undo 7 = .ok (.bipush (-3), 2) := by decide +kernel
theorem dX10_undo_9 : decode cX10_undo 9 = .ok (.ireturn, 1) := by decide +kernel
theorem dX10_undo_10 : decode cX10_undo 10 = .ok (.aload_n 0, 1) := by decide +kernel
theorem dX10_undo_11 : decode cX10_undo 11 = .ok (.aload_n 0, 1) := by decide +kernel
theorem dX10_undo_12 : decode cX10_undo 12 = .ok (.getfield 74, 3) := by decide +kernel
theorem dX10_undo_15 : decode cX10_undo 15 = .ok (.invokevirtual 360, 3) := by decide +kernel
theorem dX10_undo_18 : decode cX10_undo 18 = .ok (.aload_n 0, 1) := by decide +kernel
theorem dX10_undo_19 : decode cX10_undo 19 = .ok (.invokevirtual 188, 3) := by decide +kernel
theorem dX10_undo_22 : decode cX10_undo 22 = .ok (.ireturn, 1) := by decide +kernel
theorem dX10_counted_0 : decode cX10_counted 0 = .ok (.iload_n 1, 1) := by decide +kernel
theorem dX10_counted_1 : decode cX10_counted 1 = .ok (.tableswitch 51 0 3 #[31, 36, 41, 46], 31) := by decide +kernel
theorem dX10_counted_32 : decode cX10_counted 32 = .ok (.aload_n 0, 1) := by decide +kernel
theorem dX10_counted_33 : decode cX10_counted 33 = .ok (.getfield 333, 3) := by decide +kernel
theorem dX10_counted_36 : decode cX10_counted 36 = .ok (.ireturn, 1) := by decide +kernel
theorem dX10_counted_37 : decode cX10_counted 37 = .ok (.aload_n 0, 1) := by decide +kernel
theorem dX10_counted_38 : decode cX10_counted 38 = .ok (.getfield 349, 3) := by decide +kernel
theorem dX10_counted_41 : decode cX10_counted 41 = .ok (.ireturn, 1) := by decide +kernel
theorem dX10_counted_42 : decode cX10_counted 42 = .ok (.aload_n 0, 1) := by decide +kernel
theorem dX10_counted_43 : decode cX10_counted 43 = .ok (.getfield 363, 3) := by decide +kernel
theorem dX10_counted_46 : decode cX10_counted 46 = .ok (.ireturn, 1) := by decide +kernel
theorem dX10_counted_47 : decode cX10_counted 47 = .ok (.aload_n 0, 1) := by decide +kernel
theorem dX10_counted_48 : decode cX10_counted 48 = .ok (.getfield 197, 3) := by decide +kernel
theorem dX10_counted_51 : decode cX10_counted 51 = .ok (.ireturn, 1) := by decide +kernel
theorem dX10_counted_52 : decode cX10_counted 52 = .ok (.bipush (-2), 2) := by decide +kernel
theorem dX10_counted_54 : decode cX10_counted 54 = .ok (.ireturn, 1) := by decide +kernel
theorem dX10_isTape_0 : decode cX10_isTape 0 = .ok (.iload_n 0, 1) := by decide +kernel
theorem dX10_isTape_1 : decode cX10_isTape 1 = .ok (.i2l, 1) := by decide +kernel
theorem dX10_isTape_2 : decode cX10_isTape 2 = .ok (.lconst 0, 1) := by decide +kernel
theorem dX10_isTape_3 : decode cX10_isTape 3 = .ok (.ldc2_w 366, 3) := by decide +kernel
theorem dX10_isTape_6 : decode cX10_isTape 6 = .ok (.invokestatic 116, 3) := by decide +kernel
theorem dX10_isTape_9 : decode cX10_isTape 9 = .ok (.ireturn, 1) := by decide +kernel
theorem dX10_tape_0 : decode cX10_tape 0 = .ok (.iload_n 1, 1) := by decide +kernel
theorem dX10_tape_1 : decode cX10_tape 1 = .ok (.invokestatic 372, 3) := by decide +kernel
theorem dX10_tape_4 : decode cX10_tape 4 = .ok (.ifCond .ne 5, 3) := by decide +kernel
theorem dX10_tape_7 : decode cX10_tape 7 = .ok (.iconst (-1), 1) := by decide +kernel
theorem dX10_tape_8 : decode cX10_tape 8 = .ok (.ireturn, 1) := by decide +kernel
theorem dX10_tape_9 : decode cX10_tape 9 = .ok (.iload_n 2, 1) := by decide +kernel
theorem dX10_tape_10 : decode cX10_tape 10 = .ok (.i2l, 1) := by decide +kernel
theorem dX10_tape_11 : decode cX10_tape 11 = .ok (.ldc2_w 173, 3) := by decide +kernel
theorem dX10_tape_14 : decode cX10_tape 14 = .ok (.ldc2_w 120, 3) := by decide +kernel
theorem dX10_tape_17 : decode cX10_tape 17 = .ok (.invokestatic 116, 3) := by decide +kernel
theorem dX10_tape_20 : decode cX10_tape 20 = .ok (.ifCond .eq 13, 3) := by decide +kernel
theorem dX10_tape_23 : decode cX10_tape 23 = .ok (.iload_n 2, 1) := by decide +kernel
theorem dX10_tape_24 : decode cX10_tape 24 = .ok (.ifCond .lt 12, 3) := by decide +kernel
theorem dX10_tape_27 : decode cX10_tape 27 = .ok (.iload_n 3, 1) := by decide +kernel
theorem dX10_tape_28 : decode cX10_tape 28 = .ok (.bipush 60, 2) := by decide +kernel
theorem dX10_tape_30 : decode cX10_tape 30 = .ok (.if_icmp .le 6, 3) := by decide +kernel
theorem dX10_tape_33 : decode cX10_tape 33 = .ok (.bipush (-2), 2) := by decide +kernel
theorem dX10_tape_35 : decode cX10_tape 35 = .ok (.ireturn, 1) := by decide +kernel
theorem dX10_tape_36 : decode cX10_tape 36 = .ok (.iload_n 2, 1) := by decide +kernel
theorem dX10_tape_37 : decode cX10_tape 37 = .ok (.ifCond .lt 10, 3) := by decide +kernel
theorem dX10_tape_40 : decode cX10_tape 40 = .ok (.iload_n 3, 1) := by decide +kernel
theorem dX10_tape_41 : decode cX10_tape 41 = .ok (.ifCond .ge 6, 3) := by decide +kernel
theorem dX10_tape_44 : decode cX10_tape 44 = .ok (.bipush (-14), 2) := by decide +kernel
theorem dX10_tape_46 : decode cX10_tape 46 = .ok (.ireturn, 1) := by decide +kernel
theorem dX10_tape_47 : decode cX10_tape 47 = .ok (.aload_n 0, 1) := by decide +kernel
theorem dX10_tape_48 : decode cX10_tape 48 = .ok (.getfield 68, 3) := by decide +kernel
theorem dX10_tape_51 : decode cX10_tape 51 = .ok (.iload_n 1, 1) := by decide +kernel
theorem dX10_tape_52 : decode cX10_tape 52 = .ok (.iload_n 2, 1) := by decide +kernel
theorem dX10_tape_53 : decode cX10_tape 53 = .ok (.iastore, 1) := by decide +kernel
theorem dX10_tape_54 : decode cX10_tape 54 = .ok (.aload_n 0, 1) := by decide +kernel
theorem dX10_tape_55 : decode cX10_tape 55 = .ok (.getfield 71, 3) := by decide +kernel
theorem dX10_tape_58 : decode cX10_tape 58 = .ok (.iload_n 1, 1) := by decide +kernel
theorem dX10_tape_59 : decode cX10_tape 59 = .ok (.iload_n 2, 1) := by decide +kernel
theorem dX10_tape_60 : decode cX10_tape 60 = .ok (.ifCond .ge 7, 3) := by decide +kernel
theorem dX10_tape_63 : decode cX10_tape 63 = .ok (.iconst 0, 1) := by decide +kernel
theorem dX10_tape_64 : decode cX10_tape 64 = .ok (.goto 4, 3) := by decide +kernel
theorem dX10_tape_67 : decode cX10_tape 67 = .ok (.iload_n 3, 1) := by decide +kernel
theorem dX10_tape_68 : decode cX10_tape 68 = .ok (.iastore, 1) := by decide +kernel
theorem dX10_tape_69 : decode cX10_tape 69 = .ok (.iconst 0, 1) := by decide +kernel
theorem dX10_tape_70 : decode cX10_tape 70 = .ok (.istore 4, 2) := by decide +kernel
theorem dX10_tape_72 : decode cX10_tape 72 = .ok (.iload 4, 2) := by decide +kernel
theorem dX10_tape_74 : decode cX10_tape 74 = .ok (.bipush 60, 2) := by decide +kernel
theorem dX10_tape_76 : decode cX10_tape 76 = .ok (.if_icmp .ge 22, 3) := by decide +kernel
theorem dX10_tape_79 : decode cX10_tape 79 = .ok (.aload_n 0, 1) := by decide +kernel
theorem dX10_tape_80 : decode cX10_tape 80 = .ok (.getfield 64, 3) := by decide +kernel
theorem dX10_tape_83 : decode cX10_tape 83 = .ok (.bipush 60, 2) := by decide +kernel
theorem dX10_tape_85 : decode cX10_tape 85 = .ok (.iload_n 1, 1) := by decide +kernel
theorem dX10_tape_86 : decode cX10_tape 86 = .ok (.imul, 1) := by decide +kernel
theorem dX10_tape_87 : decode cX10_tape 87 = .ok (.iload 4, 2) := by decide +kernel
theorem dX10_tape_89 : decode cX10_tape 89 = .ok (.iadd, 1) := by decide +kernel
theorem dX10_tape_90 : decode cX10_tape 90 = .ok (.lconst 0, 1) := by decide +kernel
theorem dX10_tape_91 : decode cX10_tape 91 = .ok (.lastore, 1) := by decide +kernel
theorem dX10_tape_92 : decode cX10_tape 92 = .ok (.iinc 4 1, 3) := by decide +kernel
theorem dX10_tape_95 : decode cX10_tape 95 = .ok (.goto (-23), 3) := by decide +kernel
theorem dX10_tape_98 : decode cX10_tape 98 = .ok (.iconst 1, 1) := by decide +kernel
theorem dX10_tape_99 : decode cX10_tape 99 = .ok (.ireturn, 1) := by decide +kernel
theorem dX10_hasItem_0 : decode cX10_hasItem 0 = .ok (.iload_n 2, 1) := by decide +kernel
theorem dX10_hasItem_1 : decode cX10_hasItem 1 = .ok (.i2l, 1) := by decide +kernel
theorem dX10_hasItem_2 : decode cX10_hasItem 2 = .ok (.lconst 0, 1) := by decide +kernel
theorem dX10_hasItem_3 : decode cX10_hasItem 3 = .ok (.aload_n 0, 1) := by decide +kernel
theorem dX10_hasItem_4 : decode cX10_hasItem 4 = .ok (.getfield 71, 3) := by decide +kernel
theorem dX10_hasItem_7 : decode cX10_hasItem 7 = .ok (.iload_n 1, 1) := by decide +kernel
theorem dX10_hasItem_8 : decode cX10_hasItem 8 = .ok (.iaload, 1) := by decide +kernel
theorem dX10_hasItem_9 : decode cX10_hasItem 9 = .ok (.iconst 1, 1) := by decide +kernel
theorem dX10_hasItem_10 : decode cX10_hasItem 10 = .ok (.isub, 1) := by decide +kernel
theorem dX10_hasItem_11 : decode cX10_hasItem 11 = .ok (.i2l, 1) := by decide +kernel
theorem dX10_hasItem_12 : decode cX10_hasItem 12 = .ok (.invokestatic 116, 3) := by decide +kernel
theorem dX10_hasItem_15 : decode cX10_hasItem 15 = .ok (.ireturn, 1) := by decide +kernel
theorem dX10_item_0 : decode cX10_item 0 = .ok (.iload_n 1, 1) := by decide +kernel
theorem dX10_item_1 : decode cX10_item 1 = .ok (.invokestatic 372, 3) := by decide +kernel
theorem dX10_item_4 : decode cX10_item 4 = .ok (.ifCond .ne 5, 3) := by decide +kernel
theorem dX10_item_7 : decode cX10_item 7 = .ok (.iconst (-1), 1) := by decide +kernel
theorem dX10_item_8 : decode cX10_item 8 = .ok (.ireturn, 1) := by decide +kernel
theorem dX10_item_9 : decode cX10_item 9 = .ok (.aload_n 0, 1) := by decide +kernel
theorem dX10_item_10 : decode cX10_item 10 = .ok (.getfield 68, 3) := by decide +kernel
theorem dX10_item_13 : decode cX10_item 13 = .ok (.iload_n 1, 1) := by decide +kernel
theorem dX10_item_14 : decode cX10_item 14 = .ok (.iaload, 1) := by decide +kernel
theorem dX10_item_15 : decode cX10_item 15 = .ok (.ifCond .ge 6, 3) := by decide +kernel
theorem dX10_item_18 : decode cX10_item 18 = .ok (.bipush (-11), 2) := by decide +kernel
theorem dX10_item_20 : decode cX10_item 20 = .ok (.ireturn, 1) := by decide +kernel
theorem dX10_item_21 : decode cX10_item 21 = .ok (.aload_n 0, 1) := by decide +kernel
theorem dX10_item_22 : decode cX10_item 22 = .ok (.iload_n 1, 1) := by decide +kernel
theorem dX10_item_23 : decode cX10_item 23 = .ok (.iload_n 2, 1) := by decide +kernel
theorem dX10_item_24 : decode cX10_item 24 = .ok (.invokevirtual 375, 3) := by decide +kernel
theorem dX10_item_27 : decode cX10_item 27 = .ok (.ifCond .ne 6, 3) := by decide +kernel
theorem dX10_item_30 : decode cX10_item 30 = .ok (.bipush (-13), 2) := by decide +kernel
theorem dX10_item_32 : decode cX10_item 32 = .ok (.ireturn, 1) := by decide +kernel
theorem dX10_item_33 : decode cX10_item 33 = .ok (.lload_n 3, 1) := by decide +kernel
theorem dX10_item_34 : decode cX10_item 34 = .ok (.lstore 5, 2) := by decide +kernel
theorem dX10_item_36 : decode cX10_item 36 = .ok (.aload_n 0, 1) := by decide +kernel
theorem dX10_item_37 : decode cX10_item 37 = .ok (.getfield 68, 3) := by decide +kernel
theorem dX10_item_40 : decode cX10_item 40 = .ok (.iload_n 1, 1) := by decide +kernel
theorem dX10_item_41 : decode cX10_item 41 = .ok (.iaload, 1) := by decide +kernel
theorem dX10_item_42 : decode cX10_item 42 = .ok (.tableswitch 76 0 4 #[34, 43, 52, 76, 60], 34) := by decide +kernel
theorem dX10_item_76 : decode cX10_item 76 = .ok (.lload_n 3, 1) := by decide +kernel
theorem dX10_item_77 : decode cX10_item 77 = .ok (.l2i, 1) := by decide +kernel
theorem dX10_item_78 : decode cX10_item 78 = .ok (.i2b, 1) := by decide +kernel
theorem dX10_item_79 : decode cX10_item 79 = .ok (.i2l, 1) := by decide +kernel
theorem dX10_item_80 : decode cX10_item 80 = .ok (.lstore 5, 2) := by decide +kernel
theorem dX10_item_82 : decode cX10_item 82 = .ok (.goto 36, 3) := by decide +kernel
theorem dX10_item_85 : decode cX10_item 85 = .ok (.lload_n 3, 1) := by decide +kernel
theorem dX10_item_86 : decode cX10_item 86 = .ok (.l2i, 1) := by decide +kernel
theorem dX10_item_87 : decode cX10_item 87 = .ok (.i2s, 1) := by decide +kernel
theorem dX10_item_88 : decode cX10_item 88 = .ok (.i2l, 1) := by decide +kernel
theorem dX10_item_89 : decode cX10_item 89 = .ok (.lstore 5, 2) := by decide +kernel
theorem dX10_item_91 : decode cX10_item 91 = .ok (.goto 27, 3) := by decide +kernel
theorem dX10_item_94 : decode cX10_item 94 = .ok (.lload_n 3, 1) := by decide +kernel
theorem dX10_item_95 : decode cX10_item 95 = .ok (.l2i, 1) := by decide +kernel
theorem dX10_item_96 : decode cX10_item 96 = .ok (.i2l, 1) := by decide +kernel
theorem dX10_item_97 : decode cX10_item 97 = .ok (.lstore 5, 2) := by decide +kernel
theorem dX10_item_99 : decode cX10_item 99 = .ok (.goto 19, 3) := by decide +kernel
theorem dX10_item_102 : decode cX10_item 102 = .ok (.lload_n 3, 1) := by decide +kernel
theorem dX10_item_103 : decode cX10_item 103 = .ok (.lconst 0, 1) := by decide +kernel
theorem dX10_item_104 : decode cX10_item 104 = .ok (.lcmp, 1) := by decide +kernel
theorem dX10_item_105 : decode cX10_item 105 = .ok (.ifCond .eq 7, 3) := by decide +kernel
theorem dX10_item_108 : decode cX10_item 108 = .ok (.lconst 1, 1) := by decide +kernel
theorem dX10_item_109 : decode cX10_item 109 = .ok (.goto 4, 3) := by decide +kernel
theorem dX10_item_112 : decode cX10_item 112 = .ok (.lconst 0, 1) := by decide +kernel
theorem dX10_item_113 : decode cX10_item 113 = .ok (.lstore 5, 2) := by decide +kernel
theorem dX10_item_115 : decode cX10_item 115 = .ok (.goto 3, 3) := by decide +kernel
theorem dX10_item_118 : decode cX10_item 118 = .ok (.aload_n 0, 1) := by decide +kernel
theorem dX10_item_119 : decode cX10_item 119 = .ok (.getfield 64, 3) := by decide +kernel
theorem dX10_item_122 : decode cX10_item 122 = .ok (.bipush 60, 2) := by decide +kernel
theorem dX10_item_124 : decode cX10_item 124 = .ok (.iload_n 1, 1) := by decide +kernel
theorem dX10_item_125 : decode cX10_item 125 = .ok (.imul, 1) := by decide +kernel
theorem dX10_item_126 : decode cX10_item 126 = .ok (.iload_n 2, 1) := by decide +kernel
theorem dX10_item_127 : decode cX10_item 127 = .ok (.iadd, 1) := by decide +kernel
theorem dX10_item_128 : decode cX10_item 128 = .ok (.lload 5, 2) := by decide +kernel
theorem dX10_item_130 : decode cX10_item 130 = .ok (.lastore, 1) := by decide +kernel
theorem dX10_item_131 : decode cX10_item 131 = .ok (.iconst 1, 1) := by decide +kernel
theorem dX10_item_132 : decode cX10_item 132 = .ok (.ireturn, 1) := by decide +kernel
theorem dX10_peek_0 : decode cX10_peek 0 = .ok (.iload_n 1, 1) := by decide +kernel
theorem dX10_peek_1 : decode cX10_peek 1 = .ok (.invokestatic 372, 3) := by decide +kernel
theorem dX10_peek_4 : decode cX10_peek 4 = .ok (.ifCond .eq 35, 3) := by decide +kernel
theorem dX10_peek_7 : decode cX10_peek 7 = .ok (.aload_n 0, 1) := by decide +kernel
theorem dX10_peek_8 : decode cX10_peek 8 = .ok (.getfield 68, 3) := by decide +kernel
theorem dX10_peek_11 : decode cX10_peek 11 = .ok (.iload_n 1, 1) := by decide +kernel
theorem dX10_peek_12 : decode cX10_peek 12 = .ok (.iaload, 1) := by decide +kernel
theorem dX10_peek_13 : decode cX10_peek 13 = .ok (.ifCond .lt 26, 3) := by decide +kernel
theorem dX10_peek_16 : decode cX10_peek 16 = .ok (.aload_n 0, 1) := by decide +kernel
theorem dX10_peek_17 : decode cX10_peek 17 = .ok (.iload_n 1, 1) := by decide +kernel
theorem dX10_peek_18 : decode cX10_peek 18 = .ok (.iload_n 2, 1) := by decide +kernel
theorem dX10_peek_19 : decode cX10_peek 19 = .ok (.invokevirtual 375, 3) := by decide +kernel
theorem dX10_peek_22 : decode cX10_peek 22 = .ok (.ifCond .eq 17, 3) := by decide +kernel
theorem dX10_peek_25 : decode cX10_peek 25 = .ok (.aload_n 0, 1) := by decide +kernel
theorem dX10_peek_26 : decode cX10_peek 26 = .ok (.getfield 64, 3) := by decide +kernel
theorem dX10_peek_29 : decode cX10_peek 29 = .ok (.bipush 60, 2) := by decide +kernel
theorem dX10_peek_31 : decode cX10_peek 31 = .ok (.iload_n 1, 1) := by decide +kernel
theorem dX10_peek_32 : decode cX10_peek 32 = .ok (.imul, 1) := by decide +kernel
theorem dX10_peek_33 : decode cX10_peek 33 = .ok (.iload_n 2, 1) := by decide +kernel
theorem dX10_peek_34 : decode cX10_peek 34 = .ok (.iadd, 1) := by decide +kernel
theorem dX10_peek_35 : decode cX10_peek 35 = .ok (.laload, 1) := by decide +kernel
theorem dX10_peek_36 : decode cX10_peek 36 = .ok (.goto 6, 3) := by decide +kernel
theorem dX10_peek_39 : decode cX10_peek 39 = .ok (.ldc2_w 343, 3) := by decide +kernel
theorem dX10_peek_42 : decode cX10_peek 42 = .ok (.lreturn, 1) := by decide +kernel
theorem dX10_shift_0 : decode cX10_shift 0 = .ok (.iload_n 1, 1) := by decide +kernel
theorem dX10_shift_1 : decode cX10_shift 1 = .ok (.invokestatic 372, 3) := by decide +kernel
theorem dX10_shift_4 : decode cX10_shift 4 = .ok (.ifCond .eq 10, 3) := by decide +kernel
theorem dX10_shift_7 : decode cX10_shift 7 = .ok (.iload_n 3, 1) := by decide +kernel
theorem dX10_shift_8 : decode cX10_shift 8 = .ok (.invokestatic 372, 3) := by decide +kernel
theorem dX10_shift_11 : decode cX10_shift 11 = .ok (.ifCond .ne 5, 3) := by decide +kernel
theorem dX10_shift_14 : decode cX10_shift 14 = .ok (.iconst (-1), 1) := by decide +kernel
theorem dX10_shift_15 : decode cX10_shift 15 = .ok (.ireturn, 1) := by decide +kernel
theorem dX10_shift_16 : decode cX10_shift 16 = .ok (.aload_n 0, 1) := by decide +kernel
theorem dX10_shift_17 : decode cX10_shift 17 = .ok (.getfield 68, 3) := by decide +kernel
theorem dX10_shift_20 : decode cX10_shift 20 = .ok (.iload_n 1, 1) := by decide +kernel
theorem dX10_shift_21 : decode cX10_shift 21 = .ok (.iaload, 1) := by decide +kernel
theorem dX10_shift_22 : decode cX10_shift 22 = .ok (.ifCond .lt 12, 3) := by decide +kernel
theorem dX10_shift_25 : decode cX10_shift 25 = .ok (.aload_n 0, 1) := by decide +kernel
theorem dX10_shift_26 : decode cX10_shift 26 = .ok (.getfield 68, 3) := by decide +kernel
theorem dX10_shift_29 : decode cX10_shift 29 = .ok (.iload_n 3, 1) := by decide +kernel
theorem dX10_shift_30 : decode cX10_shift 30 = .ok (.iaload, 1) := by decide +kernel
theorem dX10_shift_31 : decode cX10_shift 31 = .ok (.ifCond .ge 6, 3) := by decide +kernel
theorem dX10_shift_34 : decode cX10_shift 34 = .ok (.bipush (-11), 2) := by decide +kernel
theorem dX10_shift_36 : decode cX10_shift 36 = .ok (.ireturn, 1) := by decide +kernel
theorem dX10_shift_37 : decode cX10_shift 37 = .ok (.aload_n 0, 1) := by decide +kernel
theorem dX10_shift_38 : decode cX10_shift 38 = .ok (.getfield 68, 3) := by decide +kernel
theorem dX10_shift_41 : decode cX10_shift 41 = .ok (.iload_n 1, 1) := by decide +kernel
theorem dX10_shift_42 : decode cX10_shift 42 = .ok (.iaload, 1) := by decide +kernel
theorem dX10_shift_43 : decode cX10_shift 43 = .ok (.aload_n 0, 1) := by decide +kernel
theorem dX10_shift_44 : decode cX10_shift 44 = .ok (.getfield 68, 3) := by decide +kernel
theorem dX10_shift_47 : decode cX10_shift 47 = .ok (.iload_n 3, 1) := by decide +kernel
theorem dX10_shift_48 : decode cX10_shift 48 = .ok (.iaload, 1) := by decide +kernel
theorem dX10_shift_49 : decode cX10_shift 49 = .ok (.if_icmp .eq 6, 3) := by decide +kernel
theorem dX10_shift_52 : decode cX10_shift 52 = .ok (.bipush (-12), 2) := by decide +kernel
theorem dX10_shift_54 : decode cX10_shift 54 = .ok (.ireturn, 1) := by decide +kernel
theorem dX10_shift_55 : decode cX10_shift 55 = .ok (.iload 5, 2) := by decide +kernel
theorem dX10_shift_57 : decode cX10_shift 57 = .ok (.ifCond .lt 47, 3) := by decide +kernel
theorem dX10_shift_60 : decode cX10_shift 60 = .ok (.iload_n 2, 1) := by decide +kernel
theorem dX10_shift_61 : decode cX10_shift 61 = .ok (.ifCond .lt 43, 3) := by decide +kernel
theorem dX10_shift_64 : decode cX10_shift 64 = .ok (.iload 4, 2) := by decide +kernel
theorem dX10_shift_66 : decode cX10_shift 66 = .ok (.ifCond .lt 38, 3) := by decide +kernel
theorem dX10_shift_69 : decode cX10_shift 69 = .ok (.iload_n 2, 1) := by decide +kernel
theorem dX10_shift_70 : decode cX10_shift 70 = .ok (.i2l, 1) := by decide +kernel
theorem dX10_shift_71 : decode cX10_shift 71 = .ok (.iload 5, 2) := by decide +kernel
theorem dX10_shift_73 : decode cX10_shift 73 = .ok (.i2l, 1) := by decide +kernel
theorem dX10_shift_74 : decode cX10_shift 74 = .ok (.ladd, 1) := by decide +kernel
theorem dX10_shift_75 : decode cX10_shift 75 = .ok (.aload_n 0, 1) := by decide +kernel
theorem dX10_shift_76 : decode cX10_shift 76 = .ok (.getfield 71, 3) := by decide +kernel
theorem dX10_shift_79 : decode cX10_shift 79 = .ok (.iload_n 1, 1) := by decide +kernel
theorem dX10_shift_80 : decode cX10_shift 80 = .ok (.iaload, 1) := by decide +kernel
theorem dX10_shift_81 : decode cX10_shift 81 = .ok (.i2l, 1) := by decide +kernel
theorem dX10_shift_82 : decode cX10_shift 82 = .ok (.lcmp, 1) := by decide +kernel
theorem dX10_shift_83 : decode cX10_shift 83 = .ok (.ifCond .gt 21, 3) := by decide +kernel
theorem dX10_shift_86 : decode cX10_shift 86 = .ok (.iload 4, 2) := by decide +kernel
theorem dX10_shift_88 : decode cX10_shift 88 = .ok (.i2l, 1) := by decide +kernel
theorem dX10_shift_89 : decode cX10_shift 89 = .ok (.iload 5, 2) := by decide +kernel
theorem dX10_shift_91 : decode cX10_shift 91 = .ok (.i2l, 1) := by decide +kernel
theorem dX10_shift_92 : decode cX10_shift 92 = .ok (.ladd, 1) := by decide +kernel
theorem dX10_shift_93 : decode cX10_shift 93 = .ok (.aload_n 0, 1) := by decide +kernel
theorem dX10_shift_94 : decode cX10_shift 94 = .ok (.getfield 71, 3) := by decide +kernel
theorem dX10_shift_97 : decode cX10_shift 97 = .ok (.iload_n 3, 1) := by decide +kernel
theorem dX10_shift_98 : decode cX10_shift 98 = .ok (.iaload, 1) := by decide +kernel
theorem dX10_shift_99 : decode cX10_shift 99 = .ok (.i2l, 1) := by decide +kernel
theorem dX10_shift_100 : decode cX10_shift 100 = .ok (.lcmp, 1) := by decide +kernel
theorem dX10_shift_101 : decode cX10_shift 101 = .ok (.ifCond .le 6, 3) := by decide +kernel
theorem dX10_shift_104 : decode cX10_shift 104 = .ok (.bipush (-13), 2) := by decide +kernel
theorem dX10_shift_106 : decode cX10_shift 106 = .ok (.ireturn, 1) := by decide +kernel
theorem dX10_shift_107 : decode cX10_shift 107 = .ok (.bipush 60, 2) := by decide +kernel
theorem dX10_shift_109 : decode cX10_shift 109 = .ok (.iload_n 1, 1) := by decide +kernel
theorem dX10_shift_110 : decode cX10_shift 110 = .ok (.imul, 1) := by decide +kernel
theorem dX10_shift_111 : decode cX10_shift 111 = .ok (.iload_n 2, 1) := by decide +kernel
theorem dX10_shift_112 : decode cX10_shift 112 = .ok (.iadd, 1) := by decide +kernel
theorem dX10_shift_113 : decode cX10_shift 113 = .ok (.bipush 60, 2) := by decide +kernel
theorem dX10_shift_115 : decode cX10_shift 115 = .ok (.iload_n 3, 1) := by decide +kernel
theorem dX10_shift_116 : decode cX10_shift 116 = .ok (.imul, 1) := by decide +kernel
theorem dX10_shift_117 : decode cX10_shift 117 = .ok (.iload 4, 2) := by decide +kernel
theorem dX10_shift_119 : decode cX10_shift 119 = .ok (.iadd, 1) := by decide +kernel
theorem dX10_shift_120 : decode cX10_shift 120 = .ok (.if_icmp .lt 7, 3) := by decide +kernel
theorem dX10_shift_123 : decode cX10_shift 123 = .ok (.iconst 1, 1) := by decide +kernel
theorem dX10_shift_124 : decode cX10_shift 124 = .ok (.goto 4, 3) := by decide +kernel
theorem dX10_shift_127 : decode cX10_shift 127 = .ok (.iconst 0, 1) := by decide +kernel
theorem dX10_shift_128 : decode cX10_shift 128 = .ok (.istore 6, 2) := by decide +kernel
theorem dX10_shift_130 : decode cX10_shift 130 = .ok (.iconst 0, 1) := by decide +kernel
theorem dX10_shift_131 : decode cX10_shift 131 = .ok (.istore 7, 2) := by decide +kernel
theorem dX10_shift_133 : decode cX10_shift 133 = .ok (.iload 7, 2) := by decide +kernel
theorem dX10_shift_135 : decode cX10_shift 135 = .ok (.iload 5, 2) := by decide +kernel
theorem dX10_shift_137 : decode cX10_shift 137 = .ok (.if_icmp .ge 57, 3) := by decide +kernel
theorem dX10_shift_140 : decode cX10_shift 140 = .ok (.iload 6, 2) := by decide +kernel
theorem dX10_shift_142 : decode cX10_shift 142 = .ok (.ifCond .eq 8, 3) := by decide +kernel
theorem dX10_shift_145 : decode cX10_shift 145 = .ok (.iload 7, 2) := by decide +kernel
theorem dX10_shift_147 : decode cX10_shift 147 = .ok (.goto 10, 3) := by decide +kernel
theorem dX10_shift_150 : decode cX10_shift 150 = .ok (.iload 5, 2) := by decide +kernel
theorem dX10_shift_152 : decode cX10_shift 152 = .ok (.iconst 1, 1) := by decide +kernel
theorem dX10_shift_153 : decode cX10_shift 153 = .ok (.isub, 1) := by decide +kernel
theorem dX10_shift_154 : decode cX10_shift 154 = .ok (.iload 7, 2) := by decide +kernel
theorem dX10_shift_156 : decode cX10_shift 156 = .ok (.isub, 1) := by decide +kernel
theorem dX10_shift_157 : decode cX10_shift 157 = .ok (.istore 8, 2) := by decide +kernel
theorem dX10_shift_159 : decode cX10_shift 159 = .ok (.aload_n 0, 1) := by decide +kernel
theorem dX10_shift_160 : decode cX10_shift 160 = .ok (.getfield 64, 3) := by decide +kernel
theorem dX10_shift_163 : decode cX10_shift 163 = .ok (.bipush 60, 2) := by decide +kernel
theorem dX10_shift_165 : decode cX10_shift 165 = .ok (.iload_n 3, 1) := by decide +kernel
theorem dX10_shift_166 : decode cX10_shift 166 = .ok (.imul, 1) := by decide +kernel
theorem dX10_shift_167 : decode cX10_shift 167 = .ok (.iload 4, 2) := by decide +kernel
theorem dX10_shift_169 : decode cX10_shift 169 = .ok (.iadd, 1) := by decide +kernel
theorem dX10_shift_170 : decode cX10_shift 170 = .ok (.iload 8, 2) := by decide +kernel
theorem dX10_shift_172 : decode cX10_shift 172 = .ok (.iadd, 1) := by decide +kernel
theorem dX10_shift_173 : decode cX10_shift 173 = .ok (.aload_n 0, 1) := by decide +kernel
theorem dX10_shift_174 : decode cX10_shift 174 = .ok (.getfield 64, 3) := by decide +kernel
theorem dX10_shift_177 : decode cX10_shift 177 = .ok (.bipush 60, 2) := by decide +kernel
theorem dX10_shift_179 : decode cX10_shift 179 = .ok (.iload_n 1, 1) := by decide +kernel
theorem dX10_shift_180 : decode cX10_shift 180 = .ok (.imul, 1) := by decide +kernel
theorem dX10_shift_181 : decode cX10_shift 181 = .ok (.iload_n 2, 1) := by decide +kernel
theorem dX10_shift_182 : decode cX10_shift 182 = .ok (.iadd, 1) := by decide +kernel
theorem dX10_shift_183 : decode cX10_shift 183 = .ok (.iload 8, 2) := by decide +kernel
theorem dX10_shift_185 : decode cX10_shift 185 = .ok (.iadd, 1) := by decide +kernel
theorem dX10_shift_186 : decode cX10_shift 186 = .ok (.laload, 1) := by decide +kernel
theorem dX10_shift_187 : decode cX10_shift 187 = .ok (.lastore, 1) := by decide +kernel
theorem dX10_shift_188 : decode cX10_shift 188 = .ok (.iinc 7 1, 3) := by decide +kernel
theorem dX10_shift_191 : decode cX10_shift 191 = .ok (.goto (-58), 3) := by decide +kernel
theorem dX10_shift_194 : decode cX10_shift 194 = .ok (.iload 5, 2) := by decide +kernel
theorem dX10_shift_196 : decode cX10_shift 196 = .ok (.ireturn, 1) := by decide +kernel
theorem dJ6_bitCount_0f7a4_0 : decode cJ6_bitCount_0f7a4 0 = .ok (.iload_n 0, 1) := by decide +kernel
theorem dJ6_bitCount_0f7a4_1 : decode cJ6_bitCount_0f7a4 1 = .ok (.iload_n 0, 1) := by decide +kernel
theorem dJ6_bitCount_0f7a4_2 : decode cJ6_bitCount_0f7a4 2 = .ok (.iconst 1, 1) := by decide +kernel
theorem dJ6_bitCount_0f7a4_3 : decode cJ6_bitCount_0f7a4 3 = .ok (.iushr, 1) := by decide +kernel
theorem dJ6_bitCount_0f7a4_4 : decode cJ6_bitCount_0f7a4 4 = .ok (.ldc_w 265, 3) := by decide +kernel
theorem dJ6_bitCount_0f7a4_7 : decode cJ6_bitCount_0f7a4 7 = .ok (.iand, 1) := by decide +kernel
theorem dJ6_bitCount_0f7a4_8 : decode cJ6_bitCount_0f7a4 8 = .ok (.isub, 1) := by decide +kernel
theorem dJ6_bitCount_0f7a4_9 : decode cJ6_bitCount_0f7a4 9 = .ok (.istore_n 0, 1) := by decide +kernel
theorem dJ6_bitCount_0f7a4_10 : decode cJ6_bitCount_0f7a4 10 = .ok (.iload_n 0, 1) := by decide +kernel
theorem dJ6_bitCount_0f7a4_11 : decode cJ6_bitCount_0f7a4 11 = .ok (.ldc_w 266, 3) := by decide +kernel
theorem dJ6_bitCount_0f7a4_14 : decode cJ6_bitCount_0f7a4 14 = .ok (.iand, 1) := by decide +kernel
theorem dJ6_bitCount_0f7a4_15 : decode cJ6_bitCount_0f7a4 15 = .ok (.iload_n 0, 1) := by decide +kernel
theorem dJ6_bitCount_0f7a4_16 : decode cJ6_bitCount_0f7a4 16 = .ok (.iconst 2, 1) := by decide +kernel
theorem dJ6_bitCount_0f7a4_17 : decode cJ6_bitCount_0f7a4 17 = .ok (.iushr, 1) := by decide +kernel
theorem dJ6_bitCount_0f7a4_18 : decode cJ6_bitCount_0f7a4 18 = .ok (.ldc_w 266, 3) := by decide +kernel
theorem dJ6_bitCount_0f7a4_21 : decode cJ6_bitCount_0f7a4 21 = .ok (.iand, 1) := by decide +kernel
theorem dJ6_bitCount_0f7a4_22 : decode cJ6_bitCount_0f7a4 22 = .ok (.iadd, 1) := by decide +kernel
theorem dJ6_bitCount_0f7a4_23 : decode cJ6_bitCount_0f7a4 23 = .ok (.istore_n 0, 1) := by decide +kernel
theorem dJ6_bitCount_0f7a4_24 : decode cJ6_bitCount_0f7a4 24 = .ok (.iload_n 0, 1) := by decide +kernel
theorem dJ6_bitCount_0f7a4_25 : decode cJ6_bitCount_0f7a4 25 = .ok (.iload_n 0, 1) := by decide +kernel
theorem dJ6_bitCount_0f7a4_26 : decode cJ6_bitCount_0f7a4 26 = .ok (.iconst 4, 1) := by decide +kernel
theorem dJ6_bitCount_0f7a4_27 : decode cJ6_bitCount_0f7a4 27 = .ok (.iushr, 1) := by decide +kernel
theorem dJ6_bitCount_0f7a4_28 : decode cJ6_bitCount_0f7a4 28 = .ok (.iadd, 1) := by decide +kernel
theorem dJ6_bitCount_0f7a4_29 : decode cJ6_bitCount_0f7a4 29 = .ok (.ldc_w 267, 3) := by decide +kernel
theorem dJ6_bitCount_0f7a4_32 : decode cJ6_bitCount_0f7a4 32 = .ok (.iand, 1) := by decide +kernel
theorem dJ6_bitCount_0f7a4_33 : decode cJ6_bitCount_0f7a4 33 = .ok (.istore_n 0, 1) := by decide +kernel
theorem dJ6_bitCount_0f7a4_34 : decode cJ6_bitCount_0f7a4 34 = .ok (.iload_n 0, 1) := by decide +kernel
theorem dJ6_bitCount_0f7a4_35 : decode cJ6_bitCount_0f7a4 35 = .ok (.iload_n 0, 1) := by decide +kernel
theorem dJ6_bitCount_0f7a4_36 : decode cJ6_bitCount_0f7a4 36 = .ok (.bipush 8, 2) := by decide +kernel
theorem dJ6_bitCount_0f7a4_38 : decode cJ6_bitCount_0f7a4 38 = .ok (.iushr, 1) := by decide +kernel
theorem dJ6_bitCount_0f7a4_39 : decode cJ6_bitCount_0f7a4 39 = .ok (.iadd, 1) := by decide +kernel
theorem dJ6_bitCount_0f7a4_40 : decode cJ6_bitCount_0f7a4 40 = .ok (.istore_n 0, 1) := by decide +kernel
theorem dJ6_bitCount_0f7a4_41 : decode cJ6_bitCount_0f7a4 41 = .ok (.iload_n 0, 1) := by decide +kernel
theorem dJ6_bitCount_0f7a4_42 : decode cJ6_bitCount_0f7a4 42 = .ok (.iload_n 0, 1) := by decide +kernel
theorem dJ6_bitCount_0f7a4_43 : decode cJ6_bitCount_0f7a4 43 = .ok (.bipush 16, 2) := by decide +kernel
theorem dJ6_bitCount_0f7a4_45 : decode cJ6_bitCount_0f7a4 45 = .ok (.iushr, 1) := by decide +kernel
theorem dJ6_bitCount_0f7a4_46 : decode cJ6_bitCount_0f7a4 46 = .ok (.iadd, 1) := by decide +kernel
theorem dJ6_bitCount_0f7a4_47 : decode cJ6_bitCount_0f7a4 47 = .ok (.istore_n 0, 1) := by decide +kernel
theorem dJ6_bitCount_0f7a4_48 : decode cJ6_bitCount_0f7a4 48 = .ok (.iload_n 0, 1) := by decide +kernel
theorem dJ6_bitCount_0f7a4_49 : decode cJ6_bitCount_0f7a4 49 = .ok (.bipush 63, 2) := by decide +kernel
theorem dJ6_bitCount_0f7a4_51 : decode cJ6_bitCount_0f7a4 51 = .ok (.iand, 1) := by decide +kernel
theorem dJ6_bitCount_0f7a4_52 : decode cJ6_bitCount_0f7a4 52 = .ok (.ireturn, 1) := by decide +kernel
theorem dJ13_bitCount_95d88_0 : decode cJ13_bitCount_95d88 0 = .ok (.lload_n 0, 1) := by decide +kernel
theorem dJ13_bitCount_95d88_1 : decode cJ13_bitCount_95d88 1 = .ok (.lload_n 0, 1) := by decide +kernel
theorem dJ13_bitCount_95d88_2 : decode cJ13_bitCount_95d88 2 = .ok (.iconst 1, 1) := by decide +kernel
theorem dJ13_bitCount_95d88_3 : decode cJ13_bitCount_95d88 3 = .ok (.lushr, 1) := by decide +kernel
theorem dJ13_bitCount_95d88_4 : decode cJ13_bitCount_95d88 4 = .ok (.ldc2_w 314, 3) := by decide +kernel
theorem dJ13_bitCount_95d88_7 : decode cJ13_bitCount_95d88 7 = .ok (.land, 1) := by decide +kernel
theorem dJ13_bitCount_95d88_8 : decode cJ13_bitCount_95d88 8 = .ok (.lsub, 1) := by decide +kernel
theorem dJ13_bitCount_95d88_9 : decode cJ13_bitCount_95d88 9 = .ok (.lstore_n 0, 1) := by decide +kernel
theorem dJ13_bitCount_95d88_10 : decode cJ13_bitCount_95d88 10 = .ok (.lload_n 0, 1) := by decide +kernel
theorem dJ13_bitCount_95d88_11 : decode cJ13_bitCount_95d88 11 = .ok (.ldc2_w 316, 3) := by decide +kernel
theorem dJ13_bitCount_95d88_14 : decode cJ13_bitCount_95d88 14 = .ok (.land, 1) := by decide +kernel
theorem dJ13_bitCount_95d88_15 : decode cJ13_bitCount_95d88 15 = .ok (.lload_n 0, 1) := by decide +kernel
theorem dJ13_bitCount_95d88_16 : decode cJ13_bitCount_95d88 16 = .ok (.iconst 2, 1) := by decide +kernel
theorem dJ13_bitCount_95d88_17 : decode cJ13_bitCount_95d88 17 = .ok (.lushr, 1) := by decide +kernel
theorem dJ13_bitCount_95d88_18 : decode cJ13_bitCount_95d88 18 = .ok (.ldc2_w 316, 3) := by decide +kernel
theorem dJ13_bitCount_95d88_21 : decode cJ13_bitCount_95d88 21 = .ok (.land, 1) := by decide +kernel
theorem dJ13_bitCount_95d88_22 : decode cJ13_bitCount_95d88 22 = .ok (.ladd, 1) := by decide +kernel
theorem dJ13_bitCount_95d88_23 : decode cJ13_bitCount_95d88 23 = .ok (.lstore_n 0, 1) := by decide +kernel
theorem dJ13_bitCount_95d88_24 : decode cJ13_bitCount_95d88 24 = .ok (.lload_n 0, 1) := by decide +kernel
theorem dJ13_bitCount_95d88_25 : decode cJ13_bitCount_95d88 25 = .ok (.lload_n 0, 1) := by decide +kernel
theorem dJ13_bitCount_95d88_26 : decode cJ13_bitCount_95d88 26 = .ok (.iconst 4, 1) := by decide +kernel
theorem dJ13_bitCount_95d88_27 : decode cJ13_bitCount_95d88 27 = .ok (.lushr, 1) := by decide +kernel
theorem dJ13_bitCount_95d88_28 : decode cJ13_bitCount_95d88 28 = .ok (.ladd, 1) := by decide +kernel
theorem dJ13_bitCount_95d88_29 : decode cJ13_bitCount_95d88 29 = .ok (.ldc2_w 318, 3) := by decide +kernel
theorem dJ13_bitCount_95d88_32 : decode cJ13_bitCount_95d88 32 = .ok (.land, 1) := by decide +kernel
theorem dJ13_bitCount_95d88_33 : decode cJ13_bitCount_95d88 33 = .ok (.lstore_n 0, 1) := by decide +kernel
theorem dJ13_bitCount_95d88_34 : decode cJ13_bitCount_95d88 34 = .ok (.lload_n 0, 1) := by decide +kernel
theorem dJ13_bitCount_95d88_35 : decode cJ13_bitCount_95d88 35 = .ok (.lload_n 0, 1) := by decide +kernel
theorem dJ13_bitCount_95d88_36 : decode cJ13_bitCount_95d88 36 = .ok (.bipush 8, 2) := by decide +kernel
theorem dJ13_bitCount_95d88_38 : decode cJ13_bitCount_95d88 38 = .ok (.lushr, 1) := by decide +kernel
theorem dJ13_bitCount_95d88_39 : decode cJ13_bitCount_95d88 39 = .ok (.ladd, 1) := by decide +kernel
theorem dJ13_bitCount_95d88_40 : decode cJ13_bitCount_95d88 40 = .ok (.lstore_n 0, 1) := by decide +kernel
theorem dJ13_bitCount_95d88_41 : decode cJ13_bitCount_95d88 41 = .ok (.lload_n 0, 1) := by decide +kernel
theorem dJ13_bitCount_95d88_42 : decode cJ13_bitCount_95d88 42 = .ok (.lload_n 0, 1) := by decide +kernel
theorem dJ13_bitCount_95d88_43 : decode cJ13_bitCount_95d88 43 = .ok (.bipush 16, 2) := by decide +kernel
theorem dJ13_bitCount_95d88_45 : decode cJ13_bitCount_95d88 45 = .ok (.lushr, 1) := by decide +kernel
theorem dJ13_bitCount_95d88_46 : decode cJ13_bitCount_95d88 46 = .ok (.ladd, 1) := by decide +kernel
theorem dJ13_bitCount_95d88_47 : decode cJ13_bitCount_95d88 47 = .ok (.lstore_n 0, 1) := by decide +kernel
theorem dJ13_bitCount_95d88_48 : decode cJ13_bitCount_95d88 48 = .ok (.lload_n 0, 1) := by decide +kernel
theorem dJ13_bitCount_95d88_49 : decode cJ13_bitCount_95d88 49 = .ok (.lload_n 0, 1) := by decide +kernel
theorem dJ13_bitCount_95d88_50 : decode cJ13_bitCount_95d88 50 = .ok (.bipush 32, 2) := by decide +kernel
theorem dJ13_bitCount_95d88_52 : decode cJ13_bitCount_95d88 52 = .ok (.lushr, 1) := by decide +kernel
theorem dJ13_bitCount_95d88_53 : decode cJ13_bitCount_95d88 53 = .ok (.ladd, 1) := by decide +kernel
theorem dJ13_bitCount_95d88_54 : decode cJ13_bitCount_95d88 54 = .ok (.lstore_n 0, 1) := by decide +kernel
theorem dJ13_bitCount_95d88_55 : decode cJ13_bitCount_95d88 55 = .ok (.lload_n 0, 1) := by decide +kernel
theorem dJ13_bitCount_95d88_56 : decode cJ13_bitCount_95d88 56 = .ok (.l2i, 1) := by decide +kernel
theorem dJ13_bitCount_95d88_57 : decode cJ13_bitCount_95d88 57 = .ok (.bipush 127, 2) := by decide +kernel
theorem dJ13_bitCount_95d88_59 : decode cJ13_bitCount_95d88 59 = .ok (.iand, 1) := by decide +kernel
theorem dJ13_bitCount_95d88_60 : decode cJ13_bitCount_95d88 60 = .ok (.ireturn, 1) := by decide +kernel
theorem dJ9_abs_0f7a4_0 : decode cJ9_abs_0f7a4 0 = .ok (.iload_n 0, 1) := by decide +kernel
theorem dJ9_abs_0f7a4_1 : decode cJ9_abs_0f7a4 1 = .ok (.ifCond .ge 8, 3) := by decide +kernel
theorem dJ9_abs_0f7a4_4 : decode cJ9_abs_0f7a4 4 = .ok (.iload_n 0, 1) := by decide +kernel
theorem dJ9_abs_0f7a4_5 : decode cJ9_abs_0f7a4 5 = .ok (.ineg, 1) := by decide +kernel
theorem dJ9_abs_0f7a4_6 : decode cJ9_abs_0f7a4 6 = .ok (.goto 4, 3) := by decide +kernel
theorem dJ9_abs_0f7a4_9 : decode cJ9_abs_0f7a4 9 = .ok (.iload_n 0, 1) := by decide +kernel
theorem dJ9_abs_0f7a4_10 : decode cJ9_abs_0f7a4 10 = .ok (.ireturn, 1) := by decide +kernel
theorem dJ9_max_7cf53_0 : decode cJ9_max_7cf53 0 = .ok (.iload_n 0, 1) := by decide +kernel
theorem dJ9_max_7cf53_1 : decode cJ9_max_7cf53 1 = .ok (.iload_n 1, 1) := by decide +kernel
theorem dJ9_max_7cf53_2 : decode cJ9_max_7cf53 2 = .ok (.if_icmp .lt 7, 3) := by decide +kernel
theorem dJ9_max_7cf53_5 : decode cJ9_max_7cf53 5 = .ok (.iload_n 0, 1) := by decide +kernel
theorem dJ9_max_7cf53_6 : decode cJ9_max_7cf53 6 = .ok (.goto 4, 3) := by decide +kernel
theorem dJ9_max_7cf53_9 : decode cJ9_max_7cf53 9 = .ok (.iload_n 1, 1) := by decide +kernel
theorem dJ9_max_7cf53_10 : decode cJ9_max_7cf53 10 = .ok (.ireturn, 1) := by decide +kernel
theorem dJ9_min_7cf53_0 : decode cJ9_min_7cf53 0 = .ok (.iload_n 0, 1) := by decide +kernel
theorem dJ9_min_7cf53_1 : decode cJ9_min_7cf53 1 = .ok (.iload_n 1, 1) := by decide +kernel
theorem dJ9_min_7cf53_2 : decode cJ9_min_7cf53 2 = .ok (.if_icmp .gt 7, 3) := by decide +kernel
theorem dJ9_min_7cf53_5 : decode cJ9_min_7cf53 5 = .ok (.iload_n 0, 1) := by decide +kernel
theorem dJ9_min_7cf53_6 : decode cJ9_min_7cf53 6 = .ok (.goto 4, 3) := by decide +kernel
theorem dJ9_min_7cf53_9 : decode cJ9_min_7cf53 9 = .ok (.iload_n 1, 1) := by decide +kernel
theorem dJ9_min_7cf53_10 : decode cJ9_min_7cf53 10 = .ok (.ireturn, 1) := by decide +kernel
theorem dJ0_length_8abf5_0 : decode cJ0_length_8abf5 0 = .ok (.aload_n 0, 1) := by decide +kernel
theorem dJ0_length_8abf5_1 : decode cJ0_length_8abf5 1 = .ok (.getfield 9, 3) := by decide +kernel
theorem dJ0_length_8abf5_4 : decode cJ0_length_8abf5 4 = .ok (.arraylength, 1) := by decide +kernel
theorem dJ0_length_8abf5_5 : decode cJ0_length_8abf5 5 = .ok (.aload_n 0, 1) := by decide +kernel
theorem dJ0_length_8abf5_6 : decode cJ0_length_8abf5 6 = .ok (.invokevirtual 335, 3) := by decide +kernel
theorem dJ0_length_8abf5_9 : decode cJ0_length_8abf5 9 = .ok (.ishr, 1) := by decide +kernel
theorem dJ0_length_8abf5_10 : decode cJ0_length_8abf5 10 = .ok (.ireturn, 1) := by decide +kernel
theorem dJ0_charAt_5068e_0 : decode cJ0_charAt_5068e 0 = .ok (.aload_n 0, 1) := by decide +kernel
theorem dJ0_charAt_5068e_1 : decode cJ0_charAt_5068e 1 = .ok (.invokevirtual 492, 3) := by decide +kernel
theorem dJ0_charAt_5068e_4 : decode cJ0_charAt_5068e 4 = .ok (.ifCond .eq 12, 3) := by decide +kernel
theorem dJ0_charAt_5068e_7 : decode cJ0_charAt_5068e 7 = .ok (.aload_n 0, 1) := by decide +kernel
theorem dJ0_charAt_5068e_8 : decode cJ0_charAt_5068e 8 = .ok (.getfield 9, 3) := by decide +kernel
theorem dJ0_charAt_5068e_11 : decode cJ0_charAt_5068e 11 = .ok (.iload_n 1, 1) := by decide +kernel
theorem dJ0_charAt_5068e_12 : decode cJ0_charAt_5068e 12 = .ok (.invokestatic 495, 3) := by decide +kernel
theorem dJ0_charAt_5068e_15 : decode cJ0_charAt_5068e 15 = .ok (.ireturn, 1) := by decide +kernel
theorem dJ0_charAt_5068e_16 : decode cJ0_charAt_5068e 16 = .ok (.aload_n 0, 1) := by decide +kernel
theorem dJ0_charAt_5068e_17 : decode cJ0_charAt_5068e 17 = .ok (.getfield 9, 3) := by decide +kernel
theorem dJ0_charAt_5068e_20 : decode cJ0_charAt_5068e 20 = .ok (.iload_n 1, 1) := by decide +kernel
theorem dJ0_charAt_5068e_21 : decode cJ0_charAt_5068e 21 = .ok (.invokestatic 498, 3) := by decide +kernel
theorem dJ0_charAt_5068e_24 : decode cJ0_charAt_5068e 24 = .ok (.ireturn, 1) := by decide +kernel
theorem dJ0_coder_7d493_0 : decode cJ0_coder_7d493 0 = .ok (.getstatic 38, 3) := by decide +kernel
theorem dJ0_coder_7d493_3 : decode cJ0_coder_7d493 3 = .ok (.ifCond .eq 10, 3) := by decide +kernel
theorem dJ0_coder_7d493_6 : decode cJ0_coder_7d493 6 = .ok (.aload_n 0, 1) := by decide +kernel
theorem dJ0_coder_7d493_7 : decode cJ0_coder_7d493 7 = .ok (.getfield 15, 3) := by decide +kernel
theorem dJ0_coder_7d493_10 : decode cJ0_coder_7d493 10 = .ok (.goto 4, 3) := by decide +kernel
theorem dJ0_coder_7d493_13 : decode cJ0_coder_7d493 13 = .ok (.iconst 1, 1) := by decide +kernel
theorem dJ0_coder_7d493_14 : decode cJ0_coder_7d493 14 = .ok (.ireturn, 1) := by decide +kernel
theorem dJ0_isLatin1_aae02_0 : decode cJ0_isLatin1_aae02 0 = .ok (.getstatic 38, 3) := by decide +kernel
theorem dJ0_isLatin1_aae02_3 : decode cJ0_isLatin1_aae02 3 = .ok (.ifCond .eq 14, 3) := by decide +kernel
theorem dJ0_isLatin1_aae02_6 : decode cJ0_isLatin1_aae02 6 = .ok (.aload_n 0, 1) := by decide +kernel
theorem dJ0_isLatin1_aae02_7 : decode cJ0_isLatin1_aae02 7 = .ok (.getfield 15, 3) := by decide +kernel
theorem dJ0_isLatin1_aae02_10 : decode cJ0_isLatin1_aae02 10 = .ok (.ifCond .ne 7, 3) := by decide +kernel
theorem dJ0_isLatin1_aae02_13 : decode cJ0_isLatin1_aae02 13 = .ok (.iconst 1, 1) := by decide +kernel
theorem dJ0_isLatin1_aae02_14 : decode cJ0_isLatin1_aae02 14 = .ok (.goto 4, 3) := by decide +kernel
theorem dJ0_isLatin1_aae02_17 : decode cJ0_isLatin1_aae02 17 = .ok (.iconst 0, 1) := by decide +kernel
theorem dJ0_isLatin1_aae02_18 : decode cJ0_isLatin1_aae02 18 = .ok (.ireturn, 1) := by decide +kernel
theorem dJ0_checkIndex_df160_0 : decode cJ0_checkIndex_df160 0 = .ok (.iload_n 0, 1) := by decide +kernel
theorem dJ0_checkIndex_df160_1 : decode cJ0_checkIndex_df160 1 = .ok (.iload_n 1, 1) := by decide +kernel
theorem dJ0_checkIndex_df160_2 : decode cJ0_checkIndex_df160 2 = .ok (.getstatic 1053, 3) := by decide +kernel
theorem dJ0_checkIndex_df160_5 : decode cJ0_checkIndex_df160 5 = .ok (.invokestatic 1059, 3) := by decide +kernel
theorem dJ0_checkIndex_df160_8 : decode cJ0_checkIndex_df160 8 = .ok (.pop, 1) := by decide +kernel
theorem dJ0_checkIndex_df160_9 : decode cJ0_checkIndex_df160 9 = .ok (.return_, 1) := by decide +kernel
theorem dJ1_charAt_3b067_0 : decode cJ1_charAt_3b067 0 = .ok (.iload_n 1, 1) := by decide +kernel
theorem dJ1_charAt_3b067_1 : decode cJ1_charAt_3b067 1 = .ok (.aload_n 0, 1) := by decide +kernel
theorem dJ1_charAt_3b067_2 : decode cJ1_charAt_3b067 2 = .ok (.arraylength, 1) := by decide +kernel
theorem dJ1_charAt_3b067_3 : decode cJ1_charAt_3b067 3 = .ok (.invokestatic 9, 3) := by decide +kernel
theorem dJ1_charAt_3b067_6 : decode cJ1_charAt_3b067 6 = .ok (.aload_n 0, 1) := by decide +kernel
theorem dJ1_charAt_3b067_7 : decode cJ1_charAt_3b067 7 = .ok (.iload_n 1, 1) := by decide +kernel
theorem dJ1_charAt_3b067_8 : decode cJ1_charAt_3b067 8 = .ok (.baload, 1) := by decide +kernel
theorem dJ1_charAt_3b067_9 : decode cJ1_charAt_3b067 9 = .ok (.sipush 255, 3) := by decide +kernel
theorem dJ1_charAt_3b067_12 : decode cJ1_charAt_3b067 12 = .ok (.iand, 1) := by decide +kernel
theorem dJ1_charAt_3b067_13 : decode cJ1_charAt_3b067 13 = .ok (.i2c, 1) := by decide +kernel
theorem dJ1_charAt_3b067_14 : decode cJ1_charAt_3b067 14 = .ok (.ireturn, 1) := by decide +kernel
theorem dJ3_checkIndex_8e157_0 : decode cJ3_checkIndex_8e157 0 = .ok (.iload_n 0, 1) := by decide +kernel
theorem dJ3_checkIndex_8e157_1 : decode cJ3_checkIndex_8e157 1 = .ok (.ifCond .lt 8, 3) := by decide +kernel
theorem dJ3_checkIndex_8e157_4 : decode cJ3_checkIndex_8e157 4 = .ok (.iload_n 0, 1) := by decide +kernel
theorem dJ3_checkIndex_8e157_5 : decode cJ3_checkIndex_8e157 5 = .ok (.iload_n 1, 1) := by decide +kernel
theorem dJ3_checkIndex_8e157_6 : decode cJ3_checkIndex_8e157 6 = .ok (.if_icmp .lt 10, 3) := by decide +kernel
theorem dJ3_checkIndex_8e157_9 : decode cJ3_checkIndex_8e157 9 = .ok (.aload_n 2, 1) := by decide +kernel
theorem dJ3_checkIndex_8e157_10 : decode cJ3_checkIndex_8e157 10 = .ok (.iload_n 0, 1) := by decide +kernel
theorem dJ3_checkIndex_8e157_11 : decode cJ3_checkIndex_8e157 11 = .ok (.iload_n 1, 1) := by decide +kernel
theorem dJ3_checkIndex_8e157_12 : decode cJ3_checkIndex_8e157 12 = .ok (.invokestatic 95, 3) := by decide +kernel
theorem dJ3_checkIndex_8e157_15 : decode cJ3_checkIndex_8e157 15 = .ok (.athrow, 1) := by decide +kernel
theorem dJ3_checkIndex_8e157_16 : decode cJ3_checkIndex_8e157 16 = .ok (.iload_n 0, 1) := by decide +kernel
theorem dJ3_checkIndex_8e157_17 : decode cJ3_checkIndex_8e157 17 = .ok (.ireturn, 1) := by decide +kernel
theorem dL_law_0 : decode cL_law 0 = .ok (.new 7, 3) := by decide +kernel
theorem dL_law_3 : decode cL_law 3 = .ok (.dup, 1) := by decide +kernel
theorem dL_law_4 : decode cL_law 4 = .ok (.invokespecial 9, 3) := by decide +kernel
theorem dL_law_7 : decode cL_law 7 = .ok (.astore_n 1, 1) := by decide +kernel
theorem dL_law_8 : decode cL_law 8 = .ok (.new 10, 3) := by decide +kernel
theorem dL_law_11 : decode cL_law 11 = .ok (.dup, 1) := by decide +kernel
theorem dL_law_12 : decode cL_law 12 = .ok (.invokespecial 12, 3) := by decide +kernel
theorem dL_law_15 : decode cL_law 15 = .ok (.astore_n 2, 1) := by decide +kernel
theorem dL_law_16 : decode cL_law 16 = .ok (.iconst 0, 1) := by decide +kernel
theorem dL_law_17 : decode cL_law 17 = .ok (.istore_n 3, 1) := by decide +kernel
theorem dL_law_18 : decode cL_law 18 = .ok (.iload_n 3, 1) := by decide +kernel
theorem dL_law_19 : decode cL_law 19 = .ok (.aload_n 0, 1) := by decide +kernel
theorem dL_law_20 : decode cL_law 20 = .ok (.arraylength, 1) := by decide +kernel
theorem dL_law_21 : decode cL_law 21 = .ok (.bipush 6, 2) := by decide +kernel
theorem dL_law_23 : decode cL_law 23 = .ok (.isub, 1) := by decide +kernel
theorem dL_law_24 : decode cL_law 24 = .ok (.if_icmp .gt 1246, 3) := by decide +kernel
theorem dL_law_27 : decode cL_law 27 = .ok (.aload_n 0, 1) := by decide +kernel
theorem dL_law_28 : decode cL_law 28 = .ok (.iload_n 3, 1) := by decide +kernel
theorem dL_law_29 : decode cL_law 29 = .ok (.iaload, 1) := by decide +kernel
theorem dL_law_30 : decode cL_law 30 = .ok (.bipush 63, 2) := by decide +kernel
theorem dL_law_32 : decode cL_law 32 = .ok (.iand, 1) := by decide +kernel
theorem dL_law_33 : decode cL_law 33 = .ok (.tableswitch 1231 0 38 #[171, 214, 247, 280, 293, 306, 339, 352, 365, 378, 411, 434, 447, 470, 493, 516, 549, 572, 585, 608, 631, 654, 677, 710, 743, 776, 810, 834, 867, 890, 923, 936, 969, 982, 995, 1018, 1061, 1134, 1168], 171) := by decide +kernel
theorem dL_law_204 : decode cL_law 204 = .ok (.aload_n 1, 1) := by decide +kernel
theorem dL_law_205 : decode cL_law 205 = .ok (.aload_n 0, 1) := by decide +kernel
theorem dL_law_206 : decode cL_law 206 = .ok (.iload_n 3, 1) := by decide +kernel
theorem dL_law_207 : decode cL_law 207 = .ok (.iconst 1, 1) := by decide +kernel
theorem dL_law_208 : decode cL_law 208 = .ok (.iadd, 1) := by decide +kernel
theorem dL_law_209 : decode cL_law 209 = .ok (.iaload, 1) := by decide +kernel
theorem dL_law_210 : decode cL_law 210 = .ok (.aload_n 0, 1) := by decide +kernel
theorem dL_law_211 : decode cL_law 211 = .ok (.iload_n 3, 1) := by decide +kernel
theorem dL_law_212 : decode cL_law 212 = .ok (.iconst 2, 1) := by decide +kernel
theorem dL_law_213 : decode cL_law 213 = .ok (.iadd, 1) := by decide +kernel
theorem dL_law_214 : decode cL_law 214 = .ok (.iaload, 1) := by decide +kernel
theorem dL_law_215 : decode cL_law 215 = .ok (.aload_n 0, 1) := by decide +kernel
theorem dL_law_216 : decode cL_law 216 = .ok (.iload_n 3, 1) := by decide +kernel
theorem dL_law_217 : decode cL_law 217 = .ok (.iconst 3, 1) := by decide +kernel
theorem dL_law_218 : decode cL_law 218 = .ok (.iadd, 1) := by decide +kernel
theorem dL_law_219 : decode cL_law 219 = .ok (.iaload, 1) := by decide +kernel
theorem dL_law_220 : decode cL_law 220 = .ok (.invokevirtual 13, 3) := by decide +kernel
theorem dL_law_223 : decode cL_law 223 = .ok (.aload_n 2, 1) := by decide +kernel
theorem dL_law_224 : decode cL_law 224 = .ok (.aload_n 0, 1) := by decide +kernel
theorem dL_law_225 : decode cL_law 225 = .ok (.iload_n 3, 1) := by decide +kernel
theorem dL_law_226 : decode cL_law 226 = .ok (.iconst 1, 1) := by decide +kernel
theorem dL_law_227 : decode cL_law 227 = .ok (.iadd, 1) := by decide +kernel
theorem dL_law_228 : decode cL_law 228 = .ok (.iaload, 1) := by decide +kernel
theorem dL_law_229 : decode cL_law 229 = .ok (.aload_n 0, 1) := by decide +kernel
theorem dL_law_230 : decode cL_law 230 = .ok (.iload_n 3, 1) := by decide +kernel
theorem dL_law_231 : decode cL_law 231 = .ok (.iconst 2, 1) := by decide +kernel
theorem dL_law_232 : decode cL_law 232 = .ok (.iadd, 1) := by decide +kernel
theorem dL_law_233 : decode cL_law 233 = .ok (.iaload, 1) := by decide +kernel
theorem dL_law_234 : decode cL_law 234 = .ok (.aload_n 0, 1) := by decide +kernel
theorem dL_law_235 : decode cL_law 235 = .ok (.iload_n 3, 1) := by decide +kernel
theorem dL_law_236 : decode cL_law 236 = .ok (.iconst 3, 1) := by decide +kernel
theorem dL_law_237 : decode cL_law 237 = .ok (.iadd, 1) := by decide +kernel
theorem dL_law_238 : decode cL_law 238 = .ok (.iaload, 1) := by decide +kernel
theorem dL_law_239 : decode cL_law 239 = .ok (.invokevirtual 17, 3) := by decide +kernel
theorem dL_law_242 : decode cL_law 242 = .ok (.if_icmp .eq 1022, 3) := by decide +kernel
theorem dL_law_245 : decode cL_law 245 = .ok (.iconst 0, 1) := by decide +kernel
theorem dL_law_246 : decode cL_law 246 = .ok (.ireturn, 1) := by decide +kernel
theorem dL_law_247 : decode cL_law 247 = .ok (.aload_n 1, 1) := by decide +kernel
theorem dL_law_248 : decode cL_law 248 = .ok (.aload_n 0, 1) := by decide +kernel
theorem dL_law_249 : decode cL_law 249 = .ok (.iload_n 3, 1) := by decide +kernel
theorem dL_law_250 : decode cL_law 250 = .ok (.iconst 1, 1) := by decide +kernel
theorem dL_law_251 : decode cL_law 251 = .ok (.iadd, 1) := by decide +kernel
theorem dL_law_252 : decode cL_law 252 = .ok (.iaload, 1) := by decide +kernel
theorem dL_law_253 : decode cL_law 253 = .ok (.aload_n 0, 1) := by decide +kernel
theorem dL_law_254 : decode cL_law 254 = .ok (.iload_n 3, 1) := by decide +kernel
theorem dL_law_255 : decode cL_law 255 = .ok (.iconst 2, 1) := by decide +kernel
theorem dL_law_256 : decode cL_law 256 = .ok (.iadd, 1) := by decide +kernel
theorem dL_law_257 : decode cL_law 257 = .ok (.iaload, 1) := by decide +kernel
theorem dL_law_258 : decode cL_law 258 = .ok (.invokevirtual 18, 3) := by decide +kernel
theorem dL_law_261 : decode cL_law 261 = .ok (.aload_n 2, 1) := by decide +kernel
theorem dL_law_262 : decode cL_law 262 = .ok (.aload_n 0, 1) := by decide +kernel
theorem dL_law_263 : decode cL_law 263 = .ok (.iload_n 3, 1) := by decide +kernel
theorem dL_law_264 : decode cL_law 264 = .ok (.iconst 1, 1) := by decide +kernel
theorem dL_law_265 : decode cL_law 265 = .ok (.iadd, 1) := by decide +kernel
theorem dL_law_266 : decode cL_law 266 = .ok (.iaload, 1) := by decide +kernel
theorem dL_law_267 : decode cL_law 267 = .ok (.aload_n 0, 1) := by decide +kernel
theorem dL_law_268 : decode cL_law 268 = .ok (.iload_n 3, 1) := by decide +kernel
theorem dL_law_269 : decode cL_law 269 = .ok (.iconst 2, 1) := by decide +kernel
theorem dL_law_270 : decode cL_law 270 = .ok (.iadd, 1) := by decide +kernel
theorem dL_law_271 : decode cL_law 271 = .ok (.iaload, 1) := by decide +kernel
theorem dL_law_272 : decode cL_law 272 = .ok (.invokevirtual 22, 3) := by decide +kernel
theorem dL_law_275 : decode cL_law 275 = .ok (.if_icmp .eq 989, 3) := by decide +kernel
theorem dL_law_278 : decode cL_law 278 = .ok (.iconst 0, 1) := by decide +kernel
theorem dL_law_279 : decode cL_law 279 = .ok (.ireturn, 1) := by decide +kernel
theorem dL_law_280 : decode cL_law 280 = .ok (.aload_n 1, 1) := by decide +kernel
theorem dL_law_281 : decode cL_law 281 = .ok (.aload_n 0, 1) := by decide +kernel
theorem dL_law_282 : decode cL_law 282 = .ok (.iload_n 3, 1) := by decide +kernel
theorem dL_law_283 : decode cL_law 283 = .ok (.iconst 1, 1) := by decide +kernel
theorem dL_law_284 : decode cL_law 284 = .ok (.iadd, 1) := by decide +kernel
theorem dL_law_285 : decode cL_law 285 = .ok (.iaload, 1) := by decide +kernel
theorem dL_law_286 : decode cL_law 286 = .ok (.aload_n 0, 1) := by decide +kernel
theorem dL_law_287 : decode cL_law 287 = .ok (.iload_n 3, 1) := by decide +kernel
theorem dL_law_288 : decode cL_law 288 = .ok (.iconst 2, 1) := by decide +kernel
theorem dL_law_289 : decode cL_law 289 = .ok (.iadd, 1) := by decide +kernel
theorem dL_law_290 : decode cL_law 290 = .ok (.iaload, 1) := by decide +kernel
theorem dL_law_291 : decode cL_law 291 = .ok (.invokevirtual 23, 3) := by decide +kernel
theorem dL_law_294 : decode cL_law 294 = .ok (.aload_n 2, 1) := by decide +kernel
theorem dL_law_295 : decode cL_law 295 = .ok (.aload_n 0, 1) := by decide +kernel
theorem dL_law_296 : decode cL_law 296 = .ok (.iload_n 3, 1) := by decide +kernel
theorem dL_law_297 : decode cL_law 297 = .ok (.iconst 1, 1) := by decide +kernel
theorem dL_law_298 : decode cL_law 298 = .ok (.iadd, 1) := by decide +kernel
theorem dL_law_299 : decode cL_law 299 = .ok (.iaload, 1) := by decide +kernel
theorem dL_law_300 : decode cL_law 300 = .ok (.aload_n 0, 1) := by decide +kernel
theorem dL_law_301 : decode cL_law 301 = .ok (.iload_n 3, 1) := by decide +kernel
theorem dL_law_302 : decode cL_law 302 = .ok (.iconst 2, 1) := by decide +kernel
theorem dL_law_303 : decode cL_law 303 = .ok (.iadd, 1) := by decide +kernel
theorem dL_law_304 : decode cL_law 304 = .ok (.iaload, 1) := by decide +kernel
theorem dL_law_305 : decode cL_law 305 = .ok (.invokevirtual 26, 3) := by decide +kernel
theorem dL_law_308 : decode cL_law 308 = .ok (.if_icmp .eq 956, 3) := by decide +kernel
theorem dL_law_311 : decode cL_law 311 = .ok (.iconst 0, 1) := by decide +kernel
theorem dL_law_312 : decode cL_law 312 = .ok (.ireturn, 1) := by decide +kernel
theorem dL_law_313 : decode cL_law 313 = .ok (.aload_n 1, 1) := by decide +kernel
theorem dL_law_314 : decode cL_law 314 = .ok (.invokevirtual 27, 3) := by decide +kernel
theorem dL_law_317 : decode cL_law 317 = .ok (.aload_n 2, 1) := by decide +kernel
theorem dL_law_318 : decode cL_law 318 = .ok (.invokevirtual 31, 3) := by decide +kernel
theorem dL_law_321 : decode cL_law 321 = .ok (.if_icmp .eq 943, 3) := by decide +kernel
theorem dL_law_324 : decode cL_law 324 = .ok (.iconst 0, 1) := by decide +kernel
theorem dL_law_325 : decode cL_law 325 = .ok (.ireturn, 1) := by decide +kernel
theorem dL_law_326 : decode cL_law 326 = .ok (.aload_n 1, 1) := by decide +kernel
theorem dL_law_327 : decode cL_law 327 = .ok (.invokevirtual 32, 3) := by decide +kernel
theorem dL_law_330 : decode cL_law 330 = .ok (.aload_n 2, 1) := by decide +kernel
theorem dL_law_331 : decode cL_law 331 = .ok (.invokevirtual 35, 3) := by decide +kernel
theorem dL_law_334 : decode cL_law 334 = .ok (.if_icmp .eq 930, 3) := by decide +kernel
theorem dL_law_337 : decode cL_law 337 = .ok (.iconst 0, 1) := by decide +kernel
theorem dL_law_338 : decode cL_law 338 = .ok (.ireturn, 1) := by decide +kernel
theorem dL_law_339 : decode cL_law 339 = .ok (.aload_n 1, 1) := by decide +kernel
theorem dL_law_340 : decode cL_law 340 = .ok (.aload_n 0, 1) := by decide +kernel
theorem dL_law_341 : decode cL_law 341 = .ok (.iload_n 3, 1) := by decide +kernel
theorem dL_law_342 : decode cL_law 342 = .ok (.iconst 1, 1) := by decide +kernel
theorem dL_law_343 : decode cL_law 343 = .ok (.iadd, 1) := by decide +kernel
theorem dL_law_344 : decode cL_law 344 = .ok (.iaload, 1) := by decide +kernel
theorem dL_law_345 : decode cL_law 345 = .ok (.aload_n 0, 1) := by decide +kernel
theorem dL_law_346 : decode cL_law 346 = .ok (.iload_n 3, 1) := by decide +kernel
theorem dL_law_347 : decode cL_law 347 = .ok (.iconst 2, 1) := by decide +kernel
theorem dL_law_348 : decode cL_law 348 = .ok (.iadd, 1) := by decide +kernel
theorem dL_law_349 : decode cL_law 349 = .ok (.iaload, 1) := by decide +kernel
theorem dL_law_350 : decode cL_law 350 = .ok (.invokevirtual 36, 3) := by decide +kernel
theorem dL_law_353 : decode cL_law 353 = .ok (.aload_n 2, 1) := by decide +kernel
theorem dL_law_354 : decode cL_law 354 = .ok (.aload_n 0, 1) := by decide +kernel
theorem dL_law_355 : decode cL_law 355 = .ok (.iload_n 3, 1) := by decide +kernel
theorem dL_law_356 : decode cL_law 356 = .ok (.iconst 1, 1) := by decide +kernel
theorem dL_law_357 : decode cL_law 357 = .ok (.iadd, 1) := by decide +kernel
theorem dL_law_358 : decode cL_law 358 = .ok (.iaload, 1) := by decide +kernel
theorem dL_law_359 : decode cL_law 359 = .ok (.aload_n 0, 1) := by decide +kernel
theorem dL_law_360 : decode cL_law 360 = .ok (.iload_n 3, 1) := by decide +kernel
theorem dL_law_361 : decode cL_law 361 = .ok (.iconst 2, 1) := by decide +kernel
theorem dL_law_362 : decode cL_law 362 = .ok (.iadd, 1) := by decide +kernel
theorem dL_law_363 : decode cL_law 363 = .ok (.iaload, 1) := by decide +kernel
theorem dL_law_364 : decode cL_law 364 = .ok (.invokevirtual 39, 3) := by decide +kernel
theorem dL_law_367 : decode cL_law 367 = .ok (.if_icmp .eq 897, 3) := by decide +kernel
theorem dL_law_370 : decode cL_law 370 = .ok (.iconst 0, 1) := by decide +kernel
theorem dL_law_371 : decode cL_law 371 = .ok (.ireturn, 1) := by decide +kernel
theorem dL_law_372 : decode cL_law 372 = .ok (.aload_n 1, 1) := by decide +kernel
theorem dL_law_373 : decode cL_law 373 = .ok (.invokevirtual 40, 3) := by decide +kernel
theorem dL_law_376 : decode cL_law 376 = .ok (.aload_n 2, 1) := by decide +kernel
theorem dL_law_377 : decode cL_law 377 = .ok (.invokevirtual 43, 3) := by decide +kernel
theorem dL_law_380 : decode cL_law 380 = .ok (.if_icmp .eq 884, 3) := by decide +kernel
theorem dL_law_383 : decode cL_law 383 = .ok (.iconst 0, 1) := by decide +kernel
theorem dL_law_384 : decode cL_law 384 = .ok (.ireturn, 1) := by decide +kernel
theorem dL_law_385 : decode cL_law 385 = .ok (.aload_n 1, 1) := by decide +kernel
theorem dL_law_386 : decode cL_law 386 = .ok (.invokevirtual 44, 3) := by decide +kernel
theorem dL_law_389 : decode cL_law 389 = .ok (.aload_n 2, 1) := by decide +kernel
theorem dL_law_390 : decode cL_law 390 = .ok (.invokevirtual 47, 3) := by decide +kernel
theorem dL_law_393 : decode cL_law 393 = .ok (.if_icmp .eq 871, 3) := by decide +kernel
theorem dL_law_396 : decode cL_law 396 = .ok (.iconst 0, 1) := by decide +kernel
theorem dL_law_397 : decode cL_law 397 = .ok (.ireturn, 1) := by decide +kernel
theorem dL_law_398 : decode cL_law 398 = .ok (.aload_n 1, 1) := by decide +kernel
theorem dL_law_399 : decode cL_law 399 = .ok (.invokevirtual 48, 3) := by decide +kernel
theorem dL_law_402 : decode cL_law 402 = .ok (.aload_n 2, 1) := by decide +kernel
theorem dL_law_403 : decode cL_law 403 = .ok (.invokevirtual 51, 3) := by decide +kernel
theorem dL_law_406 : decode cL_law 406 = .ok (.if_icmp .eq 858, 3) := by decide +kernel
theorem dL_law_409 : decode cL_law 409 = .ok (.iconst 0, 1) := by decide +kernel
theorem dL_law_410 : decode cL_law 410 = .ok (.ireturn, 1) := by decide +kernel
theorem dL_law_411 : decode cL_law 411 = .ok (.aload_n 1, 1) := by decide +kernel
theorem dL_law_412 : decode cL_law 412 = .ok (.aload_n 0, 1) := by decide +kernel
theorem dL_law_413 : decode cL_law 413 = .ok (.iload_n 3, 1) := by decide +kernel
theorem dL_law_414 : decode cL_law 414 = .ok (.iconst 1, 1) := by decide +kernel
theorem dL_law_415 : decode cL_law 415 = .ok (.iadd, 1) := by decide +kernel
theorem dL_law_416 : decode cL_law 416 = .ok (.iaload, 1) := by decide +kernel
theorem dL_law_417 : decode cL_law 417 = .ok (.aload_n 0, 1) := by decide +kernel
theorem dL_law_418 : decode cL_law 418 = .ok (.iload_n 3, 1) := by decide +kernel
theorem dL_law_419 : decode cL_law 419 = .ok (.iconst 2, 1) := by decide +kernel
theorem dL_law_420 : decode cL_law 420 = .ok (.iadd, 1) := by decide +kernel
theorem dL_law_421 : decode cL_law 421 = .ok (.iaload, 1) := by decide +kernel
theorem dL_law_422 : decode cL_law 422 = .ok (.invokevirtual 52, 3) := by decide +kernel
theorem dL_law_425 : decode cL_law 425 = .ok (.aload_n 2, 1) := by decide +kernel
theorem dL_law_426 : decode cL_law 426 = .ok (.aload_n 0, 1) := by decide +kernel
theorem dL_law_427 : decode cL_law 427 = .ok (.iload_n 3, 1) := by decide +kernel
theorem dL_law_428 : decode cL_law 428 = .ok (.iconst 1, 1) := by decide +kernel
theorem dL_law_429 : decode cL_law 429 = .ok (.iadd, 1) := by decide +kernel
theorem dL_law_430 : decode cL_law 430 = .ok (.iaload, 1) := by decide +kernel
theorem dL_law_431 : decode cL_law 431 = .ok (.aload_n 0, 1) := by decide +kernel
theorem dL_law_432 : decode cL_law 432 = .ok (.iload_n 3, 1) := by decide +kernel
theorem dL_law_433 : decode cL_law 433 = .ok (.iconst 2, 1) := by decide +kernel
theorem dL_law_434 : decode cL_law 434 = .ok (.iadd, 1) := by decide +kernel
theorem dL_law_435 : decode cL_law 435 = .ok (.iaload, 1) := by decide +kernel
theorem dL_law_436 : decode cL_law 436 = .ok (.invokevirtual 55, 3) := by decide +kernel
theorem dL_law_439 : decode cL_law 439 = .ok (.if_icmp .eq 825, 3) := by decide +kernel
theorem dL_law_442 : decode cL_law 442 = .ok (.iconst 0, 1) := by decide +kernel
theorem dL_law_443 : decode cL_law 443 = .ok (.ireturn, 1) := by decide +kernel
theorem dL_law_444 : decode cL_law 444 = .ok (.aload_n 1, 1) := by decide +kernel
theorem dL_law_445 : decode cL_law 445 = .ok (.aload_n 0, 1) := by decide +kernel
theorem dL_law_446 : decode cL_law 446 = .ok (.iload_n 3, 1) := by decide +kernel
theorem dL_law_447 : decode cL_law 447 = .ok (.iconst 1, 1) := by decide +kernel
theorem dL_law_448 : decode cL_law 448 = .ok (.iadd, 1) := by decide +kernel
theorem dL_law_449 : decode cL_law 449 = .ok (.iaload, 1) := by decide +kernel
theorem dL_law_450 : decode cL_law 450 = .ok (.invokevirtual 56, 3) := by decide +kernel
theorem dL_law_453 : decode cL_law 453 = .ok (.aload_n 2, 1) := by decide +kernel
theorem dL_law_454 : decode cL_law 454 = .ok (.aload_n 0, 1) := by decide +kernel
theorem dL_law_455 : decode cL_law 455 = .ok (.iload_n 3, 1) := by decide +kernel
theorem dL_law_456 : decode cL_law 456 = .ok (.iconst 1, 1) := by decide +kernel
theorem dL_law_457 : decode cL_law 457 = .ok (.iadd, 1) := by decide +kernel
theorem dL_law_458 : decode cL_law 458 = .ok (.iaload, 1) := by decide +kernel
theorem dL_law_459 : decode cL_law 459 = .ok (.invokevirtual 60, 3) := by decide +kernel
theorem dL_law_462 : decode cL_law 462 = .ok (.if_icmp .eq 802, 3) := by decide +kernel
theorem dL_law_465 : decode cL_law 465 = .ok (.iconst 0, 1) := by decide +kernel
theorem dL_law_466 : decode cL_law 466 = .ok (.ireturn, 1) := by decide +kernel
theorem dL_law_467 : decode cL_law 467 = .ok (.aload_n 1, 1) := by decide +kernel
theorem dL_law_468 : decode cL_law 468 = .ok (.invokevirtual 61, 3) := by decide +kernel
theorem dL_law_471 : decode cL_law 471 = .ok (.aload_n 2, 1) := by decide +kernel
theorem dL_law_472 : decode cL_law 472 = .ok (.invokevirtual 64, 3) := by decide +kernel
theorem dL_law_475 : decode cL_law 475 = .ok (.if_icmp .eq 789, 3) := by decide +kernel
theorem dL_law_478 : decode cL_law 478 = .ok (.iconst 0, 1) := by decide +kernel
theorem dL_law_479 : decode cL_law 479 = .ok (.ireturn, 1) := by decide +kernel
theorem dL_law_480 : decode cL_law 480 = .ok (.aload_n 1, 1) := by decide +kernel
theorem dL_law_481 : decode cL_law 481 = .ok (.aload_n 0, 1) := by decide +kernel
theorem dL_law_482 : decode cL_law 482 = .ok (.iload_n 3, 1) := by decide +kernel
theorem dL_law_483 : decode cL_law 483 = .ok (.iconst 1, 1) := by decide +kernel
theorem dL_law_484 : decode cL_law 484 = .ok (.iadd, 1) := by decide +kernel
theorem dL_law_485 : decode cL_law 485 = .ok (.iaload, 1) := by decide +kernel
theorem dL_law_486 : decode cL_law 486 = .ok (.invokevirtual 65, 3) := by decide +kernel
theorem dL_law_489 : decode cL_law 489 = .ok (.aload_n 2, 1) := by decide +kernel
theorem dL_law_490 : decode cL_law 490 = .ok (.aload_n 0, 1) := by decide +kernel
theorem dL_law_491 : decode cL_law 491 = .ok (.iload_n 3, 1) := by decide +kernel
theorem dL_law_492 : decode cL_law 492 = .ok (.iconst 1, 1) := by decide +kernel
theorem dL_law_493 : decode cL_law 493 = .ok (.iadd, 1) := by decide +kernel
theorem dL_law_494 : decode cL_law 494 = .ok (.iaload, 1) := by decide +kernel
theorem dL_law_495 : decode cL_law 495 = .ok (.invokevirtual 68, 3) := by decide +kernel
theorem dL_law_498 : decode cL_law 498 = .ok (.if_icmp .eq 766, 3) := by decide +kernel
theorem dL_law_501 : decode cL_law 501 = .ok (.iconst 0, 1) := by decide +kernel
theorem dL_law_502 : decode cL_law 502 = .ok (.ireturn, 1) := by decide +kernel
theorem dL_law_503 : decode cL_law 503 = .ok (.aload_n 1, 1) := by decide +kernel
theorem dL_law_504 : decode cL_law 504 = .ok (.aload_n 0, 1) := by decide +kernel
theorem dL_law_505 : decode cL_law 505 = .ok (.iload_n 3, 1) := by decide +kernel
theorem dL_law_506 : decode cL_law 506 = .ok (.iconst 1, 1) := by decide +kernel
theorem dL_law_507 : decode cL_law 507 = .ok (.iadd, 1) := by decide +kernel
theorem dL_law_508 : decode cL_law 508 = .ok (.iaload, 1) := by decide +kernel
theorem dL_law_509 : decode cL_law 509 = .ok (.invokevirtual 69, 3) := by decide +kernel
theorem dL_law_512 : decode cL_law 512 = .ok (.aload_n 2, 1) := by decide +kernel
theorem dL_law_513 : decode cL_law 513 = .ok (.aload_n 0, 1) := by decide +kernel
theorem dL_law_514 : decode cL_law 514 = .ok (.iload_n 3, 1) := by decide +kernel
theorem dL_law_515 : decode cL_law 515 = .ok (.iconst 1, 1) := by decide +kernel
theorem dL_law_516 : decode cL_law 516 = .ok (.iadd, 1) := by decide +kernel
theorem dL_law_517 : decode cL_law 517 = .ok (.iaload, 1) := by decide +kernel
theorem dL_law_518 : decode cL_law 518 = .ok (.invokevirtual 72, 3) := by decide +kernel
theorem dL_law_521 : decode cL_law 521 = .ok (.if_icmp .eq 743, 3) := by decide +kernel
theorem dL_law_524 : decode cL_law 524 = .ok (.iconst 0, 1) := by decide +kernel
theorem dL_law_525 : decode cL_law 525 = .ok (.ireturn, 1) := by decide +kernel
theorem dL_law_526 : decode cL_law 526 = .ok (.aload_n 1, 1) := by decide +kernel
theorem dL_law_527 : decode cL_law 527 = .ok (.aload_n 0, 1) := by decide +kernel
theorem dL_law_528 : decode cL_law 528 = .ok (.iload_n 3, 1) := by decide +kernel
theorem dL_law_529 : decode cL_law 529 = .ok (.iconst 1, 1) := by decide +kernel
theorem dL_law_530 : decode cL_law 530 = .ok (.iadd, 1) := by decide +kernel
theorem dL_law_531 : decode cL_law 531 = .ok (.iaload, 1) := by decide +kernel
theorem dL_law_532 : decode cL_law 532 = .ok (.invokevirtual 73, 3) := by decide +kernel
theorem dL_law_535 : decode cL_law 535 = .ok (.aload_n 2, 1) := by decide +kernel
theorem dL_law_536 : decode cL_law 536 = .ok (.aload_n 0, 1) := by decide +kernel
theorem dL_law_537 : decode cL_law 537 = .ok (.iload_n 3, 1) := by decide +kernel
theorem dL_law_538 : decode cL_law 538 = .ok (.iconst 1, 1) := by decide +kernel
theorem dL_law_539 : decode cL_law 539 = .ok (.iadd, 1) := by decide +kernel
theorem dL_law_540 : decode cL_law 540 = .ok (.iaload, 1) := by decide +kernel
theorem dL_law_541 : decode cL_law 541 = .ok (.invokevirtual 76, 3) := by decide +kernel
theorem dL_law_544 : decode cL_law 544 = .ok (.if_icmp .eq 720, 3) := by decide +kernel
theorem dL_law_547 : decode cL_law 547 = .ok (.iconst 0, 1) := by decide +kernel
theorem dL_law_548 : decode cL_law 548 = .ok (.ireturn, 1) := by decide +kernel
theorem dL_law_549 : decode cL_law 549 = .ok (.aload_n 1, 1) := by decide +kernel
theorem dL_law_550 : decode cL_law 550 = .ok (.aload_n 0, 1) := by decide +kernel
theorem dL_law_551 : decode cL_law 551 = .ok (.iload_n 3, 1) := by decide +kernel
theorem dL_law_552 : decode cL_law 552 = .ok (.iconst 1, 1) := by decide +kernel
theorem dL_law_553 : decode cL_law 553 = .ok (.iadd, 1) := by decide +kernel
theorem dL_law_554 : decode cL_law 554 = .ok (.iaload, 1) := by decide +kernel
theorem dL_law_555 : decode cL_law 555 = .ok (.aload_n 0, 1) := by decide +kernel
theorem dL_law_556 : decode cL_law 556 = .ok (.iload_n 3, 1) := by decide +kernel
theorem dL_law_557 : decode cL_law 557 = .ok (.iconst 2, 1) := by decide +kernel
theorem dL_law_558 : decode cL_law 558 = .ok (.iadd, 1) := by decide +kernel
theorem dL_law_559 : decode cL_law 559 = .ok (.iaload, 1) := by decide +kernel
theorem dL_law_560 : decode cL_law 560 = .ok (.invokevirtual 77, 3) := by decide +kernel
theorem dL_law_563 : decode cL_law 563 = .ok (.aload_n 2, 1) := by decide +kernel
theorem dL_law_564 : decode cL_law 564 = .ok (.aload_n 0, 1) := by decide +kernel
theorem dL_law_565 : decode cL_law 565 = .ok (.iload_n 3, 1) := by decide +kernel
theorem dL_law_566 : decode cL_law 566 = .ok (.iconst 1, 1) := by decide +kernel
theorem dL_law_567 : decode cL_law 567 = .ok (.iadd, 1) := by decide +kernel
theorem dL_law_568 : decode cL_law 568 = .ok (.iaload, 1) := by decide +kernel
theorem dL_law_569 : decode cL_law 569 = .ok (.aload_n 0, 1) := by decide +kernel
theorem dL_law_570 : decode cL_law 570 = .ok (.iload_n 3, 1) := by decide +kernel
theorem dL_law_571 : decode cL_law 571 = .ok (.iconst 2, 1) := by decide +kernel
theorem dL_law_572 : decode cL_law 572 = .ok (.iadd, 1) := by decide +kernel
theorem dL_law_573 : decode cL_law 573 = .ok (.iaload, 1) := by decide +kernel
theorem dL_law_574 : decode cL_law 574 = .ok (.invokevirtual 80, 3) := by decide +kernel
theorem dL_law_577 : decode cL_law 577 = .ok (.if_icmp .eq 687, 3) := by decide +kernel
theorem dL_law_580 : decode cL_law 580 = .ok (.iconst 0, 1) := by decide +kernel
theorem dL_law_581 : decode cL_law 581 = .ok (.ireturn, 1) := by decide +kernel
theorem dL_law_582 : decode cL_law 582 = .ok (.aload_n 1, 1) := by decide +kernel
theorem dL_law_583 : decode cL_law 583 = .ok (.aload_n 0, 1) := by decide +kernel
theorem dL_law_584 : decode cL_law 584 = .ok (.iload_n 3, 1) := by decide +kernel
theorem dL_law_585 : decode cL_law 585 = .ok (.iconst 1, 1) := by decide +kernel
theorem dL_law_586 : decode cL_law 586 = .ok (.iadd, 1) := by decide +kernel
theorem dL_law_587 : decode cL_law 587 = .ok (.iaload, 1) := by decide +kernel
theorem dL_law_588 : decode cL_law 588 = .ok (.invokevirtual 81, 3) := by decide +kernel
theorem dL_law_591 : decode cL_law 591 = .ok (.aload_n 2, 1) := by decide +kernel
theorem dL_law_592 : decode cL_law 592 = .ok (.aload_n 0, 1) := by decide +kernel
theorem dL_law_593 : decode cL_law 593 = .ok (.iload_n 3, 1) := by decide +kernel
theorem dL_law_594 : decode cL_law 594 = .ok (.iconst 1, 1) := by decide +kernel
theorem dL_law_595 : decode cL_law 595 = .ok (.iadd, 1) := by decide +kernel
theorem dL_law_596 : decode cL_law 596 = .ok (.iaload, 1) := by decide +kernel
theorem dL_law_597 : decode cL_law 597 = .ok (.invokevirtual 84, 3) := by decide +kernel
theorem dL_law_600 : decode cL_law 600 = .ok (.if_icmp .eq 664, 3) := by decide +kernel
theorem dL_law_603 : decode cL_law 603 = .ok (.iconst 0, 1) := by decide +kernel
theorem dL_law_604 : decode cL_law 604 = .ok (.ireturn, 1) := by decide +kernel
theorem dL_law_605 : decode cL_law 605 = .ok (.aload_n 1, 1) := by decide +kernel
theorem dL_law_606 : decode cL_law 606 = .ok (.invokevirtual 85, 3) := by decide +kernel
theorem dL_law_609 : decode cL_law 609 = .ok (.aload_n 2, 1) := by decide +kernel
theorem dL_law_610 : decode cL_law 610 = .ok (.invokevirtual 88, 3) := by decide +kernel
theorem dL_law_613 : decode cL_law 613 = .ok (.if_icmp .eq 651, 3) := by decide +kernel
theorem dL_law_616 : decode cL_law 616 = .ok (.iconst 0, 1) := by decide +kernel
theorem dL_law_617 : decode cL_law 617 = .ok (.ireturn, 1) := by decide +kernel
theorem dL_law_618 : decode cL_law 618 = .ok (.aload_n 1, 1) := by decide +kernel
theorem dL_law_619 : decode cL_law 619 = .ok (.aload_n 0, 1) := by decide +kernel
theorem dL_law_620 : decode cL_law 620 = .ok (.iload_n 3, 1) := by decide +kernel
theorem dL_law_621 : decode cL_law 621 = .ok (.iconst 1, 1) := by decide +kernel
theorem dL_law_622 : decode cL_law 622 = .ok (.iadd, 1) := by decide +kernel
theorem dL_law_623 : decode cL_law 623 = .ok (.iaload, 1) := by decide +kernel
theorem dL_law_624 : decode cL_law 624 = .ok (.invokevirtual 89, 3) := by decide +kernel
theorem dL_law_627 : decode cL_law 627 = .ok (.aload_n 2, 1) := by decide +kernel
theorem dL_law_628 : decode cL_law 628 = .ok (.aload_n 0, 1) := by decide +kernel
theorem dL_law_629 : decode cL_law 629 = .ok (.iload_n 3, 1) := by decide +kernel
theorem dL_law_630 : decode cL_law 630 = .ok (.iconst 1, 1) := by decide +kernel
theorem dL_law_631 : decode cL_law 631 = .ok (.iadd, 1) := by decide +kernel
theorem dL_law_632 : decode cL_law 632 = .ok (.iaload, 1) := by decide +kernel
theorem dL_law_633 : decode cL_law 633 = .ok (.invokevirtual 92, 3) := by decide +kernel
theorem dL_law_636 : decode cL_law 636 = .ok (.if_icmp .eq 628, 3) := by decide +kernel
theorem dL_law_639 : decode cL_law 639 = .ok (.iconst 0, 1) := by decide +kernel
theorem dL_law_640 : decode cL_law 640 = .ok (.ireturn, 1) := by decide +kernel
theorem dL_law_641 : decode cL_law 641 = .ok (.aload_n 1, 1) := by decide +kernel
theorem dL_law_642 : decode cL_law 642 = .ok (.aload_n 0, 1) := by decide +kernel
theorem dL_law_643 : decode cL_law 643 = .ok (.iload_n 3, 1) := by decide +kernel
theorem dL_law_644 : decode cL_law 644 = .ok (.iconst 1, 1) := by decide +kernel
theorem dL_law_645 : decode cL_law 645 = .ok (.iadd, 1) := by decide +kernel
theorem dL_law_646 : decode cL_law 646 = .ok (.iaload, 1) := by decide +kernel
theorem dL_law_647 : decode cL_law 647 = .ok (.invokevirtual 93, 3) := by decide +kernel
theorem dL_law_650 : decode cL_law 650 = .ok (.aload_n 2, 1) := by decide +kernel
theorem dL_law_651 : decode cL_law 651 = .ok (.aload_n 0, 1) := by decide +kernel
theorem dL_law_652 : decode cL_law 652 = .ok (.iload_n 3, 1) := by decide +kernel
theorem dL_law_653 : decode cL_law 653 = .ok (.iconst 1, 1) := by decide +kernel
theorem dL_law_654 : decode cL_law 654 = .ok (.iadd, 1) := by decide +kernel
theorem dL_law_655 : decode cL_law 655 = .ok (.iaload, 1) := by decide +kernel
theorem dL_law_656 : decode cL_law 656 = .ok (.invokevirtual 96, 3) := by decide +kernel
theorem dL_law_659 : decode cL_law 659 = .ok (.if_icmp .eq 605, 3) := by decide +kernel
theorem dL_law_662 : decode cL_law 662 = .ok (.iconst 0, 1) := by decide +kernel
theorem dL_law_663 : decode cL_law 663 = .ok (.ireturn, 1) := by decide +kernel
theorem dL_law_664 : decode cL_law 664 = .ok (.aload_n 1, 1) := by decide +kernel
theorem dL_law_665 : decode cL_law 665 = .ok (.aload_n 0, 1) := by decide +kernel
theorem dL_law_666 : decode cL_law 666 = .ok (.iload_n 3, 1) := by decide +kernel
theorem dL_law_667 : decode cL_law 667 = .ok (.iconst 1, 1) := by decide +kernel
theorem dL_law_668 : decode cL_law 668 = .ok (.iadd, 1) := by decide +kernel
theorem dL_law_669 : decode cL_law 669 = .ok (.iaload, 1) := by decide +kernel
theorem dL_law_670 : decode cL_law 670 = .ok (.invokevirtual 97, 3) := by decide +kernel
theorem dL_law_673 : decode cL_law 673 = .ok (.aload_n 2, 1) := by decide +kernel
theorem dL_law_674 : decode cL_law 674 = .ok (.aload_n 0, 1) := by decide +kernel
theorem dL_law_675 : decode cL_law 675 = .ok (.iload_n 3, 1) := by decide +kernel
theorem dL_law_676 : decode cL_law 676 = .ok (.iconst 1, 1) := by decide +kernel
theorem dL_law_677 : decode cL_law 677 = .ok (.iadd, 1) := by decide +kernel
theorem dL_law_678 : decode cL_law 678 = .ok (.iaload, 1) := by decide +kernel
theorem dL_law_679 : decode cL_law 679 = .ok (.invokevirtual 100, 3) := by decide +kernel
theorem dL_law_682 : decode cL_law 682 = .ok (.if_icmp .eq 582, 3) := by decide +kernel
theorem dL_law_685 : decode cL_law 685 = .ok (.iconst 0, 1) := by decide +kernel
theorem dL_law_686 : decode cL_law 686 = .ok (.ireturn, 1) := by decide +kernel
theorem dL_law_687 : decode cL_law 687 = .ok (.aload_n 1, 1) := by decide +kernel
theorem dL_law_688 : decode cL_law 688 = .ok (.aload_n 0, 1) := by decide +kernel
theorem dL_law_689 : decode cL_law 689 = .ok (.iload_n 3, 1) := by decide +kernel
theorem dL_law_690 : decode cL_law 690 = .ok (.iconst 1, 1) := by decide +kernel
theorem dL_law_691 : decode cL_law 691 = .ok (.iadd, 1) := by decide +kernel
theorem dL_law_692 : decode cL_law 692 = .ok (.iaload, 1) := by decide +kernel
theorem dL_law_693 : decode cL_law 693 = .ok (.invokevirtual 101, 3) := by decide +kernel
theorem dL_law_696 : decode cL_law 696 = .ok (.aload_n 2, 1) := by decide +kernel
theorem dL_law_697 : decode cL_law 697 = .ok (.aload_n 0, 1) := by decide +kernel
theorem dL_law_698 : decode cL_law 698 = .ok (.iload_n 3, 1) := by decide +kernel
theorem dL_law_699 : decode cL_law 699 = .ok (.iconst 1, 1) := by decide +kernel
theorem dL_law_700 : decode cL_law 700 = .ok (.iadd, 1) := by decide +kernel
theorem dL_law_701 : decode cL_law 701 = .ok (.iaload, 1) := by decide +kernel
theorem dL_law_702 : decode cL_law 702 = .ok (.invokevirtual 104, 3) := by decide +kernel
theorem dL_law_705 : decode cL_law 705 = .ok (.if_icmp .eq 559, 3) := by decide +kernel
theorem dL_law_708 : decode cL_law 708 = .ok (.iconst 0, 1) := by decide +kernel
theorem dL_law_709 : decode cL_law 709 = .ok (.ireturn, 1) := by decide +kernel
theorem dL_law_710 : decode cL_law 710 = .ok (.aload_n 1, 1) := by decide +kernel
theorem dL_law_711 : decode cL_law 711 = .ok (.aload_n 0, 1) := by decide +kernel
theorem dL_law_712 : decode cL_law 712 = .ok (.iload_n 3, 1) := by decide +kernel
theorem dL_law_713 : decode cL_law 713 = .ok (.iconst 1, 1) := by decide +kernel
theorem dL_law_714 : decode cL_law 714 = .ok (.iadd, 1) := by decide +kernel
theorem dL_law_715 : decode cL_law 715 = .ok (.iaload, 1) := by decide +kernel
theorem dL_law_716 : decode cL_law 716 = .ok (.aload_n 0, 1) := by decide +kernel
theorem dL_law_717 : decode cL_law 717 = .ok (.iload_n 3, 1) := by decide +kernel
theorem dL_law_718 : decode cL_law 718 = .ok (.iconst 2, 1) := by decide +kernel
theorem dL_law_719 : decode cL_law 719 = .ok (.iadd, 1) := by decide +kernel
theorem dL_law_720 : decode cL_law 720 = .ok (.iaload, 1) := by decide +kernel
theorem dL_law_721 : decode cL_law 721 = .ok (.invokevirtual 105, 3) := by decide +kernel
theorem dL_law_724 : decode cL_law 724 = .ok (.aload_n 2, 1) := by decide +kernel
theorem dL_law_725 : decode cL_law 725 = .ok (.aload_n 0, 1) := by decide +kernel
theorem dL_law_726 : decode cL_law 726 = .ok (.iload_n 3, 1) := by decide +kernel
theorem dL_law_727 : decode cL_law 727 = .ok (.iconst 1, 1) := by decide +kernel
theorem dL_law_728 : decode cL_law 728 = .ok (.iadd, 1) := by decide +kernel
theorem dL_law_729 : decode cL_law 729 = .ok (.iaload, 1) := by decide +kernel
theorem dL_law_730 : decode cL_law 730 = .ok (.aload_n 0, 1) := by decide +kernel
theorem dL_law_731 : decode cL_law 731 = .ok (.iload_n 3, 1) := by decide +kernel
theorem dL_law_732 : decode cL_law 732 = .ok (.iconst 2, 1) := by decide +kernel
theorem dL_law_733 : decode cL_law 733 = .ok (.iadd, 1) := by decide +kernel
theorem dL_law_734 : decode cL_law 734 = .ok (.iaload, 1) := by decide +kernel
theorem dL_law_735 : decode cL_law 735 = .ok (.invokevirtual 108, 3) := by decide +kernel
theorem dL_law_738 : decode cL_law 738 = .ok (.if_icmp .eq 526, 3) := by decide +kernel
theorem dL_law_741 : decode cL_law 741 = .ok (.iconst 0, 1) := by decide +kernel
theorem dL_law_742 : decode cL_law 742 = .ok (.ireturn, 1) := by decide +kernel
theorem dL_law_743 : decode cL_law 743 = .ok (.aload_n 1, 1) := by decide +kernel
theorem dL_law_744 : decode cL_law 744 = .ok (.aload_n 0, 1) := by decide +kernel
theorem dL_law_745 : decode cL_law 745 = .ok (.iload_n 3, 1) := by decide +kernel
theorem dL_law_746 : decode cL_law 746 = .ok (.iconst 1, 1) := by decide +kernel
theorem dL_law_747 : decode cL_law 747 = .ok (.iadd, 1) := by decide +kernel
theorem dL_law_748 : decode cL_law 748 = .ok (.iaload, 1) := by decide +kernel
theorem dL_law_749 : decode cL_law 749 = .ok (.aload_n 0, 1) := by decide +kernel
theorem dL_law_750 : decode cL_law 750 = .ok (.iload_n 3, 1) := by decide +kernel
theorem dL_law_751 : decode cL_law 751 = .ok (.iconst 2, 1) := by decide +kernel
theorem dL_law_752 : decode cL_law 752 = .ok (.iadd, 1) := by decide +kernel
theorem dL_law_753 : decode cL_law 753 = .ok (.iaload, 1) := by decide +kernel
theorem dL_law_754 : decode cL_law 754 = .ok (.invokevirtual 109, 3) := by decide +kernel
theorem dL_law_757 : decode cL_law 757 = .ok (.aload_n 2, 1) := by decide +kernel
theorem dL_law_758 : decode cL_law 758 = .ok (.aload_n 0, 1) := by decide +kernel
theorem dL_law_759 : decode cL_law 759 = .ok (.iload_n 3, 1) := by decide +kernel
theorem dL_law_760 : decode cL_law 760 = .ok (.iconst 1, 1) := by decide +kernel
theorem dL_law_761 : decode cL_law 761 = .ok (.iadd, 1) := by decide +kernel
theorem dL_law_762 : decode cL_law 762 = .ok (.iaload, 1) := by decide +kernel
theorem dL_law_763 : decode cL_law 763 = .ok (.aload_n 0, 1) := by decide +kernel
theorem dL_law_764 : decode cL_law 764 = .ok (.iload_n 3, 1) := by decide +kernel
theorem dL_law_765 : decode cL_law 765 = .ok (.iconst 2, 1) := by decide +kernel
theorem dL_law_766 : decode cL_law 766 = .ok (.iadd, 1) := by decide +kernel
theorem dL_law_767 : decode cL_law 767 = .ok (.iaload, 1) := by decide +kernel
theorem dL_law_768 : decode cL_law 768 = .ok (.invokevirtual 112, 3) := by decide +kernel
theorem dL_law_771 : decode cL_law 771 = .ok (.if_icmp .eq 493, 3) := by decide +kernel
theorem dL_law_774 : decode cL_law 774 = .ok (.iconst 0, 1) := by decide +kernel
theorem dL_law_775 : decode cL_law 775 = .ok (.ireturn, 1) := by decide +kernel
theorem dL_law_776 : decode cL_law 776 = .ok (.aload_n 1, 1) := by decide +kernel
theorem dL_law_777 : decode cL_law 777 = .ok (.aload_n 0, 1) := by decide +kernel
theorem dL_law_778 : decode cL_law 778 = .ok (.iload_n 3, 1) := by decide +kernel
theorem dL_law_779 : decode cL_law 779 = .ok (.iconst 1, 1) := by decide +kernel
theorem dL_law_780 : decode cL_law 780 = .ok (.iadd, 1) := by decide +kernel
theorem dL_law_781 : decode cL_law 781 = .ok (.iaload, 1) := by decide +kernel
theorem dL_law_782 : decode cL_law 782 = .ok (.aload_n 0, 1) := by decide +kernel
theorem dL_law_783 : decode cL_law 783 = .ok (.iload_n 3, 1) := by decide +kernel
theorem dL_law_784 : decode cL_law 784 = .ok (.iconst 2, 1) := by decide +kernel
theorem dL_law_785 : decode cL_law 785 = .ok (.iadd, 1) := by decide +kernel
theorem dL_law_786 : decode cL_law 786 = .ok (.iaload, 1) := by decide +kernel
theorem dL_law_787 : decode cL_law 787 = .ok (.invokevirtual 113, 3) := by decide +kernel
theorem dL_law_790 : decode cL_law 790 = .ok (.aload_n 2, 1) := by decide +kernel
theorem dL_law_791 : decode cL_law 791 = .ok (.aload_n 0, 1) := by decide +kernel
theorem dL_law_792 : decode cL_law 792 = .ok (.iload_n 3, 1) := by decide +kernel
theorem dL_law_793 : decode cL_law 793 = .ok (.iconst 1, 1) := by decide +kernel
theorem dL_law_794 : decode cL_law 794 = .ok (.iadd, 1) := by decide +kernel
theorem dL_law_795 : decode cL_law 795 = .ok (.iaload, 1) := by decide +kernel
theorem dL_law_796 : decode cL_law 796 = .ok (.aload_n 0, 1) := by decide +kernel
theorem dL_law_797 : decode cL_law 797 = .ok (.iload_n 3, 1) := by decide +kernel
theorem dL_law_798 : decode cL_law 798 = .ok (.iconst 2, 1) := by decide +kernel
theorem dL_law_799 : decode cL_law 799 = .ok (.iadd, 1) := by decide +kernel
theorem dL_law_800 : decode cL_law 800 = .ok (.iaload, 1) := by decide +kernel
theorem dL_law_801 : decode cL_law 801 = .ok (.invokevirtual 116, 3) := by decide +kernel
theorem dL_law_804 : decode cL_law 804 = .ok (.if_icmp .eq 460, 3) := by decide +kernel
theorem dL_law_807 : decode cL_law 807 = .ok (.iconst 0, 1) := by decide +kernel
theorem dL_law_808 : decode cL_law 808 = .ok (.ireturn, 1) := by decide +kernel
theorem dL_law_809 : decode cL_law 809 = .ok (.aload_n 1, 1) := by decide +kernel
theorem dL_law_810 : decode cL_law 810 = .ok (.aload_n 0, 1) := by decide +kernel
theorem dL_law_811 : decode cL_law 811 = .ok (.iload_n 3, 1) := by decide +kernel
theorem dL_law_812 : decode cL_law 812 = .ok (.iconst 1, 1) := by decide +kernel
theorem dL_law_813 : decode cL_law 813 = .ok (.iadd, 1) := by decide +kernel
theorem dL_law_814 : decode cL_law 814 = .ok (.iaload, 1) := by decide +kernel
theorem dL_law_815 : decode cL_law 815 = .ok (.aload_n 0, 1) := by decide +kernel
theorem dL_law_816 : decode cL_law 816 = .ok (.iload_n 3, 1) := by decide +kernel
theorem dL_law_817 : decode cL_law 817 = .ok (.iconst 2, 1) := by decide +kernel
theorem dL_law_818 : decode cL_law 818 = .ok (.iadd, 1) := by decide +kernel
theorem dL_law_819 : decode cL_law 819 = .ok (.iaload, 1) := by decide +kernel
theorem dL_law_820 : decode cL_law 820 = .ok (.invokevirtual 117, 3) := by decide +kernel
theorem dL_law_823 : decode cL_law 823 = .ok (.aload_n 2, 1) := by decide +kernel
theorem dL_law_824 : decode cL_law 824 = .ok (.aload_n 0, 1) := by decide +kernel
theorem dL_law_825 : decode cL_law 825 = .ok (.iload_n 3, 1) := by decide +kernel
theorem dL_law_826 : decode cL_law 826 = .ok (.iconst 1, 1) := by decide +kernel
theorem dL_law_827 : decode cL_law 827 = .ok (.iadd, 1) := by decide +kernel
theorem dL_law_828 : decode cL_law 828 = .ok (.iaload, 1) := by decide +kernel
theorem dL_law_829 : decode cL_law 829 = .ok (.aload_n 0, 1) := by decide +kernel
theorem dL_law_830 : decode cL_law 830 = .ok (.iload_n 3, 1) := by decide +kernel
theorem dL_law_831 : decode cL_law 831 = .ok (.iconst 2, 1) := by decide +kernel
theorem dL_law_832 : decode cL_law 832 = .ok (.iadd, 1) := by decide +kernel
theorem dL_law_833 : decode cL_law 833 = .ok (.iaload, 1) := by decide +kernel
theorem dL_law_834 : decode cL_law 834 = .ok (.invokevirtual 121, 3) := by decide +kernel
theorem dL_law_837 : decode cL_law 837 = .ok (.lcmp, 1) := by decide +kernel
theorem dL_law_838 : decode cL_law 838 = .ok (.ifCond .eq 426, 3) := by decide +kernel
theorem dL_law_841 : decode cL_law 841 = .ok (.iconst 0, 1) := by decide +kernel
theorem dL_law_842 : decode cL_law 842 = .ok (.ireturn, 1) := by decide +kernel
theorem dL_law_843 : decode cL_law 843 = .ok (.aload_n 1, 1) := by decide +kernel
theorem dL_law_844 : decode cL_law 844 = .ok (.aload_n 0, 1) := by decide +kernel
theorem dL_law_845 : decode cL_law 845 = .ok (.iload_n 3, 1) := by decide +kernel
theorem dL_law_846 : decode cL_law 846 = .ok (.iconst 1, 1) := by decide +kernel
theorem dL_law_847 : decode cL_law 847 = .ok (.iadd, 1) := by decide +kernel
theorem dL_law_848 : decode cL_law 848 = .ok (.iaload, 1) := by decide +kernel
theorem dL_law_849 : decode cL_law 849 = .ok (.invokevirtual 122, 3) := by decide +kernel
theorem dL_law_852 : decode cL_law 852 = .ok (.aload_n 2, 1) := by decide +kernel
theorem dL_law_853 : decode cL_law 853 = .ok (.aload_n 0, 1) := by decide +kernel
theorem dL_law_854 : decode cL_law 854 = .ok (.iload_n 3, 1) := by decide +kernel
theorem dL_law_855 : decode cL_law 855 = .ok (.iconst 1, 1) := by decide +kernel
theorem dL_law_856 : decode cL_law 856 = .ok (.iadd, 1) := by decide +kernel
theorem dL_law_857 : decode cL_law 857 = .ok (.iaload, 1) := by decide +kernel
theorem dL_law_858 : decode cL_law 858 = .ok (.invokevirtual 126, 3) := by decide +kernel
theorem dL_law_861 : decode cL_law 861 = .ok (.lcmp, 1) := by decide +kernel
theorem dL_law_862 : decode cL_law 862 = .ok (.ifCond .eq 402, 3) := by decide +kernel
theorem dL_law_865 : decode cL_law 865 = .ok (.iconst 0, 1) := by decide +kernel
theorem dL_law_866 : decode cL_law 866 = .ok (.ireturn, 1) := by decide +kernel
theorem dL_law_867 : decode cL_law 867 = .ok (.aload_n 1, 1) := by decide +kernel
theorem dL_law_868 : decode cL_law 868 = .ok (.aload_n 0, 1) := by decide +kernel
theorem dL_law_869 : decode cL_law 869 = .ok (.iload_n 3, 1) := by decide +kernel
theorem dL_law_870 : decode cL_law 870 = .ok (.iconst 1, 1) := by decide +kernel
theorem dL_law_871 : decode cL_law 871 = .ok (.iadd, 1) := by decide +kernel
theorem dL_law_872 : decode cL_law 872 = .ok (.iaload, 1) := by decide +kernel
theorem dL_law_873 : decode cL_law 873 = .ok (.aload_n 0, 1) := by decide +kernel
theorem dL_law_874 : decode cL_law 874 = .ok (.iload_n 3, 1) := by decide +kernel
theorem dL_law_875 : decode cL_law 875 = .ok (.iconst 2, 1) := by decide +kernel
theorem dL_law_876 : decode cL_law 876 = .ok (.iadd, 1) := by decide +kernel
theorem dL_law_877 : decode cL_law 877 = .ok (.iaload, 1) := by decide +kernel
theorem dL_law_878 : decode cL_law 878 = .ok (.invokevirtual 127, 3) := by decide +kernel
theorem dL_law_881 : decode cL_law 881 = .ok (.aload_n 2, 1) := by decide +kernel
theorem dL_law_882 : decode cL_law 882 = .ok (.aload_n 0, 1) := by decide +kernel
theorem dL_law_883 : decode cL_law 883 = .ok (.iload_n 3, 1) := by decide +kernel
theorem dL_law_884 : decode cL_law 884 = .ok (.iconst 1, 1) := by decide +kernel
theorem dL_law_885 : decode cL_law 885 = .ok (.iadd, 1) := by decide +kernel
theorem dL_law_886 : decode cL_law 886 = .ok (.iaload, 1) := by decide +kernel
theorem dL_law_887 : decode cL_law 887 = .ok (.aload_n 0, 1) := by decide +kernel
theorem dL_law_888 : decode cL_law 888 = .ok (.iload_n 3, 1) := by decide +kernel
theorem dL_law_889 : decode cL_law 889 = .ok (.iconst 2, 1) := by decide +kernel
theorem dL_law_890 : decode cL_law 890 = .ok (.iadd, 1) := by decide +kernel
theorem dL_law_891 : decode cL_law 891 = .ok (.iaload, 1) := by decide +kernel
theorem dL_law_892 : decode cL_law 892 = .ok (.invokevirtual 130, 3) := by decide +kernel
theorem dL_law_895 : decode cL_law 895 = .ok (.if_icmp .eq 369, 3) := by decide +kernel
theorem dL_law_898 : decode cL_law 898 = .ok (.iconst 0, 1) := by decide +kernel
theorem dL_law_899 : decode cL_law 899 = .ok (.ireturn, 1) := by decide +kernel
theorem dL_law_900 : decode cL_law 900 = .ok (.aload_n 1, 1) := by decide +kernel
theorem dL_law_901 : decode cL_law 901 = .ok (.aload_n 0, 1) := by decide +kernel
theorem dL_law_902 : decode cL_law 902 = .ok (.iload_n 3, 1) := by decide +kernel
theorem dL_law_903 : decode cL_law 903 = .ok (.iconst 1, 1) := by decide +kernel
theorem dL_law_904 : decode cL_law 904 = .ok (.iadd, 1) := by decide +kernel
theorem dL_law_905 : decode cL_law 905 = .ok (.iaload, 1) := by decide +kernel
theorem dL_law_906 : decode cL_law 906 = .ok (.invokevirtual 131, 3) := by decide +kernel
theorem dL_law_909 : decode cL_law 909 = .ok (.aload_n 2, 1) := by decide +kernel
theorem dL_law_910 : decode cL_law 910 = .ok (.aload_n 0, 1) := by decide +kernel
theorem dL_law_911 : decode cL_law 911 = .ok (.iload_n 3, 1) := by decide +kernel
theorem dL_law_912 : decode cL_law 912 = .ok (.iconst 1, 1) := by decide +kernel
theorem dL_law_913 : decode cL_law 913 = .ok (.iadd, 1) := by decide +kernel
theorem dL_law_914 : decode cL_law 914 = .ok (.iaload, 1) := by decide +kernel
theorem dL_law_915 : decode cL_law 915 = .ok (.invokevirtual 134, 3) := by decide +kernel
theorem dL_law_918 : decode cL_law 918 = .ok (.if_icmp .eq 346, 3) := by decide +kernel
theorem dL_law_921 : decode cL_law 921 = .ok (.iconst 0, 1) := by decide +kernel
theorem dL_law_922 : decode cL_law 922 = .ok (.ireturn, 1) := by decide +kernel
theorem dL_law_923 : decode cL_law 923 = .ok (.aload_n 1, 1) := by decide +kernel
theorem dL_law_924 : decode cL_law 924 = .ok (.aload_n 0, 1) := by decide +kernel
theorem dL_law_925 : decode cL_law 925 = .ok (.iload_n 3, 1) := by decide +kernel
theorem dL_law_926 : decode cL_law 926 = .ok (.iconst 1, 1) := by decide +kernel
theorem dL_law_927 : decode cL_law 927 = .ok (.iadd, 1) := by decide +kernel
theorem dL_law_928 : decode cL_law 928 = .ok (.iaload, 1) := by decide +kernel
theorem dL_law_929 : decode cL_law 929 = .ok (.aload_n 0, 1) := by decide +kernel
theorem dL_law_930 : decode cL_law 930 = .ok (.iload_n 3, 1) := by decide +kernel
theorem dL_law_931 : decode cL_law 931 = .ok (.iconst 2, 1) := by decide +kernel
theorem dL_law_932 : decode cL_law 932 = .ok (.iadd, 1) := by decide +kernel
theorem dL_law_933 : decode cL_law 933 = .ok (.iaload, 1) := by decide +kernel
theorem dL_law_934 : decode cL_law 934 = .ok (.invokevirtual 135, 3) := by decide +kernel
theorem dL_law_937 : decode cL_law 937 = .ok (.aload_n 2, 1) := by decide +kernel
theorem dL_law_938 : decode cL_law 938 = .ok (.aload_n 0, 1) := by decide +kernel
theorem dL_law_939 : decode cL_law 939 = .ok (.iload_n 3, 1) := by decide +kernel
theorem dL_law_940 : decode cL_law 940 = .ok (.iconst 1, 1) := by decide +kernel
theorem dL_law_941 : decode cL_law 941 = .ok (.iadd, 1) := by decide +kernel
theorem dL_law_942 : decode cL_law 942 = .ok (.iaload, 1) := by decide +kernel
theorem dL_law_943 : decode cL_law 943 = .ok (.aload_n 0, 1) := by decide +kernel
theorem dL_law_944 : decode cL_law 944 = .ok (.iload_n 3, 1) := by decide +kernel
theorem dL_law_945 : decode cL_law 945 = .ok (.iconst 2, 1) := by decide +kernel
theorem dL_law_946 : decode cL_law 946 = .ok (.iadd, 1) := by decide +kernel
theorem dL_law_947 : decode cL_law 947 = .ok (.iaload, 1) := by decide +kernel
theorem dL_law_948 : decode cL_law 948 = .ok (.invokevirtual 138, 3) := by decide +kernel
theorem dL_law_951 : decode cL_law 951 = .ok (.if_icmp .eq 313, 3) := by decide +kernel
theorem dL_law_954 : decode cL_law 954 = .ok (.iconst 0, 1) := by decide +kernel
theorem dL_law_955 : decode cL_law 955 = .ok (.ireturn, 1) := by decide +kernel
theorem dL_law_956 : decode cL_law 956 = .ok (.aload_n 1, 1) := by decide +kernel
theorem dL_law_957 : decode cL_law 957 = .ok (.invokevirtual 139, 3) := by decide +kernel
theorem dL_law_960 : decode cL_law 960 = .ok (.aload_n 2, 1) := by decide +kernel
theorem dL_law_961 : decode cL_law 961 = .ok (.invokevirtual 142, 3) := by decide +kernel
theorem dL_law_964 : decode cL_law 964 = .ok (.if_icmp .eq 300, 3) := by decide +kernel
theorem dL_law_967 : decode cL_law 967 = .ok (.iconst 0, 1) := by decide +kernel
theorem dL_law_968 : decode cL_law 968 = .ok (.ireturn, 1) := by decide +kernel
theorem dL_law_969 : decode cL_law 969 = .ok (.aload_n 1, 1) := by decide +kernel
theorem dL_law_970 : decode cL_law 970 = .ok (.aload_n 0, 1) := by decide +kernel
theorem dL_law_971 : decode cL_law 971 = .ok (.iload_n 3, 1) := by decide +kernel
theorem dL_law_972 : decode cL_law 972 = .ok (.iconst 1, 1) := by decide +kernel
theorem dL_law_973 : decode cL_law 973 = .ok (.iadd, 1) := by decide +kernel
theorem dL_law_974 : decode cL_law 974 = .ok (.iaload, 1) := by decide +kernel
theorem dL_law_975 : decode cL_law 975 = .ok (.aload_n 0, 1) := by decide +kernel
theorem dL_law_976 : decode cL_law 976 = .ok (.iload_n 3, 1) := by decide +kernel
theorem dL_law_977 : decode cL_law 977 = .ok (.iconst 2, 1) := by decide +kernel
theorem dL_law_978 : decode cL_law 978 = .ok (.iadd, 1) := by decide +kernel
theorem dL_law_979 : decode cL_law 979 = .ok (.iaload, 1) := by decide +kernel
theorem dL_law_980 : decode cL_law 980 = .ok (.invokevirtual 143, 3) := by decide +kernel
theorem dL_law_983 : decode cL_law 983 = .ok (.aload_n 2, 1) := by decide +kernel
theorem dL_law_984 : decode cL_law 984 = .ok (.aload_n 0, 1) := by decide +kernel
theorem dL_law_985 : decode cL_law 985 = .ok (.iload_n 3, 1) := by decide +kernel
theorem dL_law_986 : decode cL_law 986 = .ok (.iconst 1, 1) := by decide +kernel
theorem dL_law_987 : decode cL_law 987 = .ok (.iadd, 1) := by decide +kernel
theorem dL_law_988 : decode cL_law 988 = .ok (.iaload, 1) := by decide +kernel
theorem dL_law_989 : decode cL_law 989 = .ok (.aload_n 0, 1) := by decide +kernel
theorem dL_law_990 : decode cL_law 990 = .ok (.iload_n 3, 1) := by decide +kernel
theorem dL_law_991 : decode cL_law 991 = .ok (.iconst 2, 1) := by decide +kernel
theorem dL_law_992 : decode cL_law 992 = .ok (.iadd, 1) := by decide +kernel
theorem dL_law_993 : decode cL_law 993 = .ok (.iaload, 1) := by decide +kernel
theorem dL_law_994 : decode cL_law 994 = .ok (.invokevirtual 146, 3) := by decide +kernel
theorem dL_law_997 : decode cL_law 997 = .ok (.if_icmp .eq 267, 3) := by decide +kernel
theorem dL_law_1000 : decode cL_law 1000 = .ok (.iconst 0, 1) := by decide +kernel
theorem dL_law_1001 : decode cL_law 1001 = .ok (.ireturn, 1) := by decide +kernel
theorem dL_law_1002 : decode cL_law 1002 = .ok (.aload_n 1, 1) := by decide +kernel
theorem dL_law_1003 : decode cL_law 1003 = .ok (.invokevirtual 147, 3) := by decide +kernel
theorem dL_law_1006 : decode cL_law 1006 = .ok (.aload_n 2, 1) := by decide +kernel
theorem dL_law_1007 : decode cL_law 1007 = .ok (.invokevirtual 150, 3) := by decide +kernel
theorem dL_law_1010 : decode cL_law 1010 = .ok (.if_icmp .eq 254, 3) := by decide +kernel
theorem dL_law_1013 : decode cL_law 1013 = .ok (.iconst 0, 1) := by decide +kernel
theorem dL_law_1014 : decode cL_law 1014 = .ok (.ireturn, 1) := by decide +kernel
theorem dL_law_1015 : decode cL_law 1015 = .ok (.aload_n 1, 1) := by decide +kernel
theorem dL_law_1016 : decode cL_law 1016 = .ok (.invokevirtual 151, 3) := by decide +kernel
theorem dL_law_1019 : decode cL_law 1019 = .ok (.aload_n 2, 1) := by decide +kernel
theorem dL_law_1020 : decode cL_law 1020 = .ok (.invokevirtual 154, 3) := by decide +kernel
theorem dL_law_1023 : decode cL_law 1023 = .ok (.if_icmp .eq 241, 3) := by decide +kernel
theorem dL_law_1026 : decode cL_law 1026 = .ok (.iconst 0, 1) := by decide +kernel
theorem dL_law_1027 : decode cL_law 1027 = .ok (.ireturn, 1) := by decide +kernel
theorem dL_law_1028 : decode cL_law 1028 = .ok (.aload_n 1, 1) := by decide +kernel
theorem dL_law_1029 : decode cL_law 1029 = .ok (.aload_n 0, 1) := by decide +kernel
theorem dL_law_1030 : decode cL_law 1030 = .ok (.iload_n 3, 1) := by decide +kernel
theorem dL_law_1031 : decode cL_law 1031 = .ok (.iconst 1, 1) := by decide +kernel
theorem dL_law_1032 : decode cL_law 1032 = .ok (.iadd, 1) := by decide +kernel
theorem dL_law_1033 : decode cL_law 1033 = .ok (.iaload, 1) := by decide +kernel
theorem dL_law_1034 : decode cL_law 1034 = .ok (.invokevirtual 155, 3) := by decide +kernel
theorem dL_law_1037 : decode cL_law 1037 = .ok (.aload_n 2, 1) := by decide +kernel
theorem dL_law_1038 : decode cL_law 1038 = .ok (.aload_n 0, 1) := by decide +kernel
theorem dL_law_1039 : decode cL_law 1039 = .ok (.iload_n 3, 1) := by decide +kernel
theorem dL_law_1040 : decode cL_law 1040 = .ok (.iconst 1, 1) := by decide +kernel
theorem dL_law_1041 : decode cL_law 1041 = .ok (.iadd, 1) := by decide +kernel
theorem dL_law_1042 : decode cL_law 1042 = .ok (.iaload, 1) := by decide +kernel
theorem dL_law_1043 : decode cL_law 1043 = .ok (.invokevirtual 158, 3) := by decide +kernel
theorem dL_law_1046 : decode cL_law 1046 = .ok (.if_icmp .eq 218, 3) := by decide +kernel
theorem dL_law_1049 : decode cL_law 1049 = .ok (.iconst 0, 1) := by decide +kernel
theorem dL_law_1050 : decode cL_law 1050 = .ok (.ireturn, 1) := by decide +kernel
theorem dL_law_1051 : decode cL_law 1051 = .ok (.aload_n 1, 1) := by decide +kernel
theorem dL_law_1052 : decode cL_law 1052 = .ok (.aload_n 0, 1) := by decide +kernel
theorem dL_law_1053 : decode cL_law 1053 = .ok (.iload_n 3, 1) := by decide +kernel
theorem dL_law_1054 : decode cL_law 1054 = .ok (.iconst 1, 1) := by decide +kernel
theorem dL_law_1055 : decode cL_law 1055 = .ok (.iadd, 1) := by decide +kernel
theorem dL_law_1056 : decode cL_law 1056 = .ok (.iaload, 1) := by decide +kernel
theorem dL_law_1057 : decode cL_law 1057 = .ok (.aload_n 0, 1) := by decide +kernel
theorem dL_law_1058 : decode cL_law 1058 = .ok (.iload_n 3, 1) := by decide +kernel
theorem dL_law_1059 : decode cL_law 1059 = .ok (.iconst 2, 1) := by decide +kernel
theorem dL_law_1060 : decode cL_law 1060 = .ok (.iadd, 1) := by decide +kernel
theorem dL_law_1061 : decode cL_law 1061 = .ok (.iaload, 1) := by decide +kernel
theorem dL_law_1062 : decode cL_law 1062 = .ok (.aload_n 0, 1) := by decide +kernel
theorem dL_law_1063 : decode cL_law 1063 = .ok (.iload_n 3, 1) := by decide +kernel
theorem dL_law_1064 : decode cL_law 1064 = .ok (.iconst 3, 1) := by decide +kernel
theorem dL_law_1065 : decode cL_law 1065 = .ok (.iadd, 1) := by decide +kernel
theorem dL_law_1066 : decode cL_law 1066 = .ok (.iaload, 1) := by decide +kernel
theorem dL_law_1067 : decode cL_law 1067 = .ok (.invokevirtual 159, 3) := by decide +kernel
theorem dL_law_1070 : decode cL_law 1070 = .ok (.aload_n 2, 1) := by decide +kernel
theorem dL_law_1071 : decode cL_law 1071 = .ok (.aload_n 0, 1) := by decide +kernel
theorem dL_law_1072 : decode cL_law 1072 = .ok (.iload_n 3, 1) := by decide +kernel
theorem dL_law_1073 : decode cL_law 1073 = .ok (.iconst 1, 1) := by decide +kernel
theorem dL_law_1074 : decode cL_law 1074 = .ok (.iadd, 1) := by decide +kernel
theorem dL_law_1075 : decode cL_law 1075 = .ok (.iaload, 1) := by decide +kernel
theorem dL_law_1076 : decode cL_law 1076 = .ok (.aload_n 0, 1) := by decide +kernel
theorem dL_law_1077 : decode cL_law 1077 = .ok (.iload_n 3, 1) := by decide +kernel
theorem dL_law_1078 : decode cL_law 1078 = .ok (.iconst 2, 1) := by decide +kernel
theorem dL_law_1079 : decode cL_law 1079 = .ok (.iadd, 1) := by decide +kernel
theorem dL_law_1080 : decode cL_law 1080 = .ok (.iaload, 1) := by decide +kernel
theorem dL_law_1081 : decode cL_law 1081 = .ok (.aload_n 0, 1) := by decide +kernel
theorem dL_law_1082 : decode cL_law 1082 = .ok (.iload_n 3, 1) := by decide +kernel
theorem dL_law_1083 : decode cL_law 1083 = .ok (.iconst 3, 1) := by decide +kernel
theorem dL_law_1084 : decode cL_law 1084 = .ok (.iadd, 1) := by decide +kernel
theorem dL_law_1085 : decode cL_law 1085 = .ok (.iaload, 1) := by decide +kernel
theorem dL_law_1086 : decode cL_law 1086 = .ok (.invokevirtual 162, 3) := by decide +kernel
theorem dL_law_1089 : decode cL_law 1089 = .ok (.if_icmp .eq 175, 3) := by decide +kernel
theorem dL_law_1092 : decode cL_law 1092 = .ok (.iconst 0, 1) := by decide +kernel
theorem dL_law_1093 : decode cL_law 1093 = .ok (.ireturn, 1) := by decide +kernel
theorem dL_law_1094 : decode cL_law 1094 = .ok (.aload_n 1, 1) := by decide +kernel
theorem dL_law_1095 : decode cL_law 1095 = .ok (.aload_n 0, 1) := by decide +kernel
theorem dL_law_1096 : decode cL_law 1096 = .ok (.iload_n 3, 1) := by decide +kernel
theorem dL_law_1097 : decode cL_law 1097 = .ok (.iconst 1, 1) := by decide +kernel
theorem dL_law_1098 : decode cL_law 1098 = .ok (.iadd, 1) := by decide +kernel
theorem dL_law_1099 : decode cL_law 1099 = .ok (.iaload, 1) := by decide +kernel
theorem dL_law_1100 : decode cL_law 1100 = .ok (.aload_n 0, 1) := by decide +kernel
theorem dL_law_1101 : decode cL_law 1101 = .ok (.iload_n 3, 1) := by decide +kernel
theorem dL_law_1102 : decode cL_law 1102 = .ok (.iconst 2, 1) := by decide +kernel
theorem dL_law_1103 : decode cL_law 1103 = .ok (.iadd, 1) := by decide +kernel
theorem dL_law_1104 : decode cL_law 1104 = .ok (.iaload, 1) := by decide +kernel
theorem dL_law_1105 : decode cL_law 1105 = .ok (.aload_n 0, 1) := by decide +kernel
theorem dL_law_1106 : decode cL_law 1106 = .ok (.iload_n 3, 1) := by decide +kernel
theorem dL_law_1107 : decode cL_law 1107 = .ok (.iconst 3, 1) := by decide +kernel
theorem dL_law_1108 : decode cL_law 1108 = .ok (.iadd, 1) := by decide +kernel
theorem dL_law_1109 : decode cL_law 1109 = .ok (.iaload, 1) := by decide +kernel
theorem dL_law_1110 : decode cL_law 1110 = .ok (.i2l, 1) := by decide +kernel
theorem dL_law_1111 : decode cL_law 1111 = .ok (.bipush 32, 2) := by decide +kernel
theorem dL_law_1113 : decode cL_law 1113 = .ok (.lshl, 1) := by decide +kernel
theorem dL_law_1114 : decode cL_law 1114 = .ok (.aload_n 0, 1) := by decide +kernel
theorem dL_law_1115 : decode cL_law 1115 = .ok (.iload_n 3, 1) := by decide +kernel
theorem dL_law_1116 : decode cL_law 1116 = .ok (.iconst 4, 1) := by decide +kernel
theorem dL_law_1117 : decode cL_law 1117 = .ok (.iadd, 1) := by decide +kernel
theorem dL_law_1118 : decode cL_law 1118 = .ok (.iaload, 1) := by decide +kernel
theorem dL_law_1119 : decode cL_law 1119 = .ok (.i2l, 1) := by decide +kernel
theorem dL_law_1120 : decode cL_law 1120 = .ok (.ldc2_w 163, 3) := by decide +kernel
theorem dL_law_1123 : decode cL_law 1123 = .ok (.land, 1) := by decide +kernel
theorem dL_law_1124 : decode cL_law 1124 = .ok (.lor, 1) := by decide +kernel
theorem dL_law_1125 : decode cL_law 1125 = .ok (.invokevirtual 165, 3) := by decide +kernel
theorem dL_law_1128 : decode cL_law 1128 = .ok (.aload_n 2, 1) := by decide +kernel
theorem dL_law_1129 : decode cL_law 1129 = .ok (.aload_n 0, 1) := by decide +kernel
theorem dL_law_1130 : decode cL_law 1130 = .ok (.iload_n 3, 1) := by decide +kernel
theorem dL_law_1131 : decode cL_law 1131 = .ok (.iconst 1, 1) := by decide +kernel
theorem dL_law_1132 : decode cL_law 1132 = .ok (.iadd, 1) := by decide +kernel
theorem dL_law_1133 : decode cL_law 1133 = .ok (.iaload, 1) := by decide +kernel
theorem dL_law_1134 : decode cL_law 1134 = .ok (.aload_n 0, 1) := by decide +kernel
theorem dL_law_1135 : decode cL_law 1135 = .ok (.iload_n 3, 1) := by decide +kernel
theorem dL_law_1136 : decode cL_law 1136 = .ok (.iconst 2, 1) := by decide +kernel
theorem dL_law_1137 : decode cL_law 1137 = .ok (.iadd, 1) := by decide +kernel
theorem dL_law_1138 : decode cL_law 1138 = .ok (.iaload, 1) := by decide +kernel
theorem dL_law_1139 : decode cL_law 1139 = .ok (.aload_n 0, 1) := by decide +kernel
theorem dL_law_1140 : decode cL_law 1140 = .ok (.iload_n 3, 1) := by decide +kernel
theorem dL_law_1141 : decode cL_law 1141 = .ok (.iconst 3, 1) := by decide +kernel
theorem dL_law_1142 : decode cL_law 1142 = .ok (.iadd, 1) := by decide +kernel
theorem dL_law_1143 : decode cL_law 1143 = .ok (.iaload, 1) := by decide +kernel
theorem dL_law_1144 : decode cL_law 1144 = .ok (.i2l, 1) := by decide +kernel
theorem dL_law_1145 : decode cL_law 1145 = .ok (.bipush 32, 2) := by decide +kernel
theorem dL_law_1147 : decode cL_law 1147 = .ok (.lshl, 1) := by decide +kernel
theorem dL_law_1148 : decode cL_law 1148 = .ok (.aload_n 0, 1) := by decide +kernel
theorem dL_law_1149 : decode cL_law 1149 = .ok (.iload_n 3, 1) := by decide +kernel
theorem dL_law_1150 : decode cL_law 1150 = .ok (.iconst 4, 1) := by decide +kernel
theorem dL_law_1151 : decode cL_law 1151 = .ok (.iadd, 1) := by decide +kernel
theorem dL_law_1152 : decode cL_law 1152 = .ok (.iaload, 1) := by decide +kernel
theorem dL_law_1153 : decode cL_law 1153 = .ok (.i2l, 1) := by decide +kernel
theorem dL_law_1154 : decode cL_law 1154 = .ok (.ldc2_w 163, 3) := by decide +kernel
theorem dL_law_1157 : decode cL_law 1157 = .ok (.land, 1) := by decide +kernel
theorem dL_law_1158 : decode cL_law 1158 = .ok (.lor, 1) := by decide +kernel
theorem dL_law_1159 : decode cL_law 1159 = .ok (.invokevirtual 169, 3) := by decide +kernel
theorem dL_law_1162 : decode cL_law 1162 = .ok (.if_icmp .eq 102, 3) := by decide +kernel
theorem dL_law_1165 : decode cL_law 1165 = .ok (.iconst 0, 1) := by decide +kernel
theorem dL_law_1166 : decode cL_law 1166 = .ok (.ireturn, 1) := by decide +kernel
theorem dL_law_1167 : decode cL_law 1167 = .ok (.aload_n 1, 1) := by decide +kernel
theorem dL_law_1168 : decode cL_law 1168 = .ok (.aload_n 0, 1) := by decide +kernel
theorem dL_law_1169 : decode cL_law 1169 = .ok (.iload_n 3, 1) := by decide +kernel
theorem dL_law_1170 : decode cL_law 1170 = .ok (.iconst 1, 1) := by decide +kernel
theorem dL_law_1171 : decode cL_law 1171 = .ok (.iadd, 1) := by decide +kernel
theorem dL_law_1172 : decode cL_law 1172 = .ok (.iaload, 1) := by decide +kernel
theorem dL_law_1173 : decode cL_law 1173 = .ok (.aload_n 0, 1) := by decide +kernel
theorem dL_law_1174 : decode cL_law 1174 = .ok (.iload_n 3, 1) := by decide +kernel
theorem dL_law_1175 : decode cL_law 1175 = .ok (.iconst 2, 1) := by decide +kernel
theorem dL_law_1176 : decode cL_law 1176 = .ok (.iadd, 1) := by decide +kernel
theorem dL_law_1177 : decode cL_law 1177 = .ok (.iaload, 1) := by decide +kernel
theorem dL_law_1178 : decode cL_law 1178 = .ok (.invokevirtual 170, 3) := by decide +kernel
theorem dL_law_1181 : decode cL_law 1181 = .ok (.aload_n 2, 1) := by decide +kernel
theorem dL_law_1182 : decode cL_law 1182 = .ok (.aload_n 0, 1) := by decide +kernel
theorem dL_law_1183 : decode cL_law 1183 = .ok (.iload_n 3, 1) := by decide +kernel
theorem dL_law_1184 : decode cL_law 1184 = .ok (.iconst 1, 1) := by decide +kernel
theorem dL_law_1185 : decode cL_law 1185 = .ok (.iadd, 1) := by decide +kernel
theorem dL_law_1186 : decode cL_law 1186 = .ok (.iaload, 1) := by decide +kernel
theorem dL_law_1187 : decode cL_law 1187 = .ok (.aload_n 0, 1) := by decide +kernel
theorem dL_law_1188 : decode cL_law 1188 = .ok (.iload_n 3, 1) := by decide +kernel
theorem dL_law_1189 : decode cL_law 1189 = .ok (.iconst 2, 1) := by decide +kernel
theorem dL_law_1190 : decode cL_law 1190 = .ok (.iadd, 1) := by decide +kernel
theorem dL_law_1191 : decode cL_law 1191 = .ok (.iaload, 1) := by decide +kernel
theorem dL_law_1192 : decode cL_law 1192 = .ok (.invokevirtual 173, 3) := by decide +kernel
theorem dL_law_1195 : decode cL_law 1195 = .ok (.lcmp, 1) := by decide +kernel
theorem dL_law_1196 : decode cL_law 1196 = .ok (.ifCond .eq 68, 3) := by decide +kernel
theorem dL_law_1199 : decode cL_law 1199 = .ok (.iconst 0, 1) := by decide +kernel
theorem dL_law_1200 : decode cL_law 1200 = .ok (.ireturn, 1) := by decide +kernel
theorem dL_law_1201 : decode cL_law 1201 = .ok (.aload_n 1, 1) := by decide +kernel
theorem dL_law_1202 : decode cL_law 1202 = .ok (.aload_n 0, 1) := by decide +kernel
theorem dL_law_1203 : decode cL_law 1203 = .ok (.iload_n 3, 1) := by decide +kernel
theorem dL_law_1204 : decode cL_law 1204 = .ok (.iconst 1, 1) := by decide +kernel
theorem dL_law_1205 : decode cL_law 1205 = .ok (.iadd, 1) := by decide +kernel
theorem dL_law_1206 : decode cL_law 1206 = .ok (.iaload, 1) := by decide +kernel
theorem dL_law_1207 : decode cL_law 1207 = .ok (.aload_n 0, 1) := by decide +kernel
theorem dL_law_1208 : decode cL_law 1208 = .ok (.iload_n 3, 1) := by decide +kernel
theorem dL_law_1209 : decode cL_law 1209 = .ok (.iconst 2, 1) := by decide +kernel
theorem dL_law_1210 : decode cL_law 1210 = .ok (.iadd, 1) := by decide +kernel
theorem dL_law_1211 : decode cL_law 1211 = .ok (.iaload, 1) := by decide +kernel
theorem dL_law_1212 : decode cL_law 1212 = .ok (.aload_n 0, 1) := by decide +kernel
theorem dL_law_1213 : decode cL_law 1213 = .ok (.iload_n 3, 1) := by decide +kernel
theorem dL_law_1214 : decode cL_law 1214 = .ok (.iconst 3, 1) := by decide +kernel
theorem dL_law_1215 : decode cL_law 1215 = .ok (.iadd, 1) := by decide +kernel
theorem dL_law_1216 : decode cL_law 1216 = .ok (.iaload, 1) := by decide +kernel
theorem dL_law_1217 : decode cL_law 1217 = .ok (.aload_n 0, 1) := by decide +kernel
theorem dL_law_1218 : decode cL_law 1218 = .ok (.iload_n 3, 1) := by decide +kernel
theorem dL_law_1219 : decode cL_law 1219 = .ok (.iconst 4, 1) := by decide +kernel
theorem dL_law_1220 : decode cL_law 1220 = .ok (.iadd, 1) := by decide +kernel
theorem dL_law_1221 : decode cL_law 1221 = .ok (.iaload, 1) := by decide +kernel
theorem dL_law_1222 : decode cL_law 1222 = .ok (.aload_n 0, 1) := by decide +kernel
theorem dL_law_1223 : decode cL_law 1223 = .ok (.iload_n 3, 1) := by decide +kernel
theorem dL_law_1224 : decode cL_law 1224 = .ok (.iconst 5, 1) := by decide +kernel
theorem dL_law_1225 : decode cL_law 1225 = .ok (.iadd, 1) := by decide +kernel
theorem dL_law_1226 : decode cL_law 1226 = .ok (.iaload, 1) := by decide +kernel
theorem dL_law_1227 : decode cL_law 1227 = .ok (.invokevirtual 174, 3) := by decide +kernel
theorem dL_law_1230 : decode cL_law 1230 = .ok (.aload_n 2, 1) := by decide +kernel
theorem dL_law_1231 : decode cL_law 1231 = .ok (.aload_n 0, 1) := by decide +kernel
theorem dL_law_1232 : decode cL_law 1232 = .ok (.iload_n 3, 1) := by decide +kernel
theorem dL_law_1233 : decode cL_law 1233 = .ok (.iconst 1, 1) := by decide +kernel
theorem dL_law_1234 : decode cL_law 1234 = .ok (.iadd, 1) := by decide +kernel
theorem dL_law_1235 : decode cL_law 1235 = .ok (.iaload, 1) := by decide +kernel
theorem dL_law_1236 : decode cL_law 1236 = .ok (.aload_n 0, 1) := by decide +kernel
theorem dL_law_1237 : decode cL_law 1237 = .ok (.iload_n 3, 1) := by decide +kernel
theorem dL_law_1238 : decode cL_law 1238 = .ok (.iconst 2, 1) := by decide +kernel
theorem dL_law_1239 : decode cL_law 1239 = .ok (.iadd, 1) := by decide +kernel
theorem dL_law_1240 : decode cL_law 1240 = .ok (.iaload, 1) := by decide +kernel
theorem dL_law_1241 : decode cL_law 1241 = .ok (.aload_n 0, 1) := by decide +kernel
theorem dL_law_1242 : decode cL_law 1242 = .ok (.iload_n 3, 1) := by decide +kernel
theorem dL_law_1243 : decode cL_law 1243 = .ok (.iconst 3, 1) := by decide +kernel
theorem dL_law_1244 : decode cL_law 1244 = .ok (.iadd, 1) := by decide +kernel
theorem dL_law_1245 : decode cL_law 1245 = .ok (.iaload, 1) := by decide +kernel
theorem dL_law_1246 : decode cL_law 1246 = .ok (.aload_n 0, 1) := by decide +kernel
theorem dL_law_1247 : decode cL_law 1247 = .ok (.iload_n 3, 1) := by decide +kernel
theorem dL_law_1248 : decode cL_law 1248 = .ok (.iconst 4, 1) := by decide +kernel
theorem dL_law_1249 : decode cL_law 1249 = .ok (.iadd, 1) := by decide +kernel
theorem dL_law_1250 : decode cL_law 1250 = .ok (.iaload, 1) := by decide +kernel
theorem dL_law_1251 : decode cL_law 1251 = .ok (.aload_n 0, 1) := by decide +kernel
theorem dL_law_1252 : decode cL_law 1252 = .ok (.iload_n 3, 1) := by decide +kernel
theorem dL_law_1253 : decode cL_law 1253 = .ok (.iconst 5, 1) := by decide +kernel
theorem dL_law_1254 : decode cL_law 1254 = .ok (.iadd, 1) := by decide +kernel
theorem dL_law_1255 : decode cL_law 1255 = .ok (.iaload, 1) := by decide +kernel
theorem dL_law_1256 : decode cL_law 1256 = .ok (.invokevirtual 178, 3) := by decide +kernel
theorem dL_law_1259 : decode cL_law 1259 = .ok (.if_icmp .eq 5, 3) := by decide +kernel
theorem dL_law_1262 : decode cL_law 1262 = .ok (.iconst 0, 1) := by decide +kernel
theorem dL_law_1263 : decode cL_law 1263 = .ok (.ireturn, 1) := by decide +kernel
theorem dL_law_1264 : decode cL_law 1264 = .ok (.iinc 3 6, 3) := by decide +kernel
theorem dL_law_1267 : decode cL_law 1267 = .ok (.goto (-1249), 3) := by decide +kernel
theorem dL_law_1270 : decode cL_law 1270 = .ok (.iconst 1, 1) := by decide +kernel
theorem dL_law_1271 : decode cL_law 1271 = .ok (.ireturn, 1) := by decide +kernel
