theorem d_Act_init_0 : decode prog_2_method_1_code 0 = .ok (.aload_n 0, 1) := by decide +kernel
theorem d_Act_init_1 : decode prog_2_method_1_code 1 = .ok (.invokespecial 1, 3) := by decide +kernel
theorem d_Act_init_4 : decode prog_2_method_1_code 4 = .ok (.aload_n 0, 1) := by decide +kernel
theorem d_Act_init_5 : decode prog_2_method_1_code 5 = .ok (.iconst 5, 1) := by decide +kernel
theorem d_Act_init_6 : decode prog_2_method_1_code 6 = .ok (.putfield 9, 3) := by decide +kernel
theorem d_Act_init_9 : decode prog_2_method_1_code 9 = .ok (.aload_n 0, 1) := by decide +kernel
theorem d_Act_init_10 : decode prog_2_method_1_code 10 = .ok (.iconst 0, 1) := by decide +kernel
theorem d_Act_init_11 : decode prog_2_method_1_code 11 = .ok (.putfield 13, 3) := by decide +kernel
theorem d_Act_init_14 : decode prog_2_method_1_code 14 = .ok (.aload_n 0, 1) := by decide +kernel
theorem d_Act_init_15 : decode prog_2_method_1_code 15 = .ok (.iconst 0, 1) := by decide +kernel
theorem d_Act_init_16 : decode prog_2_method_1_code 16 = .ok (.putfield 16, 3) := by decide +kernel
theorem d_Act_init_19 : decode prog_2_method_1_code 19 = .ok (.return_, 1) := by decide +kernel
theorem d_Act_set_0 : decode prog_2_method_2_code 0 = .ok (.aload_n 0, 1) := by decide +kernel
theorem d_Act_set_1 : decode prog_2_method_2_code 1 = .ok (.iload_n 1, 1) := by decide +kernel
theorem d_Act_set_2 : decode prog_2_method_2_code 2 = .ok (.putfield 9, 3) := by decide +kernel
theorem d_Act_set_5 : decode prog_2_method_2_code 5 = .ok (.aload_n 0, 1) := by decide +kernel
theorem d_Act_set_6 : decode prog_2_method_2_code 6 = .ok (.iload_n 2, 1) := by decide +kernel
theorem d_Act_set_7 : decode prog_2_method_2_code 7 = .ok (.putfield 13, 3) := by decide +kernel
theorem d_Act_set_10 : decode prog_2_method_2_code 10 = .ok (.aload_n 0, 1) := by decide +kernel
theorem d_Act_set_11 : decode prog_2_method_2_code 11 = .ok (.iload_n 3, 1) := by decide +kernel
theorem d_Act_set_12 : decode prog_2_method_2_code 12 = .ok (.putfield 16, 3) := by decide +kernel
theorem d_Act_set_15 : decode prog_2_method_2_code 15 = .ok (.return_, 1) := by decide +kernel
theorem d_Act_kind_0 : decode prog_2_method_3_code 0 = .ok (.aload_n 0, 1) := by decide +kernel
theorem d_Act_kind_1 : decode prog_2_method_3_code 1 = .ok (.getfield 9, 3) := by decide +kernel
theorem d_Act_kind_4 : decode prog_2_method_3_code 4 = .ok (.ireturn, 1) := by decide +kernel
theorem d_Act_one_0 : decode prog_2_method_4_code 0 = .ok (.aload_n 0, 1) := by decide +kernel
theorem d_Act_one_1 : decode prog_2_method_4_code 1 = .ok (.getfield 13, 3) := by decide +kernel
theorem d_Act_one_4 : decode prog_2_method_4_code 4 = .ok (.ireturn, 1) := by decide +kernel
theorem d_Act_other_0 : decode prog_2_method_5_code 0 = .ok (.aload_n 0, 1) := by decide +kernel
theorem d_Act_other_1 : decode prog_2_method_5_code 1 = .ok (.getfield 16, 3) := by decide +kernel
theorem d_Act_other_4 : decode prog_2_method_5_code 4 = .ok (.ireturn, 1) := by decide +kernel
theorem d_Chance_ways_0 : decode prog_3_method_2_code 0 = .ok (.iload_n 1, 1) := by decide +kernel
theorem d_Chance_ways_1 : decode prog_3_method_2_code 1 = .ok (.ifCond .lt 8, 3) := by decide +kernel
theorem d_Chance_ways_4 : decode prog_3_method_2_code 4 = .ok (.iload_n 1, 1) := by decide +kernel
theorem d_Chance_ways_5 : decode prog_3_method_2_code 5 = .ok (.iload_n 0, 1) := by decide +kernel
theorem d_Chance_ways_6 : decode prog_3_method_2_code 6 = .ok (.if_icmp .le 5, 3) := by decide +kernel
theorem d_Chance_ways_9 : decode prog_3_method_2_code 9 = .ok (.lconst 0, 1) := by decide +kernel
theorem d_Chance_ways_10 : decode prog_3_method_2_code 10 = .ok (.lreturn, 1) := by decide +kernel
theorem d_Chance_ways_11 : decode prog_3_method_2_code 11 = .ok (.lconst 1, 1) := by decide +kernel
theorem d_Chance_ways_12 : decode prog_3_method_2_code 12 = .ok (.lstore_n 2, 1) := by decide +kernel
theorem d_Chance_ways_13 : decode prog_3_method_2_code 13 = .ok (.iconst 1, 1) := by decide +kernel
theorem d_Chance_ways_14 : decode prog_3_method_2_code 14 = .ok (.istore 4, 2) := by decide +kernel
theorem d_Chance_ways_16 : decode prog_3_method_2_code 16 = .ok (.iload 4, 2) := by decide +kernel
theorem d_Chance_ways_18 : decode prog_3_method_2_code 18 = .ok (.iload_n 1, 1) := by decide +kernel
theorem d_Chance_ways_19 : decode prog_3_method_2_code 19 = .ok (.if_icmp .gt 23, 3) := by decide +kernel
theorem d_Chance_ways_22 : decode prog_3_method_2_code 22 = .ok (.lload_n 2, 1) := by decide +kernel
theorem d_Chance_ways_23 : decode prog_3_method_2_code 23 = .ok (.iload_n 0, 1) := by decide +kernel
theorem d_Chance_ways_24 : decode prog_3_method_2_code 24 = .ok (.iload_n 1, 1) := by decide +kernel
theorem d_Chance_ways_25 : decode prog_3_method_2_code 25 = .ok (.isub, 1) := by decide +kernel
theorem d_Chance_ways_26 : decode prog_3_method_2_code 26 = .ok (.iload 4, 2) := by decide +kernel
theorem d_Chance_ways_28 : decode prog_3_method_2_code 28 = .ok (.iadd, 1) := by decide +kernel
theorem d_Chance_ways_29 : decode prog_3_method_2_code 29 = .ok (.i2l, 1) := by decide +kernel
theorem d_Chance_ways_30 : decode prog_3_method_2_code 30 = .ok (.lmul, 1) := by decide +kernel
theorem d_Chance_ways_31 : decode prog_3_method_2_code 31 = .ok (.iload 4, 2) := by decide +kernel
theorem d_Chance_ways_33 : decode prog_3_method_2_code 33 = .ok (.i2l, 1) := by decide +kernel
theorem d_Chance_ways_34 : decode prog_3_method_2_code 34 = .ok (.ldiv, 1) := by decide +kernel
theorem d_Chance_ways_35 : decode prog_3_method_2_code 35 = .ok (.lstore_n 2, 1) := by decide +kernel
theorem d_Chance_ways_36 : decode prog_3_method_2_code 36 = .ok (.iinc 4 1, 3) := by decide +kernel
theorem d_Chance_ways_39 : decode prog_3_method_2_code 39 = .ok (.goto (-23), 3) := by decide +kernel
theorem d_Chance_ways_42 : decode prog_3_method_2_code 42 = .ok (.lload_n 2, 1) := by decide +kernel
theorem d_Chance_ways_43 : decode prog_3_method_2_code 43 = .ok (.lreturn, 1) := by decide +kernel
theorem d_Chance_waysAtLeast_0 : decode prog_3_method_3_code 0 = .ok (.lconst 0, 1) := by decide +kernel
theorem d_Chance_waysAtLeast_1 : decode prog_3_method_3_code 1 = .ok (.lstore 4, 2) := by decide +kernel
theorem d_Chance_waysAtLeast_3 : decode prog_3_method_3_code 3 = .ok (.iload_n 3, 1) := by decide +kernel
theorem d_Chance_waysAtLeast_4 : decode prog_3_method_3_code 4 = .ok (.istore 6, 2) := by decide +kernel
theorem d_Chance_waysAtLeast_6 : decode prog_3_method_3_code 6 = .ok (.iload 6, 2) := by decide +kernel
theorem d_Chance_waysAtLeast_8 : decode prog_3_method_3_code 8 = .ok (.iload_n 2, 1) := by decide +kernel
theorem d_Chance_waysAtLeast_9 : decode prog_3_method_3_code 9 = .ok (.if_icmp .gt 31, 3) := by decide +kernel
theorem d_Chance_waysAtLeast_12 : decode prog_3_method_3_code 12 = .ok (.lload 4, 2) := by decide +kernel
theorem d_Chance_waysAtLeast_14 : decode prog_3_method_3_code 14 = .ok (.iload_n 1, 1) := by decide +kernel
theorem d_Chance_waysAtLeast_15 : decode prog_3_method_3_code 15 = .ok (.iload 6, 2) := by decide +kernel
theorem d_Chance_waysAtLeast_17 : decode prog_3_method_3_code 17 = .ok (.invokestatic 7, 3) := by decide +kernel
theorem d_Chance_waysAtLeast_20 : decode prog_3_method_3_code 20 = .ok (.iload_n 0, 1) := by decide +kernel
theorem d_Chance_waysAtLeast_21 : decode prog_3_method_3_code 21 = .ok (.iload_n 1, 1) := by decide +kernel
theorem d_Chance_waysAtLeast_22 : decode prog_3_method_3_code 22 = .ok (.isub, 1) := by decide +kernel
theorem d_Chance_waysAtLeast_23 : decode prog_3_method_3_code 23 = .ok (.iload_n 2, 1) := by decide +kernel
theorem d_Chance_waysAtLeast_24 : decode prog_3_method_3_code 24 = .ok (.iload 6, 2) := by decide +kernel
theorem d_Chance_waysAtLeast_26 : decode prog_3_method_3_code 26 = .ok (.isub, 1) := by decide +kernel
theorem d_Chance_waysAtLeast_27 : decode prog_3_method_3_code 27 = .ok (.invokestatic 7, 3) := by decide +kernel
theorem d_Chance_waysAtLeast_30 : decode prog_3_method_3_code 30 = .ok (.lmul, 1) := by decide +kernel
theorem d_Chance_waysAtLeast_31 : decode prog_3_method_3_code 31 = .ok (.ladd, 1) := by decide +kernel
theorem d_Chance_waysAtLeast_32 : decode prog_3_method_3_code 32 = .ok (.lstore 4, 2) := by decide +kernel
theorem d_Chance_waysAtLeast_34 : decode prog_3_method_3_code 34 = .ok (.iinc 6 1, 3) := by decide +kernel
theorem d_Chance_waysAtLeast_37 : decode prog_3_method_3_code 37 = .ok (.goto (-31), 3) := by decide +kernel
theorem d_Chance_waysAtLeast_40 : decode prog_3_method_3_code 40 = .ok (.lload 4, 2) := by decide +kernel
theorem d_Chance_waysAtLeast_42 : decode prog_3_method_3_code 42 = .ok (.lreturn, 1) := by decide +kernel
theorem d_Chance_lowest_0 : decode prog_3_method_4_code 0 = .ok (.lload_n 0, 1) := by decide +kernel
theorem d_Chance_lowest_1 : decode prog_3_method_4_code 1 = .ok (.lload_n 2, 1) := by decide +kernel
theorem d_Chance_lowest_2 : decode prog_3_method_4_code 2 = .ok (.invokestatic 13, 3) := by decide +kernel
theorem d_Chance_lowest_5 : decode prog_3_method_4_code 5 = .ok (.lconst 1, 1) := by decide +kernel
theorem d_Chance_lowest_6 : decode prog_3_method_4_code 6 = .ok (.invokestatic 17, 3) := by decide +kernel
theorem d_Chance_lowest_9 : decode prog_3_method_4_code 9 = .ok (.lstore 5, 2) := by decide +kernel
theorem d_Chance_lowest_11 : decode prog_3_method_4_code 11 = .ok (.iload 4, 2) := by decide +kernel
theorem d_Chance_lowest_13 : decode prog_3_method_4_code 13 = .ok (.ifCond .ne 7, 3) := by decide +kernel
theorem d_Chance_lowest_16 : decode prog_3_method_4_code 16 = .ok (.lload_n 0, 1) := by decide +kernel
theorem d_Chance_lowest_17 : decode prog_3_method_4_code 17 = .ok (.goto 4, 3) := by decide +kernel
theorem d_Chance_lowest_20 : decode prog_3_method_4_code 20 = .ok (.lload_n 2, 1) := by decide +kernel
theorem d_Chance_lowest_21 : decode prog_3_method_4_code 21 = .ok (.lload 5, 2) := by decide +kernel
theorem d_Chance_lowest_23 : decode prog_3_method_4_code 23 = .ok (.ldiv, 1) := by decide +kernel
theorem d_Chance_lowest_24 : decode prog_3_method_4_code 24 = .ok (.lreturn, 1) := by decide +kernel
theorem d_Chance_commonDivisor_0 : decode prog_3_method_5_code 0 = .ok (.iconst 0, 1) := by decide +kernel
theorem d_Chance_commonDivisor_1 : decode prog_3_method_5_code 1 = .ok (.istore 4, 2) := by decide +kernel
theorem d_Chance_commonDivisor_3 : decode prog_3_method_5_code 3 = .ok (.iload 4, 2) := by decide +kernel
theorem d_Chance_commonDivisor_5 : decode prog_3_method_5_code 5 = .ok (.sipush 1000, 3) := by decide +kernel
theorem d_Chance_commonDivisor_8 : decode prog_3_method_5_code 8 = .ok (.if_icmp .ge 25, 3) := by decide +kernel
theorem d_Chance_commonDivisor_11 : decode prog_3_method_5_code 11 = .ok (.lload_n 2, 1) := by decide +kernel
theorem d_Chance_commonDivisor_12 : decode prog_3_method_5_code 12 = .ok (.lconst 0, 1) := by decide +kernel
theorem d_Chance_commonDivisor_13 : decode prog_3_method_5_code 13 = .ok (.lcmp, 1) := by decide +kernel
theorem d_Chance_commonDivisor_14 : decode prog_3_method_5_code 14 = .ok (.ifCond .eq 19, 3) := by decide +kernel
theorem d_Chance_commonDivisor_17 : decode prog_3_method_5_code 17 = .ok (.lload_n 0, 1) := by decide +kernel
theorem d_Chance_commonDivisor_18 : decode prog_3_method_5_code 18 = .ok (.lload_n 2, 1) := by decide +kernel
theorem d_Chance_commonDivisor_19 : decode prog_3_method_5_code 19 = .ok (.lrem, 1) := by decide +kernel
theorem d_Chance_commonDivisor_20 : decode prog_3_method_5_code 20 = .ok (.lstore 5, 2) := by decide +kernel
theorem d_Chance_commonDivisor_22 : decode prog_3_method_5_code 22 = .ok (.lload_n 2, 1) := by decide +kernel
theorem d_Chance_commonDivisor_23 : decode prog_3_method_5_code 23 = .ok (.lstore_n 0, 1) := by decide +kernel
theorem d_Chance_commonDivisor_24 : decode prog_3_method_5_code 24 = .ok (.lload 5, 2) := by decide +kernel
theorem d_Chance_commonDivisor_26 : decode prog_3_method_5_code 26 = .ok (.lstore_n 2, 1) := by decide +kernel
theorem d_Chance_commonDivisor_27 : decode prog_3_method_5_code 27 = .ok (.iinc 4 1, 3) := by decide +kernel
theorem d_Chance_commonDivisor_30 : decode prog_3_method_5_code 30 = .ok (.goto (-27), 3) := by decide +kernel
theorem d_Chance_commonDivisor_33 : decode prog_3_method_5_code 33 = .ok (.lload_n 0, 1) := by decide +kernel
theorem d_Chance_commonDivisor_34 : decode prog_3_method_5_code 34 = .ok (.lreturn, 1) := by decide +kernel
theorem d_Choice_init_0 : decode prog_4_method_1_code 0 = .ok (.aload_n 0, 1) := by decide +kernel
theorem d_Choice_init_1 : decode prog_4_method_1_code 1 = .ok (.invokespecial 3, 3) := by decide +kernel
theorem d_Choice_init_4 : decode prog_4_method_1_code 4 = .ok (.aload_n 0, 1) := by decide +kernel
theorem d_Choice_init_5 : decode prog_4_method_1_code 5 = .ok (.bipush 12, 2) := by decide +kernel
theorem d_Choice_init_7 : decode prog_4_method_1_code 7 = .ok (.newarray .int, 2) := by decide +kernel
theorem d_Choice_init_9 : decode prog_4_method_1_code 9 = .ok (.putfield 9, 3) := by decide +kernel
theorem d_Choice_init_12 : decode prog_4_method_1_code 12 = .ok (.return_, 1) := by decide +kernel
theorem d_Choice_mostApart_0 : decode prog_4_method_2_code 0 = .ok (.aload_n 0, 1) := by decide +kernel
theorem d_Choice_mostApart_1 : decode prog_4_method_2_code 1 = .ok (.aload_n 1, 1) := by decide +kernel
theorem d_Choice_mostApart_2 : decode prog_4_method_2_code 2 = .ok (.iload_n 2, 1) := by decide +kernel
theorem d_Choice_mostApart_3 : decode prog_4_method_2_code 3 = .ok (.invokevirtual 15, 3) := by decide +kernel
theorem d_Choice_mostApart_6 : decode prog_4_method_2_code 6 = .ok (.iconst 0, 1) := by decide +kernel
theorem d_Choice_mostApart_7 : decode prog_4_method_2_code 7 = .ok (.istore_n 3, 1) := by decide +kernel
theorem d_Choice_mostApart_8 : decode prog_4_method_2_code 8 = .ok (.iconst 0, 1) := by decide +kernel
theorem d_Choice_mostApart_9 : decode prog_4_method_2_code 9 = .ok (.istore 4, 2) := by decide +kernel
theorem d_Choice_mostApart_11 : decode prog_4_method_2_code 11 = .ok (.iconst 1, 1) := by decide +kernel
theorem d_Choice_mostApart_12 : decode prog_4_method_2_code 12 = .ok (.istore 5, 2) := by decide +kernel
theorem d_Choice_mostApart_14 : decode prog_4_method_2_code 14 = .ok (.iload 5, 2) := by decide +kernel
theorem d_Choice_mostApart_16 : decode prog_4_method_2_code 16 = .ok (.sipush 4095, 3) := by decide +kernel
theorem d_Choice_mostApart_19 : decode prog_4_method_2_code 19 = .ok (.if_icmp .gt 39, 3) := by decide +kernel
theorem d_Choice_mostApart_22 : decode prog_4_method_2_code 22 = .ok (.iload 5, 2) := by decide +kernel
theorem d_Choice_mostApart_24 : decode prog_4_method_2_code 24 = .ok (.invokestatic 19, 3) := by decide +kernel
theorem d_Choice_mostApart_27 : decode prog_4_method_2_code 27 = .ok (.istore 6, 2) := by decide +kernel
theorem d_Choice_mostApart_29 : decode prog_4_method_2_code 29 = .ok (.iload 6, 2) := by decide +kernel
theorem d_Choice_mostApart_31 : decode prog_4_method_2_code 31 = .ok (.iload 4, 2) := by decide +kernel
theorem d_Choice_mostApart_33 : decode prog_4_method_2_code 33 = .ok (.if_icmp .le 19, 3) := by decide +kernel
theorem d_Choice_mostApart_36 : decode prog_4_method_2_code 36 = .ok (.aload_n 0, 1) := by decide +kernel
theorem d_Choice_mostApart_37 : decode prog_4_method_2_code 37 = .ok (.iload 5, 2) := by decide +kernel
theorem d_Choice_mostApart_39 : decode prog_4_method_2_code 39 = .ok (.invokevirtual 25, 3) := by decide +kernel
theorem d_Choice_mostApart_42 : decode prog_4_method_2_code 42 = .ok (.ifCond .eq 10, 3) := by decide +kernel
theorem d_Choice_mostApart_45 : decode prog_4_method_2_code 45 = .ok (.iload 5, 2) := by decide +kernel
theorem d_Choice_mostApart_47 : decode prog_4_method_2_code 47 = .ok (.istore_n 3, 1) := by decide +kernel
theorem d_Choice_mostApart_48 : decode prog_4_method_2_code 48 = .ok (.iload 6, 2) := by decide +kernel
theorem d_Choice_mostApart_50 : decode prog_4_method_2_code 50 = .ok (.istore 4, 2) := by decide +kernel
theorem d_Choice_mostApart_52 : decode prog_4_method_2_code 52 = .ok (.iinc 5 1, 3) := by decide +kernel
theorem d_Choice_mostApart_55 : decode prog_4_method_2_code 55 = .ok (.goto (-41), 3) := by decide +kernel
theorem d_Choice_mostApart_58 : decode prog_4_method_2_code 58 = .ok (.iload_n 3, 1) := by decide +kernel
theorem d_Choice_mostApart_59 : decode prog_4_method_2_code 59 = .ok (.ireturn, 1) := by decide +kernel
theorem d_Choice_fewestLighting_0 : decode prog_4_method_3_code 0 = .ok (.aload_n 0, 1) := by decide +kernel
theorem d_Choice_fewestLighting_1 : decode prog_4_method_3_code 1 = .ok (.aload_n 1, 1) := by decide +kernel
theorem d_Choice_fewestLighting_2 : decode prog_4_method_3_code 2 = .ok (.iload_n 2, 1) := by decide +kernel
theorem d_Choice_fewestLighting_3 : decode prog_4_method_3_code 3 = .ok (.invokevirtual 15, 3) := by decide +kernel
theorem d_Choice_fewestLighting_6 : decode prog_4_method_3_code 6 = .ok (.sipush 4095, 3) := by decide +kernel
theorem d_Choice_fewestLighting_9 : decode prog_4_method_3_code 9 = .ok (.istore_n 3, 1) := by decide +kernel
theorem d_Choice_fewestLighting_10 : decode prog_4_method_3_code 10 = .ok (.bipush 12, 2) := by decide +kernel
theorem d_Choice_fewestLighting_12 : decode prog_4_method_3_code 12 = .ok (.istore 4, 2) := by decide +kernel
theorem d_Choice_fewestLighting_14 : decode prog_4_method_3_code 14 = .ok (.iconst 1, 1) := by decide +kernel
theorem d_Choice_fewestLighting_15 : decode prog_4_method_3_code 15 = .ok (.istore 5, 2) := by decide +kernel
theorem d_Choice_fewestLighting_17 : decode prog_4_method_3_code 17 = .ok (.iload 5, 2) := by decide +kernel
theorem d_Choice_fewestLighting_19 : decode prog_4_method_3_code 19 = .ok (.sipush 4095, 3) := by decide +kernel
theorem d_Choice_fewestLighting_22 : decode prog_4_method_3_code 22 = .ok (.if_icmp .ge 39, 3) := by decide +kernel
theorem d_Choice_fewestLighting_25 : decode prog_4_method_3_code 25 = .ok (.iload 5, 2) := by decide +kernel
theorem d_Choice_fewestLighting_27 : decode prog_4_method_3_code 27 = .ok (.invokestatic 19, 3) := by decide +kernel
theorem d_Choice_fewestLighting_30 : decode prog_4_method_3_code 30 = .ok (.istore 6, 2) := by decide +kernel
theorem d_Choice_fewestLighting_32 : decode prog_4_method_3_code 32 = .ok (.iload 6, 2) := by decide +kernel
theorem d_Choice_fewestLighting_34 : decode prog_4_method_3_code 34 = .ok (.iload 4, 2) := by decide +kernel
theorem d_Choice_fewestLighting_36 : decode prog_4_method_3_code 36 = .ok (.if_icmp .ge 19, 3) := by decide +kernel
theorem d_Choice_fewestLighting_39 : decode prog_4_method_3_code 39 = .ok (.aload_n 0, 1) := by decide +kernel
theorem d_Choice_fewestLighting_40 : decode prog_4_method_3_code 40 = .ok (.iload 5, 2) := by decide +kernel
theorem d_Choice_fewestLighting_42 : decode prog_4_method_3_code 42 = .ok (.invokevirtual 29, 3) := by decide +kernel
theorem d_Choice_fewestLighting_45 : decode prog_4_method_3_code 45 = .ok (.ifCond .eq 10, 3) := by decide +kernel
theorem d_Choice_fewestLighting_48 : decode prog_4_method_3_code 48 = .ok (.iload 5, 2) := by decide +kernel
theorem d_Choice_fewestLighting_50 : decode prog_4_method_3_code 50 = .ok (.istore_n 3, 1) := by decide +kernel
theorem d_Choice_fewestLighting_51 : decode prog_4_method_3_code 51 = .ok (.iload 6, 2) := by decide +kernel
theorem d_Choice_fewestLighting_53 : decode prog_4_method_3_code 53 = .ok (.istore 4, 2) := by decide +kernel
theorem d_Choice_fewestLighting_55 : decode prog_4_method_3_code 55 = .ok (.iinc 5 1, 3) := by decide +kernel
theorem d_Choice_fewestLighting_58 : decode prog_4_method_3_code 58 = .ok (.goto (-41), 3) := by decide +kernel
theorem d_Choice_fewestLighting_61 : decode prog_4_method_3_code 61 = .ok (.iload_n 3, 1) := by decide +kernel
theorem d_Choice_fewestLighting_62 : decode prog_4_method_3_code 62 = .ok (.ireturn, 1) := by decide +kernel
theorem d_Choice_lookAround_0 : decode prog_4_method_4_code 0 = .ok (.iconst 0, 1) := by decide +kernel
theorem d_Choice_lookAround_1 : decode prog_4_method_4_code 1 = .ok (.istore_n 3, 1) := by decide +kernel
theorem d_Choice_lookAround_2 : decode prog_4_method_4_code 2 = .ok (.iload_n 3, 1) := by decide +kernel
theorem d_Choice_lookAround_3 : decode prog_4_method_4_code 3 = .ok (.aload_n 0, 1) := by decide +kernel
theorem d_Choice_lookAround_4 : decode prog_4_method_4_code 4 = .ok (.getfield 9, 3) := by decide +kernel
theorem d_Choice_lookAround_7 : decode prog_4_method_4_code 7 = .ok (.arraylength, 1) := by decide +kernel
theorem d_Choice_lookAround_8 : decode prog_4_method_4_code 8 = .ok (.if_icmp .ge 22, 3) := by decide +kernel
theorem d_Choice_lookAround_11 : decode prog_4_method_4_code 11 = .ok (.aload_n 0, 1) := by decide +kernel
theorem d_Choice_lookAround_12 : decode prog_4_method_4_code 12 = .ok (.getfield 9, 3) := by decide +kernel
theorem d_Choice_lookAround_15 : decode prog_4_method_4_code 15 = .ok (.iload_n 3, 1) := by decide +kernel
theorem d_Choice_lookAround_16 : decode prog_4_method_4_code 16 = .ok (.aload_n 1, 1) := by decide +kernel
theorem d_Choice_lookAround_17 : decode prog_4_method_4_code 17 = .ok (.iload_n 3, 1) := by decide +kernel
theorem d_Choice_lookAround_18 : decode prog_4_method_4_code 18 = .ok (.iconst 0, 1) := by decide +kernel
theorem d_Choice_lookAround_19 : decode prog_4_method_4_code 19 = .ok (.iload_n 2, 1) := by decide +kernel
theorem d_Choice_lookAround_20 : decode prog_4_method_4_code 20 = .ok (.invokevirtual 32, 3) := by decide +kernel
theorem d_Choice_lookAround_23 : decode prog_4_method_4_code 23 = .ok (.iastore, 1) := by decide +kernel
theorem d_Choice_lookAround_24 : decode prog_4_method_4_code 24 = .ok (.iinc 3 1, 3) := by decide +kernel
theorem d_Choice_lookAround_27 : decode prog_4_method_4_code 27 = .ok (.goto (-25), 3) := by decide +kernel
theorem d_Choice_lookAround_30 : decode prog_4_method_4_code 30 = .ok (.return_, 1) := by decide +kernel
theorem d_Choice_standsApart_0 : decode prog_4_method_5_code 0 = .ok (.iconst 0, 1) := by decide +kernel
theorem d_Choice_standsApart_1 : decode prog_4_method_5_code 1 = .ok (.istore_n 2, 1) := by decide +kernel
theorem d_Choice_standsApart_2 : decode prog_4_method_5_code 2 = .ok (.iload_n 2, 1) := by decide +kernel
theorem d_Choice_standsApart_3 : decode prog_4_method_5_code 3 = .ok (.aload_n 0, 1) := by decide +kernel
theorem d_Choice_standsApart_4 : decode prog_4_method_5_code 4 = .ok (.getfield 9, 3) := by decide +kernel
theorem d_Choice_standsApart_7 : decode prog_4_method_5_code 7 = .ok (.arraylength, 1) := by decide +kernel
theorem d_Choice_standsApart_8 : decode prog_4_method_5_code 8 = .ok (.if_icmp .ge 33, 3) := by decide +kernel
theorem d_Choice_standsApart_11 : decode prog_4_method_5_code 11 = .ok (.iload_n 1, 1) := by decide +kernel
theorem d_Choice_standsApart_12 : decode prog_4_method_5_code 12 = .ok (.iload_n 2, 1) := by decide +kernel
theorem d_Choice_standsApart_13 : decode prog_4_method_5_code 13 = .ok (.invokestatic 38, 3) := by decide +kernel
theorem d_Choice_standsApart_16 : decode prog_4_method_5_code 16 = .ok (.ifCond .eq 19, 3) := by decide +kernel
theorem d_Choice_standsApart_19 : decode prog_4_method_5_code 19 = .ok (.aload_n 0, 1) := by decide +kernel
theorem d_Choice_standsApart_20 : decode prog_4_method_5_code 20 = .ok (.getfield 9, 3) := by decide +kernel
theorem d_Choice_standsApart_23 : decode prog_4_method_5_code 23 = .ok (.iload_n 2, 1) := by decide +kernel
theorem d_Choice_standsApart_24 : decode prog_4_method_5_code 24 = .ok (.iaload, 1) := by decide +kernel
theorem d_Choice_standsApart_25 : decode prog_4_method_5_code 25 = .ok (.iload_n 1, 1) := by decide +kernel
theorem d_Choice_standsApart_26 : decode prog_4_method_5_code 26 = .ok (.iand, 1) := by decide +kernel
theorem d_Choice_standsApart_27 : decode prog_4_method_5_code 27 = .ok (.iconst 1, 1) := by decide +kernel
theorem d_Choice_standsApart_28 : decode prog_4_method_5_code 28 = .ok (.iload_n 2, 1) := by decide +kernel
theorem d_Choice_standsApart_29 : decode prog_4_method_5_code 29 = .ok (.ishl, 1) := by decide +kernel
theorem d_Choice_standsApart_30 : decode prog_4_method_5_code 30 = .ok (.if_icmp .eq 5, 3) := by decide +kernel
theorem d_Choice_standsApart_33 : decode prog_4_method_5_code 33 = .ok (.iconst 0, 1) := by decide +kernel
theorem d_Choice_standsApart_34 : decode prog_4_method_5_code 34 = .ok (.ireturn, 1) := by decide +kernel
theorem d_Choice_standsApart_35 : decode prog_4_method_5_code 35 = .ok (.iinc 2 1, 3) := by decide +kernel
theorem d_Choice_standsApart_38 : decode prog_4_method_5_code 38 = .ok (.goto (-36), 3) := by decide +kernel
theorem d_Choice_standsApart_41 : decode prog_4_method_5_code 41 = .ok (.iconst 1, 1) := by decide +kernel
theorem d_Choice_standsApart_42 : decode prog_4_method_5_code 42 = .ok (.ireturn, 1) := by decide +kernel
theorem d_Choice_lightsAll_0 : decode prog_4_method_6_code 0 = .ok (.iconst 0, 1) := by decide +kernel
theorem d_Choice_lightsAll_1 : decode prog_4_method_6_code 1 = .ok (.istore_n 2, 1) := by decide +kernel
theorem d_Choice_lightsAll_2 : decode prog_4_method_6_code 2 = .ok (.iconst 0, 1) := by decide +kernel
theorem d_Choice_lightsAll_3 : decode prog_4_method_6_code 3 = .ok (.istore_n 3, 1) := by decide +kernel
theorem d_Choice_lightsAll_4 : decode prog_4_method_6_code 4 = .ok (.iload_n 3, 1) := by decide +kernel
theorem d_Choice_lightsAll_5 : decode prog_4_method_6_code 5 = .ok (.aload_n 0, 1) := by decide +kernel
theorem d_Choice_lightsAll_6 : decode prog_4_method_6_code 6 = .ok (.getfield 9, 3) := by decide +kernel
theorem d_Choice_lightsAll_9 : decode prog_4_method_6_code 9 = .ok (.arraylength, 1) := by decide +kernel
theorem d_Choice_lightsAll_10 : decode prog_4_method_6_code 10 = .ok (.if_icmp .ge 26, 3) := by decide +kernel
theorem d_Choice_lightsAll_13 : decode prog_4_method_6_code 13 = .ok (.iload_n 1, 1) := by decide +kernel
theorem d_Choice_lightsAll_14 : decode prog_4_method_6_code 14 = .ok (.iload_n 3, 1) := by decide +kernel
theorem d_Choice_lightsAll_15 : decode prog_4_method_6_code 15 = .ok (.invokestatic 38, 3) := by decide +kernel
theorem d_Choice_lightsAll_18 : decode prog_4_method_6_code 18 = .ok (.ifCond .eq 12, 3) := by decide +kernel
theorem d_Choice_lightsAll_21 : decode prog_4_method_6_code 21 = .ok (.iload_n 2, 1) := by decide +kernel
theorem d_Choice_lightsAll_22 : decode prog_4_method_6_code 22 = .ok (.aload_n 0, 1) := by decide +kernel
theorem d_Choice_lightsAll_23 : decode prog_4_method_6_code 23 = .ok (.getfield 9, 3) := by decide +kernel
theorem d_Choice_lightsAll_26 : decode prog_4_method_6_code 26 = .ok (.iload_n 3, 1) := by decide +kernel
theorem d_Choice_lightsAll_27 : decode prog_4_method_6_code 27 = .ok (.iaload, 1) := by decide +kernel
theorem d_Choice_lightsAll_28 : decode prog_4_method_6_code 28 = .ok (.ior, 1) := by decide +kernel
theorem d_Choice_lightsAll_29 : decode prog_4_method_6_code 29 = .ok (.istore_n 2, 1) := by decide +kernel
theorem d_Choice_lightsAll_30 : decode prog_4_method_6_code 30 = .ok (.iinc 3 1, 3) := by decide +kernel
theorem d_Choice_lightsAll_33 : decode prog_4_method_6_code 33 = .ok (.goto (-29), 3) := by decide +kernel
theorem d_Choice_lightsAll_36 : decode prog_4_method_6_code 36 = .ok (.iload_n 2, 1) := by decide +kernel
theorem d_Choice_lightsAll_37 : decode prog_4_method_6_code 37 = .ok (.sipush 4095, 3) := by decide +kernel
theorem d_Choice_lightsAll_40 : decode prog_4_method_6_code 40 = .ok (.if_icmp .ne 7, 3) := by decide +kernel
theorem d_Choice_lightsAll_43 : decode prog_4_method_6_code 43 = .ok (.iconst 1, 1) := by decide +kernel
theorem d_Choice_lightsAll_44 : decode prog_4_method_6_code 44 = .ok (.goto 4, 3) := by decide +kernel
theorem d_Choice_lightsAll_47 : decode prog_4_method_6_code 47 = .ok (.iconst 0, 1) := by decide +kernel
theorem d_Choice_lightsAll_48 : decode prog_4_method_6_code 48 = .ok (.ireturn, 1) := by decide +kernel
theorem d_Cutting_init_0 : decode prog_5_method_1_code 0 = .ok (.aload_n 0, 1) := by decide +kernel
theorem d_Cutting_init_1 : decode prog_5_method_1_code 1 = .ok (.invokespecial 3, 3) := by decide +kernel
theorem d_Cutting_init_4 : decode prog_5_method_1_code 4 = .ok (.aload_n 0, 1) := by decide +kernel
theorem d_Cutting_init_5 : decode prog_5_method_1_code 5 = .ok (.bipush 12, 2) := by decide +kernel
theorem d_Cutting_init_7 : decode prog_5_method_1_code 7 = .ok (.newarray .int, 2) := by decide +kernel
theorem d_Cutting_init_9 : decode prog_5_method_1_code 9 = .ok (.putfield 9, 3) := by decide +kernel
theorem d_Cutting_init_12 : decode prog_5_method_1_code 12 = .ok (.return_, 1) := by decide +kernel
theorem d_Cutting_worth_0 : decode prog_5_method_2_code 0 = .ok (.iconst 0, 1) := by decide +kernel
theorem d_Cutting_worth_1 : decode prog_5_method_2_code 1 = .ok (.istore_n 3, 1) := by decide +kernel
theorem d_Cutting_worth_2 : decode prog_5_method_2_code 2 = .ok (.iload_n 3, 1) := by decide +kernel
theorem d_Cutting_worth_3 : decode prog_5_method_2_code 3 = .ok (.aload_n 0, 1) := by decide +kernel
theorem d_Cutting_worth_4 : decode prog_5_method_2_code 4 = .ok (.getfield 9, 3) := by decide +kernel
theorem d_Cutting_worth_7 : decode prog_5_method_2_code 7 = .ok (.arraylength, 1) := by decide +kernel
theorem d_Cutting_worth_8 : decode prog_5_method_2_code 8 = .ok (.if_icmp .ge 16, 3) := by decide +kernel
theorem d_Cutting_worth_11 : decode prog_5_method_2_code 11 = .ok (.aload_n 0, 1) := by decide +kernel
theorem d_Cutting_worth_12 : decode prog_5_method_2_code 12 = .ok (.getfield 9, 3) := by decide +kernel
theorem d_Cutting_worth_15 : decode prog_5_method_2_code 15 = .ok (.iload_n 3, 1) := by decide +kernel
theorem d_Cutting_worth_16 : decode prog_5_method_2_code 16 = .ok (.iconst 0, 1) := by decide +kernel
theorem d_Cutting_worth_17 : decode prog_5_method_2_code 17 = .ok (.iastore, 1) := by decide +kernel
theorem d_Cutting_worth_18 : decode prog_5_method_2_code 18 = .ok (.iinc 3 1, 3) := by decide +kernel
theorem d_Cutting_worth_21 : decode prog_5_method_2_code 21 = .ok (.goto (-19), 3) := by decide +kernel
theorem d_Cutting_worth_24 : decode prog_5_method_2_code 24 = .ok (.aload_n 0, 1) := by decide +kernel
theorem d_Cutting_worth_25 : decode prog_5_method_2_code 25 = .ok (.getfield 9, 3) := by decide +kernel
theorem d_Cutting_worth_28 : decode prog_5_method_2_code 28 = .ok (.arraylength, 1) := by decide +kernel
theorem d_Cutting_worth_29 : decode prog_5_method_2_code 29 = .ok (.iconst 1, 1) := by decide +kernel
theorem d_Cutting_worth_30 : decode prog_5_method_2_code 30 = .ok (.isub, 1) := by decide +kernel
theorem d_Cutting_worth_31 : decode prog_5_method_2_code 31 = .ok (.istore_n 3, 1) := by decide +kernel
theorem d_Cutting_worth_32 : decode prog_5_method_2_code 32 = .ok (.iload_n 3, 1) := by decide +kernel
theorem d_Cutting_worth_33 : decode prog_5_method_2_code 33 = .ok (.ifCond .le 57, 3) := by decide +kernel
theorem d_Cutting_worth_36 : decode prog_5_method_2_code 36 = .ok (.aload_n 1, 1) := by decide +kernel
theorem d_Cutting_worth_37 : decode prog_5_method_2_code 37 = .ok (.iload_n 3, 1) := by decide +kernel
theorem d_Cutting_worth_38 : decode prog_5_method_2_code 38 = .ok (.invokevirtual 15, 3) := by decide +kernel
theorem d_Cutting_worth_41 : decode prog_5_method_2_code 41 = .ok (.istore 4, 2) := by decide +kernel
theorem d_Cutting_worth_43 : decode prog_5_method_2_code 43 = .ok (.iload_n 3, 1) := by decide +kernel
theorem d_Cutting_worth_44 : decode prog_5_method_2_code 44 = .ok (.iload_n 2, 1) := by decide +kernel
theorem d_Cutting_worth_45 : decode prog_5_method_2_code 45 = .ok (.if_icmp .eq 39, 3) := by decide +kernel
theorem d_Cutting_worth_48 : decode prog_5_method_2_code 48 = .ok (.iload 4, 2) := by decide +kernel
theorem d_Cutting_worth_50 : decode prog_5_method_2_code 50 = .ok (.ifCond .lt 34, 3) := by decide +kernel
theorem d_Cutting_worth_53 : decode prog_5_method_2_code 53 = .ok (.iload 4, 2) := by decide +kernel
theorem d_Cutting_worth_55 : decode prog_5_method_2_code 55 = .ok (.aload_n 0, 1) := by decide +kernel
theorem d_Cutting_worth_56 : decode prog_5_method_2_code 56 = .ok (.getfield 9, 3) := by decide +kernel
theorem d_Cutting_worth_59 : decode prog_5_method_2_code 59 = .ok (.arraylength, 1) := by decide +kernel
theorem d_Cutting_worth_60 : decode prog_5_method_2_code 60 = .ok (.if_icmp .lt 6, 3) := by decide +kernel
theorem d_Cutting_worth_63 : decode prog_5_method_2_code 63 = .ok (.goto 21, 3) := by decide +kernel
theorem d_Cutting_worth_66 : decode prog_5_method_2_code 66 = .ok (.aload_n 0, 1) := by decide +kernel
theorem d_Cutting_worth_67 : decode prog_5_method_2_code 67 = .ok (.getfield 9, 3) := by decide +kernel
theorem d_Cutting_worth_70 : decode prog_5_method_2_code 70 = .ok (.iload 4, 2) := by decide +kernel
theorem d_Cutting_worth_72 : decode prog_5_method_2_code 72 = .ok (.dup2, 1) := by decide +kernel
theorem d_Cutting_worth_73 : decode prog_5_method_2_code 73 = .ok (.iaload, 1) := by decide +kernel
theorem d_Cutting_worth_74 : decode prog_5_method_2_code 74 = .ok (.aload_n 0, 1) := by decide +kernel
theorem d_Cutting_worth_75 : decode prog_5_method_2_code 75 = .ok (.getfield 9, 3) := by decide +kernel
theorem d_Cutting_worth_78 : decode prog_5_method_2_code 78 = .ok (.iload_n 3, 1) := by decide +kernel
theorem d_Cutting_worth_79 : decode prog_5_method_2_code 79 = .ok (.iaload, 1) := by decide +kernel
theorem d_Cutting_worth_80 : decode prog_5_method_2_code 80 = .ok (.iconst 1, 1) := by decide +kernel
theorem d_Cutting_worth_81 : decode prog_5_method_2_code 81 = .ok (.iadd, 1) := by decide +kernel
theorem d_Cutting_worth_82 : decode prog_5_method_2_code 82 = .ok (.ixor, 1) := by decide +kernel
theorem d_Cutting_worth_83 : decode prog_5_method_2_code 83 = .ok (.iastore, 1) := by decide +kernel
theorem d_Cutting_worth_84 : decode prog_5_method_2_code 84 = .ok (.iinc 3 (-1), 3) := by decide +kernel
theorem d_Cutting_worth_87 : decode prog_5_method_2_code 87 = .ok (.goto (-55), 3) := by decide +kernel
theorem d_Cutting_worth_90 : decode prog_5_method_2_code 90 = .ok (.aload_n 0, 1) := by decide +kernel
theorem d_Cutting_worth_91 : decode prog_5_method_2_code 91 = .ok (.getfield 9, 3) := by decide +kernel
theorem d_Cutting_worth_94 : decode prog_5_method_2_code 94 = .ok (.arraylength, 1) := by decide +kernel
theorem d_Cutting_worth_95 : decode prog_5_method_2_code 95 = .ok (.ifCond .le 12, 3) := by decide +kernel
theorem d_Cutting_worth_98 : decode prog_5_method_2_code 98 = .ok (.aload_n 0, 1) := by decide +kernel
theorem d_Cutting_worth_99 : decode prog_5_method_2_code 99 = .ok (.getfield 9, 3) := by decide +kernel
theorem d_Cutting_worth_102 : decode prog_5_method_2_code 102 = .ok (.iconst 0, 1) := by decide +kernel
theorem d_Cutting_worth_103 : decode prog_5_method_2_code 103 = .ok (.iaload, 1) := by decide +kernel
theorem d_Cutting_worth_104 : decode prog_5_method_2_code 104 = .ok (.goto 4, 3) := by decide +kernel
theorem d_Cutting_worth_107 : decode prog_5_method_2_code 107 = .ok (.iconst 0, 1) := by decide +kernel
theorem d_Cutting_worth_108 : decode prog_5_method_2_code 108 = .ok (.ireturn, 1) := by decide +kernel
theorem d_Hill_init_0 : decode prog_6_method_1_code 0 = .ok (.aload_n 0, 1) := by decide +kernel
theorem d_Hill_init_1 : decode prog_6_method_1_code 1 = .ok (.invokespecial 3, 3) := by decide +kernel
theorem d_Hill_init_4 : decode prog_6_method_1_code 4 = .ok (.aload_n 0, 1) := by decide +kernel
theorem d_Hill_init_5 : decode prog_6_method_1_code 5 = .ok (.new 9, 3) := by decide +kernel
theorem d_Hill_init_8 : decode prog_6_method_1_code 8 = .ok (.dup, 1) := by decide +kernel
theorem d_Hill_init_9 : decode prog_6_method_1_code 9 = .ok (.invokespecial 11, 3) := by decide +kernel
theorem d_Hill_init_12 : decode prog_6_method_1_code 12 = .ok (.putfield 12, 3) := by decide +kernel
theorem d_Hill_init_15 : decode prog_6_method_1_code 15 = .ok (.aload_n 0, 1) := by decide +kernel
theorem d_Hill_init_16 : decode prog_6_method_1_code 16 = .ok (.bipush 6, 2) := by decide +kernel
theorem d_Hill_init_18 : decode prog_6_method_1_code 18 = .ok (.newarray .int, 2) := by decide +kernel
theorem d_Hill_init_20 : decode prog_6_method_1_code 20 = .ok (.putfield 18, 3) := by decide +kernel
theorem d_Hill_init_23 : decode prog_6_method_1_code 23 = .ok (.aload_n 0, 1) := by decide +kernel
theorem d_Hill_init_24 : decode prog_6_method_1_code 24 = .ok (.bipush 6, 2) := by decide +kernel
theorem d_Hill_init_26 : decode prog_6_method_1_code 26 = .ok (.newarray .int, 2) := by decide +kernel
theorem d_Hill_init_28 : decode prog_6_method_1_code 28 = .ok (.putfield 22, 3) := by decide +kernel
theorem d_Hill_init_31 : decode prog_6_method_1_code 31 = .ok (.aload_n 0, 1) := by decide +kernel
theorem d_Hill_init_32 : decode prog_6_method_1_code 32 = .ok (.iconst 0, 1) := by decide +kernel
theorem d_Hill_init_33 : decode prog_6_method_1_code 33 = .ok (.putfield 25, 3) := by decide +kernel
theorem d_Hill_init_36 : decode prog_6_method_1_code 36 = .ok (.aload_n 0, 1) := by decide +kernel
theorem d_Hill_init_37 : decode prog_6_method_1_code 37 = .ok (.iconst 0, 1) := by decide +kernel
theorem d_Hill_init_38 : decode prog_6_method_1_code 38 = .ok (.putfield 29, 3) := by decide +kernel
theorem d_Hill_init_41 : decode prog_6_method_1_code 41 = .ok (.iconst 0, 1) := by decide +kernel
theorem d_Hill_init_42 : decode prog_6_method_1_code 42 = .ok (.istore_n 1, 1) := by decide +kernel
theorem d_Hill_init_43 : decode prog_6_method_1_code 43 = .ok (.iload_n 1, 1) := by decide +kernel
theorem d_Hill_init_44 : decode prog_6_method_1_code 44 = .ok (.aload_n 0, 1) := by decide +kernel
theorem d_Hill_init_45 : decode prog_6_method_1_code 45 = .ok (.getfield 18, 3) := by decide +kernel
theorem d_Hill_init_48 : decode prog_6_method_1_code 48 = .ok (.arraylength, 1) := by decide +kernel
theorem d_Hill_init_49 : decode prog_6_method_1_code 49 = .ok (.if_icmp .ge 17, 3) := by decide +kernel
theorem d_Hill_init_52 : decode prog_6_method_1_code 52 = .ok (.aload_n 0, 1) := by decide +kernel
theorem d_Hill_init_53 : decode prog_6_method_1_code 53 = .ok (.getfield 18, 3) := by decide +kernel
theorem d_Hill_init_56 : decode prog_6_method_1_code 56 = .ok (.iload_n 1, 1) := by decide +kernel
theorem d_Hill_init_57 : decode prog_6_method_1_code 57 = .ok (.bipush (-6), 2) := by decide +kernel
theorem d_Hill_init_59 : decode prog_6_method_1_code 59 = .ok (.iastore, 1) := by decide +kernel
theorem d_Hill_init_60 : decode prog_6_method_1_code 60 = .ok (.iinc 1 1, 3) := by decide +kernel
theorem d_Hill_init_63 : decode prog_6_method_1_code 63 = .ok (.goto (-20), 3) := by decide +kernel
theorem d_Hill_init_66 : decode prog_6_method_1_code 66 = .ok (.return_, 1) := by decide +kernel
theorem d_Hill_tree_0 : decode prog_6_method_2_code 0 = .ok (.aload_n 0, 1) := by decide +kernel
theorem d_Hill_tree_1 : decode prog_6_method_2_code 1 = .ok (.getfield 12, 3) := by decide +kernel
theorem d_Hill_tree_4 : decode prog_6_method_2_code 4 = .ok (.areturn, 1) := by decide +kernel
theorem d_Hill_loopOf_0 : decode prog_6_method_3_code 0 = .ok (.iload_n 1, 1) := by decide +kernel
theorem d_Hill_loopOf_1 : decode prog_6_method_3_code 1 = .ok (.ifCond .lt 21, 3) := by decide +kernel
theorem d_Hill_loopOf_4 : decode prog_6_method_3_code 4 = .ok (.iload_n 1, 1) := by decide +kernel
theorem d_Hill_loopOf_5 : decode prog_6_method_3_code 5 = .ok (.aload_n 0, 1) := by decide +kernel
theorem d_Hill_loopOf_6 : decode prog_6_method_3_code 6 = .ok (.getfield 18, 3) := by decide +kernel
theorem d_Hill_loopOf_9 : decode prog_6_method_3_code 9 = .ok (.arraylength, 1) := by decide +kernel
theorem d_Hill_loopOf_10 : decode prog_6_method_3_code 10 = .ok (.if_icmp .ge 12, 3) := by decide +kernel
theorem d_Hill_loopOf_13 : decode prog_6_method_3_code 13 = .ok (.aload_n 0, 1) := by decide +kernel
theorem d_Hill_loopOf_14 : decode prog_6_method_3_code 14 = .ok (.getfield 18, 3) := by decide +kernel
theorem d_Hill_loopOf_17 : decode prog_6_method_3_code 17 = .ok (.iload_n 1, 1) := by decide +kernel
theorem d_Hill_loopOf_18 : decode prog_6_method_3_code 18 = .ok (.iaload, 1) := by decide +kernel
theorem d_Hill_loopOf_19 : decode prog_6_method_3_code 19 = .ok (.goto 5, 3) := by decide +kernel
theorem d_Hill_loopOf_22 : decode prog_6_method_3_code 22 = .ok (.bipush (-6), 2) := by decide +kernel
theorem d_Hill_loopOf_24 : decode prog_6_method_3_code 24 = .ok (.ireturn, 1) := by decide +kernel
theorem d_Hill_chipsOf_0 : decode prog_6_method_4_code 0 = .ok (.iload_n 1, 1) := by decide +kernel
theorem d_Hill_chipsOf_1 : decode prog_6_method_4_code 1 = .ok (.ifCond .lt 21, 3) := by decide +kernel
theorem d_Hill_chipsOf_4 : decode prog_6_method_4_code 4 = .ok (.iload_n 1, 1) := by decide +kernel
theorem d_Hill_chipsOf_5 : decode prog_6_method_4_code 5 = .ok (.aload_n 0, 1) := by decide +kernel
theorem d_Hill_chipsOf_6 : decode prog_6_method_4_code 6 = .ok (.getfield 22, 3) := by decide +kernel
theorem d_Hill_chipsOf_9 : decode prog_6_method_4_code 9 = .ok (.arraylength, 1) := by decide +kernel
theorem d_Hill_chipsOf_10 : decode prog_6_method_4_code 10 = .ok (.if_icmp .ge 12, 3) := by decide +kernel
theorem d_Hill_chipsOf_13 : decode prog_6_method_4_code 13 = .ok (.aload_n 0, 1) := by decide +kernel
theorem d_Hill_chipsOf_14 : decode prog_6_method_4_code 14 = .ok (.getfield 22, 3) := by decide +kernel
theorem d_Hill_chipsOf_17 : decode prog_6_method_4_code 17 = .ok (.iload_n 1, 1) := by decide +kernel
theorem d_Hill_chipsOf_18 : decode prog_6_method_4_code 18 = .ok (.iaload, 1) := by decide +kernel
theorem d_Hill_chipsOf_19 : decode prog_6_method_4_code 19 = .ok (.goto 4, 3) := by decide +kernel
theorem d_Hill_chipsOf_22 : decode prog_6_method_4_code 22 = .ok (.iconst 0, 1) := by decide +kernel
theorem d_Hill_chipsOf_23 : decode prog_6_method_4_code 23 = .ok (.ireturn, 1) := by decide +kernel
theorem d_Hill_isBroken_0 : decode prog_6_method_5_code 0 = .ok (.aload_n 0, 1) := by decide +kernel
theorem d_Hill_isBroken_1 : decode prog_6_method_5_code 1 = .ok (.getfield 25, 3) := by decide +kernel
theorem d_Hill_isBroken_4 : decode prog_6_method_5_code 4 = .ok (.iload_n 1, 1) := by decide +kernel
theorem d_Hill_isBroken_5 : decode prog_6_method_5_code 5 = .ok (.invokestatic 32, 3) := by decide +kernel
theorem d_Hill_isBroken_8 : decode prog_6_method_5_code 8 = .ok (.ireturn, 1) := by decide +kernel
theorem d_Hill_brokenBalls_0 : decode prog_6_method_6_code 0 = .ok (.aload_n 0, 1) := by decide +kernel
theorem d_Hill_brokenBalls_1 : decode prog_6_method_6_code 1 = .ok (.getfield 25, 3) := by decide +kernel
theorem d_Hill_brokenBalls_4 : decode prog_6_method_6_code 4 = .ok (.ireturn, 1) := by decide +kernel
theorem d_Hill_winter_0 : decode prog_6_method_7_code 0 = .ok (.aload_n 0, 1) := by decide +kernel
theorem d_Hill_winter_1 : decode prog_6_method_7_code 1 = .ok (.getfield 29, 3) := by decide +kernel
theorem d_Hill_winter_4 : decode prog_6_method_7_code 4 = .ok (.ireturn, 1) := by decide +kernel
theorem d_Hill_hungLoops_0 : decode prog_6_method_8_code 0 = .ok (.iconst 0, 1) := by decide +kernel
theorem d_Hill_hungLoops_1 : decode prog_6_method_8_code 1 = .ok (.istore_n 1, 1) := by decide +kernel
theorem d_Hill_hungLoops_2 : decode prog_6_method_8_code 2 = .ok (.iconst 0, 1) := by decide +kernel
theorem d_Hill_hungLoops_3 : decode prog_6_method_8_code 3 = .ok (.istore_n 2, 1) := by decide +kernel
theorem d_Hill_hungLoops_4 : decode prog_6_method_8_code 4 = .ok (.iload_n 2, 1) := by decide +kernel
theorem d_Hill_hungLoops_5 : decode prog_6_method_8_code 5 = .ok (.aload_n 0, 1) := by decide +kernel
theorem d_Hill_hungLoops_6 : decode prog_6_method_8_code 6 = .ok (.getfield 18, 3) := by decide +kernel
theorem d_Hill_hungLoops_9 : decode prog_6_method_8_code 9 = .ok (.arraylength, 1) := by decide +kernel
theorem d_Hill_hungLoops_10 : decode prog_6_method_8_code 10 = .ok (.if_icmp .ge 31, 3) := by decide +kernel
theorem d_Hill_hungLoops_13 : decode prog_6_method_8_code 13 = .ok (.aload_n 0, 1) := by decide +kernel
theorem d_Hill_hungLoops_14 : decode prog_6_method_8_code 14 = .ok (.getfield 18, 3) := by decide +kernel
theorem d_Hill_hungLoops_17 : decode prog_6_method_8_code 17 = .ok (.iload_n 2, 1) := by decide +kernel
theorem d_Hill_hungLoops_18 : decode prog_6_method_8_code 18 = .ok (.iaload, 1) := by decide +kernel
theorem d_Hill_hungLoops_19 : decode prog_6_method_8_code 19 = .ok (.bipush (-6), 2) := by decide +kernel
theorem d_Hill_hungLoops_21 : decode prog_6_method_8_code 21 = .ok (.if_icmp .eq 14, 3) := by decide +kernel
theorem d_Hill_hungLoops_24 : decode prog_6_method_8_code 24 = .ok (.iload_n 1, 1) := by decide +kernel
theorem d_Hill_hungLoops_25 : decode prog_6_method_8_code 25 = .ok (.iconst 1, 1) := by decide +kernel
theorem d_Hill_hungLoops_26 : decode prog_6_method_8_code 26 = .ok (.aload_n 0, 1) := by decide +kernel
theorem d_Hill_hungLoops_27 : decode prog_6_method_8_code 27 = .ok (.getfield 18, 3) := by decide +kernel
theorem d_Hill_hungLoops_30 : decode prog_6_method_8_code 30 = .ok (.iload_n 2, 1) := by decide +kernel
theorem d_Hill_hungLoops_31 : decode prog_6_method_8_code 31 = .ok (.iaload, 1) := by decide +kernel
theorem d_Hill_hungLoops_32 : decode prog_6_method_8_code 32 = .ok (.ishl, 1) := by decide +kernel
theorem d_Hill_hungLoops_33 : decode prog_6_method_8_code 33 = .ok (.ior, 1) := by decide +kernel
theorem d_Hill_hungLoops_34 : decode prog_6_method_8_code 34 = .ok (.istore_n 1, 1) := by decide +kernel
theorem d_Hill_hungLoops_35 : decode prog_6_method_8_code 35 = .ok (.iinc 2 1, 3) := by decide +kernel
theorem d_Hill_hungLoops_38 : decode prog_6_method_8_code 38 = .ok (.goto (-34), 3) := by decide +kernel
theorem d_Hill_hungLoops_41 : decode prog_6_method_8_code 41 = .ok (.iload_n 1, 1) := by decide +kernel
theorem d_Hill_hungLoops_42 : decode prog_6_method_8_code 42 = .ok (.ireturn, 1) := by decide +kernel
theorem d_Hill_allChips_0 : decode prog_6_method_9_code 0 = .ok (.iconst 0, 1) := by decide +kernel
theorem d_Hill_allChips_1 : decode prog_6_method_9_code 1 = .ok (.istore_n 1, 1) := by decide +kernel
theorem d_Hill_allChips_2 : decode prog_6_method_9_code 2 = .ok (.iconst 0, 1) := by decide +kernel
theorem d_Hill_allChips_3 : decode prog_6_method_9_code 3 = .ok (.istore_n 2, 1) := by decide +kernel
theorem d_Hill_allChips_4 : decode prog_6_method_9_code 4 = .ok (.iload_n 2, 1) := by decide +kernel
theorem d_Hill_allChips_5 : decode prog_6_method_9_code 5 = .ok (.aload_n 0, 1) := by decide +kernel
theorem d_Hill_allChips_6 : decode prog_6_method_9_code 6 = .ok (.getfield 22, 3) := by decide +kernel
theorem d_Hill_allChips_9 : decode prog_6_method_9_code 9 = .ok (.arraylength, 1) := by decide +kernel
theorem d_Hill_allChips_10 : decode prog_6_method_9_code 10 = .ok (.if_icmp .ge 18, 3) := by decide +kernel
theorem d_Hill_allChips_13 : decode prog_6_method_9_code 13 = .ok (.iload_n 1, 1) := by decide +kernel
theorem d_Hill_allChips_14 : decode prog_6_method_9_code 14 = .ok (.aload_n 0, 1) := by decide +kernel
theorem d_Hill_allChips_15 : decode prog_6_method_9_code 15 = .ok (.getfield 22, 3) := by decide +kernel
theorem d_Hill_allChips_18 : decode prog_6_method_9_code 18 = .ok (.iload_n 2, 1) := by decide +kernel
theorem d_Hill_allChips_19 : decode prog_6_method_9_code 19 = .ok (.iaload, 1) := by decide +kernel
theorem d_Hill_allChips_20 : decode prog_6_method_9_code 20 = .ok (.iadd, 1) := by decide +kernel
theorem d_Hill_allChips_21 : decode prog_6_method_9_code 21 = .ok (.istore_n 1, 1) := by decide +kernel
theorem d_Hill_allChips_22 : decode prog_6_method_9_code 22 = .ok (.iinc 2 1, 3) := by decide +kernel
theorem d_Hill_allChips_25 : decode prog_6_method_9_code 25 = .ok (.goto (-21), 3) := by decide +kernel
theorem d_Hill_allChips_28 : decode prog_6_method_9_code 28 = .ok (.iload_n 1, 1) := by decide +kernel
theorem d_Hill_allChips_29 : decode prog_6_method_9_code 29 = .ok (.ireturn, 1) := by decide +kernel
theorem d_Hill_anotherHangs_0 : decode prog_6_method_10_code 0 = .ok (.aload_n 0, 1) := by decide +kernel
theorem d_Hill_anotherHangs_1 : decode prog_6_method_10_code 1 = .ok (.iload_n 1, 1) := by decide +kernel
theorem d_Hill_anotherHangs_2 : decode prog_6_method_10_code 2 = .ok (.invokevirtual 36, 3) := by decide +kernel
theorem d_Hill_anotherHangs_5 : decode prog_6_method_10_code 5 = .ok (.iload_n 2, 1) := by decide +kernel
theorem d_Hill_anotherHangs_6 : decode prog_6_method_10_code 6 = .ok (.if_icmp .eq 18, 3) := by decide +kernel
theorem d_Hill_anotherHangs_9 : decode prog_6_method_10_code 9 = .ok (.aload_n 0, 1) := by decide +kernel
theorem d_Hill_anotherHangs_10 : decode prog_6_method_10_code 10 = .ok (.invokevirtual 40, 3) := by decide +kernel
theorem d_Hill_anotherHangs_13 : decode prog_6_method_10_code 13 = .ok (.iload_n 2, 1) := by decide +kernel
theorem d_Hill_anotherHangs_14 : decode prog_6_method_10_code 14 = .ok (.invokestatic 32, 3) := by decide +kernel
theorem d_Hill_anotherHangs_17 : decode prog_6_method_10_code 17 = .ok (.ifCond .eq 7, 3) := by decide +kernel
theorem d_Hill_anotherHangs_20 : decode prog_6_method_10_code 20 = .ok (.iconst 1, 1) := by decide +kernel
theorem d_Hill_anotherHangs_21 : decode prog_6_method_10_code 21 = .ok (.goto 4, 3) := by decide +kernel
theorem d_Hill_anotherHangs_24 : decode prog_6_method_10_code 24 = .ok (.iconst 0, 1) := by decide +kernel
theorem d_Hill_anotherHangs_25 : decode prog_6_method_10_code 25 = .ok (.ireturn, 1) := by decide +kernel
theorem d_Hill_put_0 : decode prog_6_method_11_code 0 = .ok (.iload_n 1, 1) := by decide +kernel
theorem d_Hill_put_1 : decode prog_6_method_11_code 1 = .ok (.ifCond .lt 21, 3) := by decide +kernel
theorem d_Hill_put_4 : decode prog_6_method_11_code 4 = .ok (.iload_n 1, 1) := by decide +kernel
theorem d_Hill_put_5 : decode prog_6_method_11_code 5 = .ok (.aload_n 0, 1) := by decide +kernel
theorem d_Hill_put_6 : decode prog_6_method_11_code 6 = .ok (.getfield 18, 3) := by decide +kernel
theorem d_Hill_put_9 : decode prog_6_method_11_code 9 = .ok (.arraylength, 1) := by decide +kernel
theorem d_Hill_put_10 : decode prog_6_method_11_code 10 = .ok (.if_icmp .ge 12, 3) := by decide +kernel
theorem d_Hill_put_13 : decode prog_6_method_11_code 13 = .ok (.iload_n 1, 1) := by decide +kernel
theorem d_Hill_put_14 : decode prog_6_method_11_code 14 = .ok (.aload_n 0, 1) := by decide +kernel
theorem d_Hill_put_15 : decode prog_6_method_11_code 15 = .ok (.getfield 22, 3) := by decide +kernel
theorem d_Hill_put_18 : decode prog_6_method_11_code 18 = .ok (.arraylength, 1) := by decide +kernel
theorem d_Hill_put_19 : decode prog_6_method_11_code 19 = .ok (.if_icmp .lt 4, 3) := by decide +kernel
theorem d_Hill_put_22 : decode prog_6_method_11_code 22 = .ok (.return_, 1) := by decide +kernel
theorem d_Hill_put_23 : decode prog_6_method_11_code 23 = .ok (.aload_n 0, 1) := by decide +kernel
theorem d_Hill_put_24 : decode prog_6_method_11_code 24 = .ok (.getfield 18, 3) := by decide +kernel
theorem d_Hill_put_27 : decode prog_6_method_11_code 27 = .ok (.iload_n 1, 1) := by decide +kernel
theorem d_Hill_put_28 : decode prog_6_method_11_code 28 = .ok (.iload_n 2, 1) := by decide +kernel
theorem d_Hill_put_29 : decode prog_6_method_11_code 29 = .ok (.iastore, 1) := by decide +kernel
theorem d_Hill_put_30 : decode prog_6_method_11_code 30 = .ok (.aload_n 0, 1) := by decide +kernel
theorem d_Hill_put_31 : decode prog_6_method_11_code 31 = .ok (.getfield 22, 3) := by decide +kernel
theorem d_Hill_put_34 : decode prog_6_method_11_code 34 = .ok (.iload_n 1, 1) := by decide +kernel
theorem d_Hill_put_35 : decode prog_6_method_11_code 35 = .ok (.iload_n 3, 1) := by decide +kernel
theorem d_Hill_put_36 : decode prog_6_method_11_code 36 = .ok (.iastore, 1) := by decide +kernel
theorem d_Hill_put_37 : decode prog_6_method_11_code 37 = .ok (.aload_n 0, 1) := by decide +kernel
theorem d_Hill_put_38 : decode prog_6_method_11_code 38 = .ok (.dup, 1) := by decide +kernel
theorem d_Hill_put_39 : decode prog_6_method_11_code 39 = .ok (.getfield 25, 3) := by decide +kernel
theorem d_Hill_put_42 : decode prog_6_method_11_code 42 = .ok (.iconst 1, 1) := by decide +kernel
theorem d_Hill_put_43 : decode prog_6_method_11_code 43 = .ok (.iload_n 1, 1) := by decide +kernel
theorem d_Hill_put_44 : decode prog_6_method_11_code 44 = .ok (.ishl, 1) := by decide +kernel
theorem d_Hill_put_45 : decode prog_6_method_11_code 45 = .ok (.iconst (-1), 1) := by decide +kernel
theorem d_Hill_put_46 : decode prog_6_method_11_code 46 = .ok (.ixor, 1) := by decide +kernel
theorem d_Hill_put_47 : decode prog_6_method_11_code 47 = .ok (.iand, 1) := by decide +kernel
theorem d_Hill_put_48 : decode prog_6_method_11_code 48 = .ok (.putfield 25, 3) := by decide +kernel
theorem d_Hill_put_51 : decode prog_6_method_11_code 51 = .ok (.return_, 1) := by decide +kernel
theorem d_Hill_copyFrom_0 : decode prog_6_method_12_code 0 = .ok (.aload_n 0, 1) := by decide +kernel
theorem d_Hill_copyFrom_1 : decode prog_6_method_12_code 1 = .ok (.getfield 12, 3) := by decide +kernel
theorem d_Hill_copyFrom_4 : decode prog_6_method_12_code 4 = .ok (.aload_n 1, 1) := by decide +kernel
theorem d_Hill_copyFrom_5 : decode prog_6_method_12_code 5 = .ok (.getfield 12, 3) := by decide +kernel
theorem d_Hill_copyFrom_8 : decode prog_6_method_12_code 8 = .ok (.invokevirtual 44, 3) := by decide +kernel
theorem d_Hill_copyFrom_11 : decode prog_6_method_12_code 11 = .ok (.aload_n 1, 1) := by decide +kernel
theorem d_Hill_copyFrom_12 : decode prog_6_method_12_code 12 = .ok (.getfield 18, 3) := by decide +kernel
theorem d_Hill_copyFrom_15 : decode prog_6_method_12_code 15 = .ok (.aload_n 0, 1) := by decide +kernel
theorem d_Hill_copyFrom_16 : decode prog_6_method_12_code 16 = .ok (.getfield 18, 3) := by decide +kernel
theorem d_Hill_copyFrom_19 : decode prog_6_method_12_code 19 = .ok (.invokestatic 48, 3) := by decide +kernel
theorem d_Hill_copyFrom_22 : decode prog_6_method_12_code 22 = .ok (.aload_n 1, 1) := by decide +kernel
theorem d_Hill_copyFrom_23 : decode prog_6_method_12_code 23 = .ok (.getfield 22, 3) := by decide +kernel
theorem d_Hill_copyFrom_26 : decode prog_6_method_12_code 26 = .ok (.aload_n 0, 1) := by decide +kernel
theorem d_Hill_copyFrom_27 : decode prog_6_method_12_code 27 = .ok (.getfield 22, 3) := by decide +kernel
theorem d_Hill_copyFrom_30 : decode prog_6_method_12_code 30 = .ok (.invokestatic 48, 3) := by decide +kernel
theorem d_Hill_copyFrom_33 : decode prog_6_method_12_code 33 = .ok (.aload_n 0, 1) := by decide +kernel
theorem d_Hill_copyFrom_34 : decode prog_6_method_12_code 34 = .ok (.aload_n 1, 1) := by decide +kernel
theorem d_Hill_copyFrom_35 : decode prog_6_method_12_code 35 = .ok (.getfield 25, 3) := by decide +kernel
theorem d_Hill_copyFrom_38 : decode prog_6_method_12_code 38 = .ok (.putfield 25, 3) := by decide +kernel
theorem d_Hill_copyFrom_41 : decode prog_6_method_12_code 41 = .ok (.aload_n 0, 1) := by decide +kernel
theorem d_Hill_copyFrom_42 : decode prog_6_method_12_code 42 = .ok (.aload_n 1, 1) := by decide +kernel
theorem d_Hill_copyFrom_43 : decode prog_6_method_12_code 43 = .ok (.getfield 29, 3) := by decide +kernel
theorem d_Hill_copyFrom_46 : decode prog_6_method_12_code 46 = .ok (.putfield 29, 3) := by decide +kernel
theorem d_Hill_copyFrom_49 : decode prog_6_method_12_code 49 = .ok (.return_, 1) := by decide +kernel
theorem d_Hill_seenFrom_0 : decode prog_6_method_13_code 0 = .ok (.aload_n 0, 1) := by decide +kernel
theorem d_Hill_seenFrom_1 : decode prog_6_method_13_code 1 = .ok (.iload_n 1, 1) := by decide +kernel
theorem d_Hill_seenFrom_2 : decode prog_6_method_13_code 2 = .ok (.invokevirtual 36, 3) := by decide +kernel
theorem d_Hill_seenFrom_5 : decode prog_6_method_13_code 5 = .ok (.istore_n 2, 1) := by decide +kernel
theorem d_Hill_seenFrom_6 : decode prog_6_method_13_code 6 = .ok (.aload_n 0, 1) := by decide +kernel
theorem d_Hill_seenFrom_7 : decode prog_6_method_13_code 7 = .ok (.invokevirtual 40, 3) := by decide +kernel
theorem d_Hill_seenFrom_10 : decode prog_6_method_13_code 10 = .ok (.istore_n 3, 1) := by decide +kernel
theorem d_Hill_seenFrom_11 : decode prog_6_method_13_code 11 = .ok (.iconst 0, 1) := by decide +kernel
theorem d_Hill_seenFrom_12 : decode prog_6_method_13_code 12 = .ok (.istore 4, 2) := by decide +kernel
theorem d_Hill_seenFrom_14 : decode prog_6_method_13_code 14 = .ok (.iconst 0, 1) := by decide +kernel
theorem d_Hill_seenFrom_15 : decode prog_6_method_13_code 15 = .ok (.istore 5, 2) := by decide +kernel
theorem d_Hill_seenFrom_17 : decode prog_6_method_13_code 17 = .ok (.iload 5, 2) := by decide +kernel
theorem d_Hill_seenFrom_19 : decode prog_6_method_13_code 19 = .ok (.bipush 6, 2) := by decide +kernel
theorem d_Hill_seenFrom_21 : decode prog_6_method_13_code 21 = .ok (.if_icmp .ge 69, 3) := by decide +kernel
theorem d_Hill_seenFrom_24 : decode prog_6_method_13_code 24 = .ok (.aload_n 0, 1) := by decide +kernel
theorem d_Hill_seenFrom_25 : decode prog_6_method_13_code 25 = .ok (.iload 5, 2) := by decide +kernel
theorem d_Hill_seenFrom_27 : decode prog_6_method_13_code 27 = .ok (.invokevirtual 36, 3) := by decide +kernel
theorem d_Hill_seenFrom_30 : decode prog_6_method_13_code 30 = .ok (.istore 6, 2) := by decide +kernel
theorem d_Hill_seenFrom_32 : decode prog_6_method_13_code 32 = .ok (.iload 5, 2) := by decide +kernel
theorem d_Hill_seenFrom_34 : decode prog_6_method_13_code 34 = .ok (.iload_n 1, 1) := by decide +kernel
theorem d_Hill_seenFrom_35 : decode prog_6_method_13_code 35 = .ok (.if_icmp .eq 49, 3) := by decide +kernel
theorem d_Hill_seenFrom_38 : decode prog_6_method_13_code 38 = .ok (.iload 6, 2) := by decide +kernel
theorem d_Hill_seenFrom_40 : decode prog_6_method_13_code 40 = .ok (.bipush (-6), 2) := by decide +kernel
theorem d_Hill_seenFrom_42 : decode prog_6_method_13_code 42 = .ok (.if_icmp .ne 6, 3) := by decide +kernel
theorem d_Hill_seenFrom_45 : decode prog_6_method_13_code 45 = .ok (.goto 39, 3) := by decide +kernel
theorem d_Hill_seenFrom_48 : decode prog_6_method_13_code 48 = .ok (.iconst 1, 1) := by decide +kernel
theorem d_Hill_seenFrom_49 : decode prog_6_method_13_code 49 = .ok (.iload_n 2, 1) := by decide +kernel
theorem d_Hill_seenFrom_50 : decode prog_6_method_13_code 50 = .ok (.ishl, 1) := by decide +kernel
theorem d_Hill_seenFrom_51 : decode prog_6_method_13_code 51 = .ok (.iconst 1, 1) := by decide +kernel
theorem d_Hill_seenFrom_52 : decode prog_6_method_13_code 52 = .ok (.iload 6, 2) := by decide +kernel
theorem d_Hill_seenFrom_54 : decode prog_6_method_13_code 54 = .ok (.ishl, 1) := by decide +kernel
theorem d_Hill_seenFrom_55 : decode prog_6_method_13_code 55 = .ok (.ior, 1) := by decide +kernel
theorem d_Hill_seenFrom_56 : decode prog_6_method_13_code 56 = .ok (.istore 7, 2) := by decide +kernel
theorem d_Hill_seenFrom_58 : decode prog_6_method_13_code 58 = .ok (.aload_n 0, 1) := by decide +kernel
theorem d_Hill_seenFrom_59 : decode prog_6_method_13_code 59 = .ok (.getfield 12, 3) := by decide +kernel
theorem d_Hill_seenFrom_62 : decode prog_6_method_13_code 62 = .ok (.iload_n 2, 1) := by decide +kernel
theorem d_Hill_seenFrom_63 : decode prog_6_method_13_code 63 = .ok (.iload 6, 2) := by decide +kernel
theorem d_Hill_seenFrom_65 : decode prog_6_method_13_code 65 = .ok (.invokevirtual 52, 3) := by decide +kernel
theorem d_Hill_seenFrom_68 : decode prog_6_method_13_code 68 = .ok (.iload_n 3, 1) := by decide +kernel
theorem d_Hill_seenFrom_69 : decode prog_6_method_13_code 69 = .ok (.iand, 1) := by decide +kernel
theorem d_Hill_seenFrom_70 : decode prog_6_method_13_code 70 = .ok (.iload 7, 2) := by decide +kernel
theorem d_Hill_seenFrom_72 : decode prog_6_method_13_code 72 = .ok (.if_icmp .ne 12, 3) := by decide +kernel
theorem d_Hill_seenFrom_75 : decode prog_6_method_13_code 75 = .ok (.iload 4, 2) := by decide +kernel
theorem d_Hill_seenFrom_77 : decode prog_6_method_13_code 77 = .ok (.iconst 1, 1) := by decide +kernel
theorem d_Hill_seenFrom_78 : decode prog_6_method_13_code 78 = .ok (.iload 5, 2) := by decide +kernel
theorem d_Hill_seenFrom_80 : decode prog_6_method_13_code 80 = .ok (.ishl, 1) := by decide +kernel
theorem d_Hill_seenFrom_81 : decode prog_6_method_13_code 81 = .ok (.ior, 1) := by decide +kernel
theorem d_Hill_seenFrom_82 : decode prog_6_method_13_code 82 = .ok (.istore 4, 2) := by decide +kernel
theorem d_Hill_seenFrom_84 : decode prog_6_method_13_code 84 = .ok (.iinc 5 1, 3) := by decide +kernel
theorem d_Hill_seenFrom_87 : decode prog_6_method_13_code 87 = .ok (.goto (-70), 3) := by decide +kernel
theorem d_Hill_seenFrom_90 : decode prog_6_method_13_code 90 = .ok (.iload 4, 2) := by decide +kernel
theorem d_Hill_seenFrom_92 : decode prog_6_method_13_code 92 = .ok (.ireturn, 1) := by decide +kernel
theorem d_Hill_whyNot_0 : decode prog_6_method_14_code 0 = .ok (.aload_n 1, 1) := by decide +kernel
theorem d_Hill_whyNot_1 : decode prog_6_method_14_code 1 = .ok (.invokevirtual 56, 3) := by decide +kernel
theorem d_Hill_whyNot_4 : decode prog_6_method_14_code 4 = .ok (.tableswitch 189 0 4 #[36, 87, 119, 136, 173], 36) := by decide +kernel
theorem d_Hill_whyNot_40 : decode prog_6_method_14_code 40 = .ok (.aload_n 0, 1) := by decide +kernel
theorem d_Hill_whyNot_41 : decode prog_6_method_14_code 41 = .ok (.aload_n 1, 1) := by decide +kernel
theorem d_Hill_whyNot_42 : decode prog_6_method_14_code 42 = .ok (.invokevirtual 61, 3) := by decide +kernel
theorem d_Hill_whyNot_45 : decode prog_6_method_14_code 45 = .ok (.invokevirtual 64, 3) := by decide +kernel
theorem d_Hill_whyNot_48 : decode prog_6_method_14_code 48 = .ok (.ifCond .eq 5, 3) := by decide +kernel
theorem d_Hill_whyNot_51 : decode prog_6_method_14_code 51 = .ok (.iconst 1, 1) := by decide +kernel
theorem d_Hill_whyNot_52 : decode prog_6_method_14_code 52 = .ok (.ireturn, 1) := by decide +kernel
theorem d_Hill_whyNot_53 : decode prog_6_method_14_code 53 = .ok (.aload_n 0, 1) := by decide +kernel
theorem d_Hill_whyNot_54 : decode prog_6_method_14_code 54 = .ok (.aload_n 1, 1) := by decide +kernel
theorem d_Hill_whyNot_55 : decode prog_6_method_14_code 55 = .ok (.invokevirtual 61, 3) := by decide +kernel
theorem d_Hill_whyNot_58 : decode prog_6_method_14_code 58 = .ok (.aload_n 1, 1) := by decide +kernel
theorem d_Hill_whyNot_59 : decode prog_6_method_14_code 59 = .ok (.invokevirtual 68, 3) := by decide +kernel
theorem d_Hill_whyNot_62 : decode prog_6_method_14_code 62 = .ok (.invokevirtual 71, 3) := by decide +kernel
theorem d_Hill_whyNot_65 : decode prog_6_method_14_code 65 = .ok (.ifCond .eq 5, 3) := by decide +kernel
theorem d_Hill_whyNot_68 : decode prog_6_method_14_code 68 = .ok (.iconst 2, 1) := by decide +kernel
theorem d_Hill_whyNot_69 : decode prog_6_method_14_code 69 = .ok (.ireturn, 1) := by decide +kernel
theorem d_Hill_whyNot_70 : decode prog_6_method_14_code 70 = .ok (.aload_n 0, 1) := by decide +kernel
theorem d_Hill_whyNot_71 : decode prog_6_method_14_code 71 = .ok (.aload_n 1, 1) := by decide +kernel
theorem d_Hill_whyNot_72 : decode prog_6_method_14_code 72 = .ok (.invokevirtual 61, 3) := by decide +kernel
theorem d_Hill_whyNot_75 : decode prog_6_method_14_code 75 = .ok (.invokevirtual 36, 3) := by decide +kernel
theorem d_Hill_whyNot_78 : decode prog_6_method_14_code 78 = .ok (.aload_n 1, 1) := by decide +kernel
theorem d_Hill_whyNot_79 : decode prog_6_method_14_code 79 = .ok (.invokevirtual 68, 3) := by decide +kernel
theorem d_Hill_whyNot_82 : decode prog_6_method_14_code 82 = .ok (.if_icmp .ne 7, 3) := by decide +kernel
theorem d_Hill_whyNot_85 : decode prog_6_method_14_code 85 = .ok (.iconst 3, 1) := by decide +kernel
theorem d_Hill_whyNot_86 : decode prog_6_method_14_code 86 = .ok (.goto 4, 3) := by decide +kernel
theorem d_Hill_whyNot_89 : decode prog_6_method_14_code 89 = .ok (.iconst 0, 1) := by decide +kernel
theorem d_Hill_whyNot_90 : decode prog_6_method_14_code 90 = .ok (.ireturn, 1) := by decide +kernel
theorem d_Hill_whyNot_91 : decode prog_6_method_14_code 91 = .ok (.aload_n 0, 1) := by decide +kernel
theorem d_Hill_whyNot_92 : decode prog_6_method_14_code 92 = .ok (.aload_n 1, 1) := by decide +kernel
theorem d_Hill_whyNot_93 : decode prog_6_method_14_code 93 = .ok (.invokevirtual 61, 3) := by decide +kernel
theorem d_Hill_whyNot_96 : decode prog_6_method_14_code 96 = .ok (.invokevirtual 64, 3) := by decide +kernel
theorem d_Hill_whyNot_99 : decode prog_6_method_14_code 99 = .ok (.ifCond .eq 5, 3) := by decide +kernel
theorem d_Hill_whyNot_102 : decode prog_6_method_14_code 102 = .ok (.iconst 1, 1) := by decide +kernel
theorem d_Hill_whyNot_103 : decode prog_6_method_14_code 103 = .ok (.ireturn, 1) := by decide +kernel
theorem d_Hill_whyNot_104 : decode prog_6_method_14_code 104 = .ok (.aload_n 0, 1) := by decide +kernel
theorem d_Hill_whyNot_105 : decode prog_6_method_14_code 105 = .ok (.aload_n 1, 1) := by decide +kernel
theorem d_Hill_whyNot_106 : decode prog_6_method_14_code 106 = .ok (.invokevirtual 61, 3) := by decide +kernel
theorem d_Hill_whyNot_109 : decode prog_6_method_14_code 109 = .ok (.invokevirtual 36, 3) := by decide +kernel
theorem d_Hill_whyNot_112 : decode prog_6_method_14_code 112 = .ok (.bipush (-6), 2) := by decide +kernel
theorem d_Hill_whyNot_114 : decode prog_6_method_14_code 114 = .ok (.if_icmp .ne 7, 3) := by decide +kernel
theorem d_Hill_whyNot_117 : decode prog_6_method_14_code 117 = .ok (.iconst 3, 1) := by decide +kernel
theorem d_Hill_whyNot_118 : decode prog_6_method_14_code 118 = .ok (.goto 4, 3) := by decide +kernel
theorem d_Hill_whyNot_121 : decode prog_6_method_14_code 121 = .ok (.iconst 0, 1) := by decide +kernel
theorem d_Hill_whyNot_122 : decode prog_6_method_14_code 122 = .ok (.ireturn, 1) := by decide +kernel
theorem d_Hill_whyNot_123 : decode prog_6_method_14_code 123 = .ok (.aload_n 0, 1) := by decide +kernel
theorem d_Hill_whyNot_124 : decode prog_6_method_14_code 124 = .ok (.invokevirtual 40, 3) := by decide +kernel
theorem d_Hill_whyNot_127 : decode prog_6_method_14_code 127 = .ok (.invokestatic 74, 3) := by decide +kernel
theorem d_Hill_whyNot_130 : decode prog_6_method_14_code 130 = .ok (.iconst 2, 1) := by decide +kernel
theorem d_Hill_whyNot_131 : decode prog_6_method_14_code 131 = .ok (.if_icmp .ge 7, 3) := by decide +kernel
theorem d_Hill_whyNot_134 : decode prog_6_method_14_code 134 = .ok (.iconst 4, 1) := by decide +kernel
theorem d_Hill_whyNot_135 : decode prog_6_method_14_code 135 = .ok (.goto 4, 3) := by decide +kernel
theorem d_Hill_whyNot_138 : decode prog_6_method_14_code 138 = .ok (.iconst 0, 1) := by decide +kernel
theorem d_Hill_whyNot_139 : decode prog_6_method_14_code 139 = .ok (.ireturn, 1) := by decide +kernel
theorem d_Hill_whyNot_140 : decode prog_6_method_14_code 140 = .ok (.aload_n 1, 1) := by decide +kernel
theorem d_Hill_whyNot_141 : decode prog_6_method_14_code 141 = .ok (.invokevirtual 68, 3) := by decide +kernel
theorem d_Hill_whyNot_144 : decode prog_6_method_14_code 144 = .ok (.aload_n 1, 1) := by decide +kernel
theorem d_Hill_whyNot_145 : decode prog_6_method_14_code 145 = .ok (.invokevirtual 61, 3) := by decide +kernel
theorem d_Hill_whyNot_148 : decode prog_6_method_14_code 148 = .ok (.if_icmp .lt 5, 3) := by decide +kernel
theorem d_Hill_whyNot_151 : decode prog_6_method_14_code 151 = .ok (.iconst 5, 1) := by decide +kernel
theorem d_Hill_whyNot_152 : decode prog_6_method_14_code 152 = .ok (.ireturn, 1) := by decide +kernel
theorem d_Hill_whyNot_153 : decode prog_6_method_14_code 153 = .ok (.aload_n 0, 1) := by decide +kernel
theorem d_Hill_whyNot_154 : decode prog_6_method_14_code 154 = .ok (.getfield 12, 3) := by decide +kernel
theorem d_Hill_whyNot_157 : decode prog_6_method_14_code 157 = .ok (.aload_n 1, 1) := by decide +kernel
theorem d_Hill_whyNot_158 : decode prog_6_method_14_code 158 = .ok (.invokevirtual 61, 3) := by decide +kernel
theorem d_Hill_whyNot_161 : decode prog_6_method_14_code 161 = .ok (.invokevirtual 79, 3) := by decide +kernel
theorem d_Hill_whyNot_164 : decode prog_6_method_14_code 164 = .ok (.aload_n 1, 1) := by decide +kernel
theorem d_Hill_whyNot_165 : decode prog_6_method_14_code 165 = .ok (.invokevirtual 68, 3) := by decide +kernel
theorem d_Hill_whyNot_168 : decode prog_6_method_14_code 168 = .ok (.if_icmp .ne 7, 3) := by decide +kernel
theorem d_Hill_whyNot_171 : decode prog_6_method_14_code 171 = .ok (.iconst 5, 1) := by decide +kernel
theorem d_Hill_whyNot_172 : decode prog_6_method_14_code 172 = .ok (.goto 4, 3) := by decide +kernel
theorem d_Hill_whyNot_175 : decode prog_6_method_14_code 175 = .ok (.iconst 0, 1) := by decide +kernel
theorem d_Hill_whyNot_176 : decode prog_6_method_14_code 176 = .ok (.ireturn, 1) := by decide +kernel
theorem d_Hill_whyNot_177 : decode prog_6_method_14_code 177 = .ok (.aload_n 0, 1) := by decide +kernel
theorem d_Hill_whyNot_178 : decode prog_6_method_14_code 178 = .ok (.getfield 29, 3) := by decide +kernel
theorem d_Hill_whyNot_181 : decode prog_6_method_14_code 181 = .ok (.bipush 99, 2) := by decide +kernel
theorem d_Hill_whyNot_183 : decode prog_6_method_14_code 183 = .ok (.if_icmp .lt 8, 3) := by decide +kernel
theorem d_Hill_whyNot_186 : decode prog_6_method_14_code 186 = .ok (.bipush 6, 2) := by decide +kernel
theorem d_Hill_whyNot_188 : decode prog_6_method_14_code 188 = .ok (.goto 4, 3) := by decide +kernel
theorem d_Hill_whyNot_191 : decode prog_6_method_14_code 191 = .ok (.iconst 0, 1) := by decide +kernel
theorem d_Hill_whyNot_192 : decode prog_6_method_14_code 192 = .ok (.ireturn, 1) := by decide +kernel
theorem d_Hill_whyNot_193 : decode prog_6_method_14_code 193 = .ok (.iconst 0, 1) := by decide +kernel
theorem d_Hill_whyNot_194 : decode prog_6_method_14_code 194 = .ok (.ireturn, 1) := by decide +kernel
theorem d_Hill_follow_0 : decode prog_6_method_15_code 0 = .ok (.aload_n 1, 1) := by decide +kernel
theorem d_Hill_follow_1 : decode prog_6_method_15_code 1 = .ok (.invokevirtual 56, 3) := by decide +kernel
theorem d_Hill_follow_4 : decode prog_6_method_15_code 4 = .ok (.tableswitch 126 0 4 #[36, 59, 80, 91, 109], 36) := by decide +kernel
theorem d_Hill_follow_40 : decode prog_6_method_15_code 40 = .ok (.aload_n 0, 1) := by decide +kernel
theorem d_Hill_follow_41 : decode prog_6_method_15_code 41 = .ok (.aload_n 1, 1) := by decide +kernel
theorem d_Hill_follow_42 : decode prog_6_method_15_code 42 = .ok (.invokevirtual 61, 3) := by decide +kernel
theorem d_Hill_follow_45 : decode prog_6_method_15_code 45 = .ok (.aload_n 1, 1) := by decide +kernel
theorem d_Hill_follow_46 : decode prog_6_method_15_code 46 = .ok (.invokevirtual 68, 3) := by decide +kernel
theorem d_Hill_follow_49 : decode prog_6_method_15_code 49 = .ok (.aload_n 0, 1) := by decide +kernel
theorem d_Hill_follow_50 : decode prog_6_method_15_code 50 = .ok (.aload_n 1, 1) := by decide +kernel
theorem d_Hill_follow_51 : decode prog_6_method_15_code 51 = .ok (.invokevirtual 61, 3) := by decide +kernel
theorem d_Hill_follow_54 : decode prog_6_method_15_code 54 = .ok (.invokevirtual 82, 3) := by decide +kernel
theorem d_Hill_follow_57 : decode prog_6_method_15_code 57 = .ok (.invokevirtual 85, 3) := by decide +kernel
theorem d_Hill_follow_60 : decode prog_6_method_15_code 60 = .ok (.goto 70, 3) := by decide +kernel
theorem d_Hill_follow_63 : decode prog_6_method_15_code 63 = .ok (.aload_n 0, 1) := by decide +kernel
theorem d_Hill_follow_64 : decode prog_6_method_15_code 64 = .ok (.aload_n 1, 1) := by decide +kernel
theorem d_Hill_follow_65 : decode prog_6_method_15_code 65 = .ok (.invokevirtual 61, 3) := by decide +kernel
theorem d_Hill_follow_68 : decode prog_6_method_15_code 68 = .ok (.bipush (-6), 2) := by decide +kernel
theorem d_Hill_follow_70 : decode prog_6_method_15_code 70 = .ok (.aload_n 0, 1) := by decide +kernel
theorem d_Hill_follow_71 : decode prog_6_method_15_code 71 = .ok (.aload_n 1, 1) := by decide +kernel
theorem d_Hill_follow_72 : decode prog_6_method_15_code 72 = .ok (.invokevirtual 61, 3) := by decide +kernel
theorem d_Hill_follow_75 : decode prog_6_method_15_code 75 = .ok (.invokevirtual 82, 3) := by decide +kernel
theorem d_Hill_follow_78 : decode prog_6_method_15_code 78 = .ok (.invokevirtual 85, 3) := by decide +kernel
theorem d_Hill_follow_81 : decode prog_6_method_15_code 81 = .ok (.goto 49, 3) := by decide +kernel
theorem d_Hill_follow_84 : decode prog_6_method_15_code 84 = .ok (.aload_n 0, 1) := by decide +kernel
theorem d_Hill_follow_85 : decode prog_6_method_15_code 85 = .ok (.aload_n 1, 1) := by decide +kernel
theorem d_Hill_follow_86 : decode prog_6_method_15_code 86 = .ok (.invokevirtual 61, 3) := by decide +kernel
theorem d_Hill_follow_89 : decode prog_6_method_15_code 89 = .ok (.invokevirtual 89, 3) := by decide +kernel
theorem d_Hill_follow_92 : decode prog_6_method_15_code 92 = .ok (.goto 38, 3) := by decide +kernel
theorem d_Hill_follow_95 : decode prog_6_method_15_code 95 = .ok (.aload_n 0, 1) := by decide +kernel
theorem d_Hill_follow_96 : decode prog_6_method_15_code 96 = .ok (.getfield 12, 3) := by decide +kernel
theorem d_Hill_follow_99 : decode prog_6_method_15_code 99 = .ok (.aload_n 1, 1) := by decide +kernel
theorem d_Hill_follow_100 : decode prog_6_method_15_code 100 = .ok (.invokevirtual 61, 3) := by decide +kernel
theorem d_Hill_follow_103 : decode prog_6_method_15_code 103 = .ok (.aload_n 1, 1) := by decide +kernel
theorem d_Hill_follow_104 : decode prog_6_method_15_code 104 = .ok (.invokevirtual 68, 3) := by decide +kernel
theorem d_Hill_follow_107 : decode prog_6_method_15_code 107 = .ok (.invokevirtual 93, 3) := by decide +kernel
theorem d_Hill_follow_110 : decode prog_6_method_15_code 110 = .ok (.goto 20, 3) := by decide +kernel
theorem d_Hill_follow_113 : decode prog_6_method_15_code 113 = .ok (.aload_n 0, 1) := by decide +kernel
theorem d_Hill_follow_114 : decode prog_6_method_15_code 114 = .ok (.invokevirtual 97, 3) := by decide +kernel
theorem d_Hill_follow_117 : decode prog_6_method_15_code 117 = .ok (.aload_n 0, 1) := by decide +kernel
theorem d_Hill_follow_118 : decode prog_6_method_15_code 118 = .ok (.dup, 1) := by decide +kernel
theorem d_Hill_follow_119 : decode prog_6_method_15_code 119 = .ok (.getfield 29, 3) := by decide +kernel
theorem d_Hill_follow_122 : decode prog_6_method_15_code 122 = .ok (.iconst 1, 1) := by decide +kernel
theorem d_Hill_follow_123 : decode prog_6_method_15_code 123 = .ok (.iadd, 1) := by decide +kernel
theorem d_Hill_follow_124 : decode prog_6_method_15_code 124 = .ok (.putfield 29, 3) := by decide +kernel
theorem d_Hill_follow_127 : decode prog_6_method_15_code 127 = .ok (.goto 3, 3) := by decide +kernel
theorem d_Hill_follow_130 : decode prog_6_method_15_code 130 = .ok (.return_, 1) := by decide +kernel
theorem d_Hill_blow_0 : decode prog_6_method_16_code 0 = .ok (.aload_n 0, 1) := by decide +kernel
theorem d_Hill_blow_1 : decode prog_6_method_16_code 1 = .ok (.invokevirtual 40, 3) := by decide +kernel
theorem d_Hill_blow_4 : decode prog_6_method_16_code 4 = .ok (.istore_n 2, 1) := by decide +kernel
theorem d_Hill_blow_5 : decode prog_6_method_16_code 5 = .ok (.iconst 0, 1) := by decide +kernel
theorem d_Hill_blow_6 : decode prog_6_method_16_code 6 = .ok (.istore_n 3, 1) := by decide +kernel
theorem d_Hill_blow_7 : decode prog_6_method_16_code 7 = .ok (.iload_n 3, 1) := by decide +kernel
theorem d_Hill_blow_8 : decode prog_6_method_16_code 8 = .ok (.aload_n 0, 1) := by decide +kernel
theorem d_Hill_blow_9 : decode prog_6_method_16_code 9 = .ok (.getfield 18, 3) := by decide +kernel
theorem d_Hill_blow_12 : decode prog_6_method_16_code 12 = .ok (.arraylength, 1) := by decide +kernel
theorem d_Hill_blow_13 : decode prog_6_method_16_code 13 = .ok (.if_icmp .ge 48, 3) := by decide +kernel
theorem d_Hill_blow_16 : decode prog_6_method_16_code 16 = .ok (.aload_n 0, 1) := by decide +kernel
theorem d_Hill_blow_17 : decode prog_6_method_16_code 17 = .ok (.getfield 18, 3) := by decide +kernel
theorem d_Hill_blow_20 : decode prog_6_method_16_code 20 = .ok (.iload_n 3, 1) := by decide +kernel
theorem d_Hill_blow_21 : decode prog_6_method_16_code 21 = .ok (.iaload, 1) := by decide +kernel
theorem d_Hill_blow_22 : decode prog_6_method_16_code 22 = .ok (.istore 4, 2) := by decide +kernel
theorem d_Hill_blow_24 : decode prog_6_method_16_code 24 = .ok (.iload 4, 2) := by decide +kernel
theorem d_Hill_blow_26 : decode prog_6_method_16_code 26 = .ok (.bipush (-6), 2) := by decide +kernel
theorem d_Hill_blow_28 : decode prog_6_method_16_code 28 = .ok (.if_icmp .ne 6, 3) := by decide +kernel
theorem d_Hill_blow_31 : decode prog_6_method_16_code 31 = .ok (.goto 24, 3) := by decide +kernel
theorem d_Hill_blow_34 : decode prog_6_method_16_code 34 = .ok (.aload_n 0, 1) := by decide +kernel
theorem d_Hill_blow_35 : decode prog_6_method_16_code 35 = .ok (.iload_n 3, 1) := by decide +kernel
theorem d_Hill_blow_36 : decode prog_6_method_16_code 36 = .ok (.aload_n 0, 1) := by decide +kernel
theorem d_Hill_blow_37 : decode prog_6_method_16_code 37 = .ok (.getfield 12, 3) := by decide +kernel
theorem d_Hill_blow_40 : decode prog_6_method_16_code 40 = .ok (.iload 4, 2) := by decide +kernel
theorem d_Hill_blow_42 : decode prog_6_method_16_code 42 = .ok (.iconst 1, 1) := by decide +kernel
theorem d_Hill_blow_43 : decode prog_6_method_16_code 43 = .ok (.iload_n 1, 1) := by decide +kernel
theorem d_Hill_blow_44 : decode prog_6_method_16_code 44 = .ok (.invokevirtual 100, 3) := by decide +kernel
theorem d_Hill_blow_47 : decode prog_6_method_16_code 47 = .ok (.iload_n 2, 1) := by decide +kernel
theorem d_Hill_blow_48 : decode prog_6_method_16_code 48 = .ok (.iand, 1) := by decide +kernel
theorem d_Hill_blow_49 : decode prog_6_method_16_code 49 = .ok (.invokestatic 74, 3) := by decide +kernel
theorem d_Hill_blow_52 : decode prog_6_method_16_code 52 = .ok (.invokevirtual 104, 3) := by decide +kernel
theorem d_Hill_blow_55 : decode prog_6_method_16_code 55 = .ok (.iinc 3 1, 3) := by decide +kernel
theorem d_Hill_blow_58 : decode prog_6_method_16_code 58 = .ok (.goto (-51), 3) := by decide +kernel
theorem d_Hill_blow_61 : decode prog_6_method_16_code 61 = .ok (.return_, 1) := by decide +kernel
theorem d_Hill_chip_0 : decode prog_6_method_17_code 0 = .ok (.aload_n 0, 1) := by decide +kernel
theorem d_Hill_chip_1 : decode prog_6_method_17_code 1 = .ok (.iload_n 1, 1) := by decide +kernel
theorem d_Hill_chip_2 : decode prog_6_method_17_code 2 = .ok (.invokevirtual 82, 3) := by decide +kernel
theorem d_Hill_chip_5 : decode prog_6_method_17_code 5 = .ok (.iload_n 2, 1) := by decide +kernel
theorem d_Hill_chip_6 : decode prog_6_method_17_code 6 = .ok (.iadd, 1) := by decide +kernel
theorem d_Hill_chip_7 : decode prog_6_method_17_code 7 = .ok (.bipush 9, 2) := by decide +kernel
theorem d_Hill_chip_9 : decode prog_6_method_17_code 9 = .ok (.invokestatic 107, 3) := by decide +kernel
theorem d_Hill_chip_12 : decode prog_6_method_17_code 12 = .ok (.istore_n 3, 1) := by decide +kernel
theorem d_Hill_chip_13 : decode prog_6_method_17_code 13 = .ok (.iload_n 3, 1) := by decide +kernel
theorem d_Hill_chip_14 : decode prog_6_method_17_code 14 = .ok (.bipush 9, 2) := by decide +kernel
theorem d_Hill_chip_16 : decode prog_6_method_17_code 16 = .ok (.if_icmp .ge 17, 3) := by decide +kernel
theorem d_Hill_chip_19 : decode prog_6_method_17_code 19 = .ok (.aload_n 0, 1) := by decide +kernel
theorem d_Hill_chip_20 : decode prog_6_method_17_code 20 = .ok (.iload_n 1, 1) := by decide +kernel
theorem d_Hill_chip_21 : decode prog_6_method_17_code 21 = .ok (.aload_n 0, 1) := by decide +kernel
theorem d_Hill_chip_22 : decode prog_6_method_17_code 22 = .ok (.iload_n 1, 1) := by decide +kernel
theorem d_Hill_chip_23 : decode prog_6_method_17_code 23 = .ok (.invokevirtual 36, 3) := by decide +kernel
theorem d_Hill_chip_26 : decode prog_6_method_17_code 26 = .ok (.iload_n 3, 1) := by decide +kernel
theorem d_Hill_chip_27 : decode prog_6_method_17_code 27 = .ok (.invokevirtual 85, 3) := by decide +kernel
theorem d_Hill_chip_30 : decode prog_6_method_17_code 30 = .ok (.goto 23, 3) := by decide +kernel
theorem d_Hill_chip_33 : decode prog_6_method_17_code 33 = .ok (.aload_n 0, 1) := by decide +kernel
theorem d_Hill_chip_34 : decode prog_6_method_17_code 34 = .ok (.iload_n 1, 1) := by decide +kernel
theorem d_Hill_chip_35 : decode prog_6_method_17_code 35 = .ok (.bipush (-6), 2) := by decide +kernel
theorem d_Hill_chip_37 : decode prog_6_method_17_code 37 = .ok (.iload_n 3, 1) := by decide +kernel
theorem d_Hill_chip_38 : decode prog_6_method_17_code 38 = .ok (.invokevirtual 85, 3) := by decide +kernel
theorem d_Hill_chip_41 : decode prog_6_method_17_code 41 = .ok (.aload_n 0, 1) := by decide +kernel
theorem d_Hill_chip_42 : decode prog_6_method_17_code 42 = .ok (.dup, 1) := by decide +kernel
theorem d_Hill_chip_43 : decode prog_6_method_17_code 43 = .ok (.getfield 25, 3) := by decide +kernel
theorem d_Hill_chip_46 : decode prog_6_method_17_code 46 = .ok (.iconst 1, 1) := by decide +kernel
theorem d_Hill_chip_47 : decode prog_6_method_17_code 47 = .ok (.iload_n 1, 1) := by decide +kernel
theorem d_Hill_chip_48 : decode prog_6_method_17_code 48 = .ok (.ishl, 1) := by decide +kernel
theorem d_Hill_chip_49 : decode prog_6_method_17_code 49 = .ok (.ior, 1) := by decide +kernel
theorem d_Hill_chip_50 : decode prog_6_method_17_code 50 = .ok (.putfield 25, 3) := by decide +kernel
theorem d_Hill_chip_53 : decode prog_6_method_17_code 53 = .ok (.return_, 1) := by decide +kernel
theorem d_Hill_packAll_0 : decode prog_6_method_18_code 0 = .ok (.iconst 0, 1) := by decide +kernel
theorem d_Hill_packAll_1 : decode prog_6_method_18_code 1 = .ok (.istore_n 1, 1) := by decide +kernel
theorem d_Hill_packAll_2 : decode prog_6_method_18_code 2 = .ok (.iload_n 1, 1) := by decide +kernel
theorem d_Hill_packAll_3 : decode prog_6_method_18_code 3 = .ok (.aload_n 0, 1) := by decide +kernel
theorem d_Hill_packAll_4 : decode prog_6_method_18_code 4 = .ok (.getfield 18, 3) := by decide +kernel
theorem d_Hill_packAll_7 : decode prog_6_method_18_code 7 = .ok (.arraylength, 1) := by decide +kernel
theorem d_Hill_packAll_8 : decode prog_6_method_18_code 8 = .ok (.if_icmp .ge 17, 3) := by decide +kernel
theorem d_Hill_packAll_11 : decode prog_6_method_18_code 11 = .ok (.aload_n 0, 1) := by decide +kernel
theorem d_Hill_packAll_12 : decode prog_6_method_18_code 12 = .ok (.getfield 18, 3) := by decide +kernel
theorem d_Hill_packAll_15 : decode prog_6_method_18_code 15 = .ok (.iload_n 1, 1) := by decide +kernel
theorem d_Hill_packAll_16 : decode prog_6_method_18_code 16 = .ok (.bipush (-6), 2) := by decide +kernel
theorem d_Hill_packAll_18 : decode prog_6_method_18_code 18 = .ok (.iastore, 1) := by decide +kernel
theorem d_Hill_packAll_19 : decode prog_6_method_18_code 19 = .ok (.iinc 1 1, 3) := by decide +kernel
theorem d_Hill_packAll_22 : decode prog_6_method_18_code 22 = .ok (.goto (-20), 3) := by decide +kernel
theorem d_Hill_packAll_25 : decode prog_6_method_18_code 25 = .ok (.return_, 1) := by decide +kernel
theorem d_Image_init_0 : decode prog_7_method_1_code 0 = .ok (.aload_n 0, 1) := by decide +kernel
theorem d_Image_init_1 : decode prog_7_method_1_code 1 = .ok (.invokespecial 1, 3) := by decide +kernel
theorem d_Image_init_4 : decode prog_7_method_1_code 4 = .ok (.aload_n 0, 1) := by decide +kernel
theorem d_Image_init_5 : decode prog_7_method_1_code 5 = .ok (.new 7, 3) := by decide +kernel
theorem d_Image_init_8 : decode prog_7_method_1_code 8 = .ok (.dup, 1) := by decide +kernel
theorem d_Image_init_9 : decode prog_7_method_1_code 9 = .ok (.invokespecial 9, 3) := by decide +kernel
theorem d_Image_init_12 : decode prog_7_method_1_code 12 = .ok (.putfield 10, 3) := by decide +kernel
theorem d_Image_init_15 : decode prog_7_method_1_code 15 = .ok (.aload_n 0, 1) := by decide +kernel
theorem d_Image_init_16 : decode prog_7_method_1_code 16 = .ok (.new 16, 3) := by decide +kernel
theorem d_Image_init_19 : decode prog_7_method_1_code 19 = .ok (.dup, 1) := by decide +kernel
theorem d_Image_init_20 : decode prog_7_method_1_code 20 = .ok (.invokespecial 18, 3) := by decide +kernel
theorem d_Image_init_23 : decode prog_7_method_1_code 23 = .ok (.putfield 19, 3) := by decide +kernel
theorem d_Image_init_26 : decode prog_7_method_1_code 26 = .ok (.aload_n 0, 1) := by decide +kernel
theorem d_Image_init_27 : decode prog_7_method_1_code 27 = .ok (.iconst 0, 1) := by decide +kernel
theorem d_Image_init_28 : decode prog_7_method_1_code 28 = .ok (.putfield 23, 3) := by decide +kernel
theorem d_Image_init_31 : decode prog_7_method_1_code 31 = .ok (.return_, 1) := by decide +kernel
theorem d_Image_isKept_0 : decode prog_7_method_2_code 0 = .ok (.aload_n 0, 1) := by decide +kernel
theorem d_Image_isKept_1 : decode prog_7_method_2_code 1 = .ok (.getfield 23, 3) := by decide +kernel
theorem d_Image_isKept_4 : decode prog_7_method_2_code 4 = .ok (.ireturn, 1) := by decide +kernel
theorem d_Image_keep_0 : decode prog_7_method_3_code 0 = .ok (.aload_n 0, 1) := by decide +kernel
theorem d_Image_keep_1 : decode prog_7_method_3_code 1 = .ok (.getfield 10, 3) := by decide +kernel
theorem d_Image_keep_4 : decode prog_7_method_3_code 4 = .ok (.aload_n 1, 1) := by decide +kernel
theorem d_Image_keep_5 : decode prog_7_method_3_code 5 = .ok (.invokevirtual 27, 3) := by decide +kernel
theorem d_Image_keep_8 : decode prog_7_method_3_code 8 = .ok (.aload_n 0, 1) := by decide +kernel
theorem d_Image_keep_9 : decode prog_7_method_3_code 9 = .ok (.getfield 19, 3) := by decide +kernel
theorem d_Image_keep_12 : decode prog_7_method_3_code 12 = .ok (.aload_n 2, 1) := by decide +kernel
theorem d_Image_keep_13 : decode prog_7_method_3_code 13 = .ok (.invokevirtual 31, 3) := by decide +kernel
theorem d_Image_keep_16 : decode prog_7_method_3_code 16 = .ok (.aload_n 0, 1) := by decide +kernel
theorem d_Image_keep_17 : decode prog_7_method_3_code 17 = .ok (.iconst 1, 1) := by decide +kernel
theorem d_Image_keep_18 : decode prog_7_method_3_code 18 = .ok (.putfield 23, 3) := by decide +kernel
theorem d_Image_keep_21 : decode prog_7_method_3_code 21 = .ok (.return_, 1) := by decide +kernel
theorem d_Image_bringBack_0 : decode prog_7_method_4_code 0 = .ok (.aload_n 1, 1) := by decide +kernel
theorem d_Image_bringBack_1 : decode prog_7_method_4_code 1 = .ok (.aload_n 0, 1) := by decide +kernel
theorem d_Image_bringBack_2 : decode prog_7_method_4_code 2 = .ok (.getfield 10, 3) := by decide +kernel
theorem d_Image_bringBack_5 : decode prog_7_method_4_code 5 = .ok (.invokevirtual 27, 3) := by decide +kernel
theorem d_Image_bringBack_8 : decode prog_7_method_4_code 8 = .ok (.aload_n 2, 1) := by decide +kernel
theorem d_Image_bringBack_9 : decode prog_7_method_4_code 9 = .ok (.aload_n 0, 1) := by decide +kernel
theorem d_Image_bringBack_10 : decode prog_7_method_4_code 10 = .ok (.getfield 19, 3) := by decide +kernel
theorem d_Image_bringBack_13 : decode prog_7_method_4_code 13 = .ok (.invokevirtual 31, 3) := by decide +kernel
theorem d_Image_bringBack_16 : decode prog_7_method_4_code 16 = .ok (.return_, 1) := by decide +kernel
theorem d_Pad_init_0 : decode prog_8_method_1_code 0 = .ok (.aload_n 0, 1) := by decide +kernel
theorem d_Pad_init_1 : decode prog_8_method_1_code 1 = .ok (.invokespecial 3, 3) := by decide +kernel
theorem d_Pad_init_4 : decode prog_8_method_1_code 4 = .ok (.aload_n 0, 1) := by decide +kernel
theorem d_Pad_init_5 : decode prog_8_method_1_code 5 = .ok (.bipush 60, 2) := by decide +kernel
theorem d_Pad_init_7 : decode prog_8_method_1_code 7 = .ok (.newarray .int, 2) := by decide +kernel
theorem d_Pad_init_9 : decode prog_8_method_1_code 9 = .ok (.putfield 9, 3) := by decide +kernel
theorem d_Pad_init_12 : decode prog_8_method_1_code 12 = .ok (.aload_n 0, 1) := by decide +kernel
theorem d_Pad_init_13 : decode prog_8_method_1_code 13 = .ok (.iconst 0, 1) := by decide +kernel
theorem d_Pad_init_14 : decode prog_8_method_1_code 14 = .ok (.putfield 15, 3) := by decide +kernel
theorem d_Pad_init_17 : decode prog_8_method_1_code 17 = .ok (.return_, 1) := by decide +kernel
theorem d_Pad_size_0 : decode prog_8_method_2_code 0 = .ok (.aload_n 0, 1) := by decide +kernel
theorem d_Pad_size_1 : decode prog_8_method_2_code 1 = .ok (.getfield 15, 3) := by decide +kernel
theorem d_Pad_size_4 : decode prog_8_method_2_code 4 = .ok (.ireturn, 1) := by decide +kernel
theorem d_Pad_add_0 : decode prog_8_method_3_code 0 = .ok (.aload_n 0, 1) := by decide +kernel
theorem d_Pad_add_1 : decode prog_8_method_3_code 1 = .ok (.getfield 15, 3) := by decide +kernel
theorem d_Pad_add_4 : decode prog_8_method_3_code 4 = .ok (.ifCond .lt 15, 3) := by decide +kernel
theorem d_Pad_add_7 : decode prog_8_method_3_code 7 = .ok (.aload_n 0, 1) := by decide +kernel
theorem d_Pad_add_8 : decode prog_8_method_3_code 8 = .ok (.getfield 15, 3) := by decide +kernel
theorem d_Pad_add_11 : decode prog_8_method_3_code 11 = .ok (.aload_n 0, 1) := by decide +kernel
theorem d_Pad_add_12 : decode prog_8_method_3_code 12 = .ok (.getfield 9, 3) := by decide +kernel
theorem d_Pad_add_15 : decode prog_8_method_3_code 15 = .ok (.arraylength, 1) := by decide +kernel
theorem d_Pad_add_16 : decode prog_8_method_3_code 16 = .ok (.if_icmp .lt 4, 3) := by decide +kernel
theorem d_Pad_add_19 : decode prog_8_method_3_code 19 = .ok (.return_, 1) := by decide +kernel
theorem d_Pad_add_20 : decode prog_8_method_3_code 20 = .ok (.aload_n 0, 1) := by decide +kernel
theorem d_Pad_add_21 : decode prog_8_method_3_code 21 = .ok (.getfield 9, 3) := by decide +kernel
theorem d_Pad_add_24 : decode prog_8_method_3_code 24 = .ok (.aload_n 0, 1) := by decide +kernel
theorem d_Pad_add_25 : decode prog_8_method_3_code 25 = .ok (.getfield 15, 3) := by decide +kernel
theorem d_Pad_add_28 : decode prog_8_method_3_code 28 = .ok (.iload_n 1, 1) := by decide +kernel
theorem d_Pad_add_29 : decode prog_8_method_3_code 29 = .ok (.iastore, 1) := by decide +kernel
theorem d_Pad_add_30 : decode prog_8_method_3_code 30 = .ok (.aload_n 0, 1) := by decide +kernel
theorem d_Pad_add_31 : decode prog_8_method_3_code 31 = .ok (.dup, 1) := by decide +kernel
theorem d_Pad_add_32 : decode prog_8_method_3_code 32 = .ok (.getfield 15, 3) := by decide +kernel
theorem d_Pad_add_35 : decode prog_8_method_3_code 35 = .ok (.iconst 1, 1) := by decide +kernel
theorem d_Pad_add_36 : decode prog_8_method_3_code 36 = .ok (.iadd, 1) := by decide +kernel
theorem d_Pad_add_37 : decode prog_8_method_3_code 37 = .ok (.putfield 15, 3) := by decide +kernel
theorem d_Pad_add_40 : decode prog_8_method_3_code 40 = .ok (.return_, 1) := by decide +kernel
theorem d_Pad_clear_0 : decode prog_8_method_4_code 0 = .ok (.aload_n 0, 1) := by decide +kernel
theorem d_Pad_clear_1 : decode prog_8_method_4_code 1 = .ok (.iconst 0, 1) := by decide +kernel
theorem d_Pad_clear_2 : decode prog_8_method_4_code 2 = .ok (.putfield 15, 3) := by decide +kernel
theorem d_Pad_clear_5 : decode prog_8_method_4_code 5 = .ok (.return_, 1) := by decide +kernel
theorem d_Pad_firstWrong_0 : decode prog_8_method_5_code 0 = .ok (.iconst 0, 1) := by decide +kernel
theorem d_Pad_firstWrong_1 : decode prog_8_method_5_code 1 = .ok (.istore_n 1, 1) := by decide +kernel
theorem d_Pad_firstWrong_2 : decode prog_8_method_5_code 2 = .ok (.iconst 0, 1) := by decide +kernel
theorem d_Pad_firstWrong_3 : decode prog_8_method_5_code 3 = .ok (.istore_n 2, 1) := by decide +kernel
theorem d_Pad_firstWrong_4 : decode prog_8_method_5_code 4 = .ok (.iconst 0, 1) := by decide +kernel
theorem d_Pad_firstWrong_5 : decode prog_8_method_5_code 5 = .ok (.istore_n 3, 1) := by decide +kernel
theorem d_Pad_firstWrong_6 : decode prog_8_method_5_code 6 = .ok (.iload_n 3, 1) := by decide +kernel
theorem d_Pad_firstWrong_7 : decode prog_8_method_5_code 7 = .ok (.aload_n 0, 1) := by decide +kernel
theorem d_Pad_firstWrong_8 : decode prog_8_method_5_code 8 = .ok (.getfield 15, 3) := by decide +kernel
theorem d_Pad_firstWrong_11 : decode prog_8_method_5_code 11 = .ok (.if_icmp .ge 66, 3) := by decide +kernel
theorem d_Pad_firstWrong_14 : decode prog_8_method_5_code 14 = .ok (.iload_n 3, 1) := by decide +kernel
theorem d_Pad_firstWrong_15 : decode prog_8_method_5_code 15 = .ok (.aload_n 0, 1) := by decide +kernel
theorem d_Pad_firstWrong_16 : decode prog_8_method_5_code 16 = .ok (.getfield 9, 3) := by decide +kernel
theorem d_Pad_firstWrong_19 : decode prog_8_method_5_code 19 = .ok (.arraylength, 1) := by decide +kernel
theorem d_Pad_firstWrong_20 : decode prog_8_method_5_code 20 = .ok (.if_icmp .ge 57, 3) := by decide +kernel
theorem d_Pad_firstWrong_23 : decode prog_8_method_5_code 23 = .ok (.aload_n 0, 1) := by decide +kernel
theorem d_Pad_firstWrong_24 : decode prog_8_method_5_code 24 = .ok (.getfield 9, 3) := by decide +kernel
theorem d_Pad_firstWrong_27 : decode prog_8_method_5_code 27 = .ok (.iload_n 3, 1) := by decide +kernel
theorem d_Pad_firstWrong_28 : decode prog_8_method_5_code 28 = .ok (.iaload, 1) := by decide +kernel
theorem d_Pad_firstWrong_29 : decode prog_8_method_5_code 29 = .ok (.istore 4, 2) := by decide +kernel
theorem d_Pad_firstWrong_31 : decode prog_8_method_5_code 31 = .ok (.iload_n 2, 1) := by decide +kernel
theorem d_Pad_firstWrong_32 : decode prog_8_method_5_code 32 = .ok (.ifCond .le 20, 3) := by decide +kernel
theorem d_Pad_firstWrong_35 : decode prog_8_method_5_code 35 = .ok (.iload_n 1, 1) := by decide +kernel
theorem d_Pad_firstWrong_36 : decode prog_8_method_5_code 36 = .ok (.iload 4, 2) := by decide +kernel
theorem d_Pad_firstWrong_38 : decode prog_8_method_5_code 38 = .ok (.invokestatic 19, 3) := by decide +kernel
theorem d_Pad_firstWrong_41 : decode prog_8_method_5_code 41 = .ok (.ifCond .ne 5, 3) := by decide +kernel
theorem d_Pad_firstWrong_44 : decode prog_8_method_5_code 44 = .ok (.iload_n 3, 1) := by decide +kernel
theorem d_Pad_firstWrong_45 : decode prog_8_method_5_code 45 = .ok (.ireturn, 1) := by decide +kernel
theorem d_Pad_firstWrong_46 : decode prog_8_method_5_code 46 = .ok (.iinc 2 (-1), 3) := by decide +kernel
theorem d_Pad_firstWrong_49 : decode prog_8_method_5_code 49 = .ok (.goto 22, 3) := by decide +kernel
theorem d_Pad_firstWrong_52 : decode prog_8_method_5_code 52 = .ok (.iload 4, 2) := by decide +kernel
theorem d_Pad_firstWrong_54 : decode prog_8_method_5_code 54 = .ok (.invokestatic 23, 3) := by decide +kernel
theorem d_Pad_firstWrong_57 : decode prog_8_method_5_code 57 = .ok (.ifCond .ne 5, 3) := by decide +kernel
theorem d_Pad_firstWrong_60 : decode prog_8_method_5_code 60 = .ok (.iload_n 3, 1) := by decide +kernel
theorem d_Pad_firstWrong_61 : decode prog_8_method_5_code 61 = .ok (.ireturn, 1) := by decide +kernel
theorem d_Pad_firstWrong_62 : decode prog_8_method_5_code 62 = .ok (.iload 4, 2) := by decide +kernel
theorem d_Pad_firstWrong_64 : decode prog_8_method_5_code 64 = .ok (.istore_n 1, 1) := by decide +kernel
theorem d_Pad_firstWrong_65 : decode prog_8_method_5_code 65 = .ok (.iload 4, 2) := by decide +kernel
theorem d_Pad_firstWrong_67 : decode prog_8_method_5_code 67 = .ok (.invokestatic 27, 3) := by decide +kernel
theorem d_Pad_firstWrong_70 : decode prog_8_method_5_code 70 = .ok (.istore_n 2, 1) := by decide +kernel
theorem d_Pad_firstWrong_71 : decode prog_8_method_5_code 71 = .ok (.iinc 3 1, 3) := by decide +kernel
theorem d_Pad_firstWrong_74 : decode prog_8_method_5_code 74 = .ok (.goto (-68), 3) := by decide +kernel
theorem d_Pad_firstWrong_77 : decode prog_8_method_5_code 77 = .ok (.iload_n 2, 1) := by decide +kernel
theorem d_Pad_firstWrong_78 : decode prog_8_method_5_code 78 = .ok (.ifCond .le 10, 3) := by decide +kernel
theorem d_Pad_firstWrong_81 : decode prog_8_method_5_code 81 = .ok (.aload_n 0, 1) := by decide +kernel
theorem d_Pad_firstWrong_82 : decode prog_8_method_5_code 82 = .ok (.getfield 15, 3) := by decide +kernel
theorem d_Pad_firstWrong_85 : decode prog_8_method_5_code 85 = .ok (.goto 5, 3) := by decide +kernel
theorem d_Pad_firstWrong_88 : decode prog_8_method_5_code 88 = .ok (.bipush (-6), 2) := by decide +kernel
theorem d_Pad_firstWrong_90 : decode prog_8_method_5_code 90 = .ok (.ireturn, 1) := by decide +kernel
theorem d_Pad_read_0 : decode prog_8_method_6_code 0 = .ok (.aload_n 0, 1) := by decide +kernel
theorem d_Pad_read_1 : decode prog_8_method_6_code 1 = .ok (.iload_n 1, 1) := by decide +kernel
theorem d_Pad_read_2 : decode prog_8_method_6_code 2 = .ok (.invokevirtual 31, 3) := by decide +kernel
theorem d_Pad_read_5 : decode prog_8_method_6_code 5 = .ok (.istore_n 3, 1) := by decide +kernel
theorem d_Pad_read_6 : decode prog_8_method_6_code 6 = .ok (.aload_n 0, 1) := by decide +kernel
theorem d_Pad_read_7 : decode prog_8_method_6_code 7 = .ok (.iload_n 1, 1) := by decide +kernel
theorem d_Pad_read_8 : decode prog_8_method_6_code 8 = .ok (.iconst 1, 1) := by decide +kernel
theorem d_Pad_read_9 : decode prog_8_method_6_code 9 = .ok (.iadd, 1) := by decide +kernel
theorem d_Pad_read_10 : decode prog_8_method_6_code 10 = .ok (.invokevirtual 31, 3) := by decide +kernel
theorem d_Pad_read_13 : decode prog_8_method_6_code 13 = .ok (.istore 4, 2) := by decide +kernel
theorem d_Pad_read_15 : decode prog_8_method_6_code 15 = .ok (.iload_n 3, 1) := by decide +kernel
theorem d_Pad_read_16 : decode prog_8_method_6_code 16 = .ok (.invokestatic 34, 3) := by decide +kernel
theorem d_Pad_read_19 : decode prog_8_method_6_code 19 = .ok (.ifCond .eq 40, 3) := by decide +kernel
theorem d_Pad_read_22 : decode prog_8_method_6_code 22 = .ok (.iload 4, 2) := by decide +kernel
theorem d_Pad_read_24 : decode prog_8_method_6_code 24 = .ok (.bipush 95, 2) := by decide +kernel
theorem d_Pad_read_26 : decode prog_8_method_6_code 26 = .ok (.if_icmp .ne 16, 3) := by decide +kernel
theorem d_Pad_read_29 : decode prog_8_method_6_code 29 = .ok (.aload_n 2, 1) := by decide +kernel
theorem d_Pad_read_30 : decode prog_8_method_6_code 30 = .ok (.iconst 1, 1) := by decide +kernel
theorem d_Pad_read_31 : decode prog_8_method_6_code 31 = .ok (.iload_n 3, 1) := by decide +kernel
theorem d_Pad_read_32 : decode prog_8_method_6_code 32 = .ok (.bipush 65, 2) := by decide +kernel
theorem d_Pad_read_34 : decode prog_8_method_6_code 34 = .ok (.isub, 1) := by decide +kernel
theorem d_Pad_read_35 : decode prog_8_method_6_code 35 = .ok (.iconst 0, 1) := by decide +kernel
theorem d_Pad_read_36 : decode prog_8_method_6_code 36 = .ok (.invokevirtual 39, 3) := by decide +kernel
theorem d_Pad_read_39 : decode prog_8_method_6_code 39 = .ok (.goto 76, 3) := by decide +kernel
theorem d_Pad_read_42 : decode prog_8_method_6_code 42 = .ok (.aload_n 2, 1) := by decide +kernel
theorem d_Pad_read_43 : decode prog_8_method_6_code 43 = .ok (.iconst 0, 1) := by decide +kernel
theorem d_Pad_read_44 : decode prog_8_method_6_code 44 = .ok (.iload_n 3, 1) := by decide +kernel
theorem d_Pad_read_45 : decode prog_8_method_6_code 45 = .ok (.bipush 65, 2) := by decide +kernel
theorem d_Pad_read_47 : decode prog_8_method_6_code 47 = .ok (.isub, 1) := by decide +kernel
theorem d_Pad_read_48 : decode prog_8_method_6_code 48 = .ok (.iload 4, 2) := by decide +kernel
theorem d_Pad_read_50 : decode prog_8_method_6_code 50 = .ok (.bipush 97, 2) := by decide +kernel
theorem d_Pad_read_52 : decode prog_8_method_6_code 52 = .ok (.isub, 1) := by decide +kernel
theorem d_Pad_read_53 : decode prog_8_method_6_code 53 = .ok (.invokevirtual 39, 3) := by decide +kernel
theorem d_Pad_read_56 : decode prog_8_method_6_code 56 = .ok (.goto 59, 3) := by decide +kernel
theorem d_Pad_read_59 : decode prog_8_method_6_code 59 = .ok (.iload_n 3, 1) := by decide +kernel
theorem d_Pad_read_60 : decode prog_8_method_6_code 60 = .ok (.bipush 100, 2) := by decide +kernel
theorem d_Pad_read_62 : decode prog_8_method_6_code 62 = .ok (.if_icmp .ne 17, 3) := by decide +kernel
theorem d_Pad_read_65 : decode prog_8_method_6_code 65 = .ok (.aload_n 2, 1) := by decide +kernel
theorem d_Pad_read_66 : decode prog_8_method_6_code 66 = .ok (.iconst 2, 1) := by decide +kernel
theorem d_Pad_read_67 : decode prog_8_method_6_code 67 = .ok (.iload 4, 2) := by decide +kernel
theorem d_Pad_read_69 : decode prog_8_method_6_code 69 = .ok (.bipush 48, 2) := by decide +kernel
theorem d_Pad_read_71 : decode prog_8_method_6_code 71 = .ok (.isub, 1) := by decide +kernel
theorem d_Pad_read_72 : decode prog_8_method_6_code 72 = .ok (.iconst 0, 1) := by decide +kernel
theorem d_Pad_read_73 : decode prog_8_method_6_code 73 = .ok (.invokevirtual 39, 3) := by decide +kernel
theorem d_Pad_read_76 : decode prog_8_method_6_code 76 = .ok (.goto 39, 3) := by decide +kernel
theorem d_Pad_read_79 : decode prog_8_method_6_code 79 = .ok (.iload_n 3, 1) := by decide +kernel
theorem d_Pad_read_80 : decode prog_8_method_6_code 80 = .ok (.bipush 98, 2) := by decide +kernel
theorem d_Pad_read_82 : decode prog_8_method_6_code 82 = .ok (.if_icmp .ne 26, 3) := by decide +kernel
theorem d_Pad_read_85 : decode prog_8_method_6_code 85 = .ok (.aload_n 2, 1) := by decide +kernel
theorem d_Pad_read_86 : decode prog_8_method_6_code 86 = .ok (.iconst 3, 1) := by decide +kernel
theorem d_Pad_read_87 : decode prog_8_method_6_code 87 = .ok (.iload 4, 2) := by decide +kernel
theorem d_Pad_read_89 : decode prog_8_method_6_code 89 = .ok (.bipush 97, 2) := by decide +kernel
theorem d_Pad_read_91 : decode prog_8_method_6_code 91 = .ok (.isub, 1) := by decide +kernel
theorem d_Pad_read_92 : decode prog_8_method_6_code 92 = .ok (.aload_n 0, 1) := by decide +kernel
theorem d_Pad_read_93 : decode prog_8_method_6_code 93 = .ok (.iload_n 1, 1) := by decide +kernel
theorem d_Pad_read_94 : decode prog_8_method_6_code 94 = .ok (.iconst 2, 1) := by decide +kernel
theorem d_Pad_read_95 : decode prog_8_method_6_code 95 = .ok (.iadd, 1) := by decide +kernel
theorem d_Pad_read_96 : decode prog_8_method_6_code 96 = .ok (.invokevirtual 31, 3) := by decide +kernel
theorem d_Pad_read_99 : decode prog_8_method_6_code 99 = .ok (.bipush 97, 2) := by decide +kernel
theorem d_Pad_read_101 : decode prog_8_method_6_code 101 = .ok (.isub, 1) := by decide +kernel
theorem d_Pad_read_102 : decode prog_8_method_6_code 102 = .ok (.invokevirtual 39, 3) := by decide +kernel
theorem d_Pad_read_105 : decode prog_8_method_6_code 105 = .ok (.goto 10, 3) := by decide +kernel
theorem d_Pad_read_108 : decode prog_8_method_6_code 108 = .ok (.aload_n 2, 1) := by decide +kernel
theorem d_Pad_read_109 : decode prog_8_method_6_code 109 = .ok (.iconst 4, 1) := by decide +kernel
theorem d_Pad_read_110 : decode prog_8_method_6_code 110 = .ok (.iconst 0, 1) := by decide +kernel
theorem d_Pad_read_111 : decode prog_8_method_6_code 111 = .ok (.iconst 0, 1) := by decide +kernel
theorem d_Pad_read_112 : decode prog_8_method_6_code 112 = .ok (.invokevirtual 39, 3) := by decide +kernel
theorem d_Pad_read_115 : decode prog_8_method_6_code 115 = .ok (.iload_n 1, 1) := by decide +kernel
theorem d_Pad_read_116 : decode prog_8_method_6_code 116 = .ok (.iconst 1, 1) := by decide +kernel
theorem d_Pad_read_117 : decode prog_8_method_6_code 117 = .ok (.iadd, 1) := by decide +kernel
theorem d_Pad_read_118 : decode prog_8_method_6_code 118 = .ok (.iload_n 3, 1) := by decide +kernel
theorem d_Pad_read_119 : decode prog_8_method_6_code 119 = .ok (.invokestatic 27, 3) := by decide +kernel
theorem d_Pad_read_122 : decode prog_8_method_6_code 122 = .ok (.iadd, 1) := by decide +kernel
theorem d_Pad_read_123 : decode prog_8_method_6_code 123 = .ok (.ireturn, 1) := by decide +kernel
theorem d_Pad_signAt_0 : decode prog_8_method_7_code 0 = .ok (.iload_n 1, 1) := by decide +kernel
theorem d_Pad_signAt_1 : decode prog_8_method_7_code 1 = .ok (.ifCond .lt 29, 3) := by decide +kernel
theorem d_Pad_signAt_4 : decode prog_8_method_7_code 4 = .ok (.iload_n 1, 1) := by decide +kernel
theorem d_Pad_signAt_5 : decode prog_8_method_7_code 5 = .ok (.aload_n 0, 1) := by decide +kernel
theorem d_Pad_signAt_6 : decode prog_8_method_7_code 6 = .ok (.getfield 15, 3) := by decide +kernel
theorem d_Pad_signAt_9 : decode prog_8_method_7_code 9 = .ok (.if_icmp .ge 21, 3) := by decide +kernel
theorem d_Pad_signAt_12 : decode prog_8_method_7_code 12 = .ok (.iload_n 1, 1) := by decide +kernel
theorem d_Pad_signAt_13 : decode prog_8_method_7_code 13 = .ok (.aload_n 0, 1) := by decide +kernel
theorem d_Pad_signAt_14 : decode prog_8_method_7_code 14 = .ok (.getfield 9, 3) := by decide +kernel
theorem d_Pad_signAt_17 : decode prog_8_method_7_code 17 = .ok (.arraylength, 1) := by decide +kernel
theorem d_Pad_signAt_18 : decode prog_8_method_7_code 18 = .ok (.if_icmp .ge 12, 3) := by decide +kernel
theorem d_Pad_signAt_21 : decode prog_8_method_7_code 21 = .ok (.aload_n 0, 1) := by decide +kernel
theorem d_Pad_signAt_22 : decode prog_8_method_7_code 22 = .ok (.getfield 9, 3) := by decide +kernel
theorem d_Pad_signAt_25 : decode prog_8_method_7_code 25 = .ok (.iload_n 1, 1) := by decide +kernel
theorem d_Pad_signAt_26 : decode prog_8_method_7_code 26 = .ok (.iaload, 1) := by decide +kernel
theorem d_Pad_signAt_27 : decode prog_8_method_7_code 27 = .ok (.goto 4, 3) := by decide +kernel
theorem d_Pad_signAt_30 : decode prog_8_method_7_code 30 = .ok (.iconst 0, 1) := by decide +kernel
theorem d_Pad_signAt_31 : decode prog_8_method_7_code 31 = .ok (.ireturn, 1) := by decide +kernel
theorem d_Pad_isHead_0 : decode prog_8_method_8_code 0 = .ok (.iload_n 0, 1) := by decide +kernel
theorem d_Pad_isHead_1 : decode prog_8_method_8_code 1 = .ok (.invokestatic 34, 3) := by decide +kernel
theorem d_Pad_isHead_4 : decode prog_8_method_8_code 4 = .ok (.ifCond .ne 21, 3) := by decide +kernel
theorem d_Pad_isHead_7 : decode prog_8_method_8_code 7 = .ok (.iload_n 0, 1) := by decide +kernel
theorem d_Pad_isHead_8 : decode prog_8_method_8_code 8 = .ok (.bipush 100, 2) := by decide +kernel
theorem d_Pad_isHead_10 : decode prog_8_method_8_code 10 = .ok (.if_icmp .eq 15, 3) := by decide +kernel
theorem d_Pad_isHead_13 : decode prog_8_method_8_code 13 = .ok (.iload_n 0, 1) := by decide +kernel
theorem d_Pad_isHead_14 : decode prog_8_method_8_code 14 = .ok (.bipush 98, 2) := by decide +kernel
theorem d_Pad_isHead_16 : decode prog_8_method_8_code 16 = .ok (.if_icmp .eq 9, 3) := by decide +kernel
theorem d_Pad_isHead_19 : decode prog_8_method_8_code 19 = .ok (.iload_n 0, 1) := by decide +kernel
theorem d_Pad_isHead_20 : decode prog_8_method_8_code 20 = .ok (.bipush 46, 2) := by decide +kernel
theorem d_Pad_isHead_22 : decode prog_8_method_8_code 22 = .ok (.if_icmp .ne 7, 3) := by decide +kernel
theorem d_Pad_isHead_25 : decode prog_8_method_8_code 25 = .ok (.iconst 1, 1) := by decide +kernel
theorem d_Pad_isHead_26 : decode prog_8_method_8_code 26 = .ok (.goto 4, 3) := by decide +kernel
theorem d_Pad_isHead_29 : decode prog_8_method_8_code 29 = .ok (.iconst 0, 1) := by decide +kernel
theorem d_Pad_isHead_30 : decode prog_8_method_8_code 30 = .ok (.ireturn, 1) := by decide +kernel
theorem d_Pad_signsAfter_0 : decode prog_8_method_9_code 0 = .ok (.iload_n 0, 1) := by decide +kernel
theorem d_Pad_signsAfter_1 : decode prog_8_method_9_code 1 = .ok (.bipush 98, 2) := by decide +kernel
theorem d_Pad_signsAfter_3 : decode prog_8_method_9_code 3 = .ok (.if_icmp .ne 5, 3) := by decide +kernel
theorem d_Pad_signsAfter_6 : decode prog_8_method_9_code 6 = .ok (.iconst 2, 1) := by decide +kernel
theorem d_Pad_signsAfter_7 : decode prog_8_method_9_code 7 = .ok (.ireturn, 1) := by decide +kernel
theorem d_Pad_signsAfter_8 : decode prog_8_method_9_code 8 = .ok (.iload_n 0, 1) := by decide +kernel
theorem d_Pad_signsAfter_9 : decode prog_8_method_9_code 9 = .ok (.bipush 46, 2) := by decide +kernel
theorem d_Pad_signsAfter_11 : decode prog_8_method_9_code 11 = .ok (.if_icmp .ne 7, 3) := by decide +kernel
theorem d_Pad_signsAfter_14 : decode prog_8_method_9_code 14 = .ok (.iconst 0, 1) := by decide +kernel
theorem d_Pad_signsAfter_15 : decode prog_8_method_9_code 15 = .ok (.goto 4, 3) := by decide +kernel
theorem d_Pad_signsAfter_18 : decode prog_8_method_9_code 18 = .ok (.iconst 1, 1) := by decide +kernel
theorem d_Pad_signsAfter_19 : decode prog_8_method_9_code 19 = .ok (.ireturn, 1) := by decide +kernel
theorem d_Pad_mayFollow_0 : decode prog_8_method_10_code 0 = .ok (.iload_n 0, 1) := by decide +kernel
theorem d_Pad_mayFollow_1 : decode prog_8_method_10_code 1 = .ok (.bipush 100, 2) := by decide +kernel
theorem d_Pad_mayFollow_3 : decode prog_8_method_10_code 3 = .ok (.if_icmp .ne 21, 3) := by decide +kernel
theorem d_Pad_mayFollow_6 : decode prog_8_method_10_code 6 = .ok (.iload_n 1, 1) := by decide +kernel
theorem d_Pad_mayFollow_7 : decode prog_8_method_10_code 7 = .ok (.bipush 49, 2) := by decide +kernel
theorem d_Pad_mayFollow_9 : decode prog_8_method_10_code 9 = .ok (.if_icmp .lt 13, 3) := by decide +kernel
theorem d_Pad_mayFollow_12 : decode prog_8_method_10_code 12 = .ok (.iload_n 1, 1) := by decide +kernel
theorem d_Pad_mayFollow_13 : decode prog_8_method_10_code 13 = .ok (.bipush 57, 2) := by decide +kernel
theorem d_Pad_mayFollow_15 : decode prog_8_method_10_code 15 = .ok (.if_icmp .gt 7, 3) := by decide +kernel
theorem d_Pad_mayFollow_18 : decode prog_8_method_10_code 18 = .ok (.iconst 1, 1) := by decide +kernel
theorem d_Pad_mayFollow_19 : decode prog_8_method_10_code 19 = .ok (.goto 4, 3) := by decide +kernel
theorem d_Pad_mayFollow_22 : decode prog_8_method_10_code 22 = .ok (.iconst 0, 1) := by decide +kernel
theorem d_Pad_mayFollow_23 : decode prog_8_method_10_code 23 = .ok (.ireturn, 1) := by decide +kernel
theorem d_Pad_mayFollow_24 : decode prog_8_method_10_code 24 = .ok (.iload_n 1, 1) := by decide +kernel
theorem d_Pad_mayFollow_25 : decode prog_8_method_10_code 25 = .ok (.bipush 97, 2) := by decide +kernel
theorem d_Pad_mayFollow_27 : decode prog_8_method_10_code 27 = .ok (.isub, 1) := by decide +kernel
theorem d_Pad_mayFollow_28 : decode prog_8_method_10_code 28 = .ok (.invokestatic 43, 3) := by decide +kernel
theorem d_Pad_mayFollow_31 : decode prog_8_method_10_code 31 = .ok (.ifCond .ne 16, 3) := by decide +kernel
theorem d_Pad_mayFollow_34 : decode prog_8_method_10_code 34 = .ok (.iload_n 0, 1) := by decide +kernel
theorem d_Pad_mayFollow_35 : decode prog_8_method_10_code 35 = .ok (.invokestatic 34, 3) := by decide +kernel
theorem d_Pad_mayFollow_38 : decode prog_8_method_10_code 38 = .ok (.ifCond .eq 13, 3) := by decide +kernel
theorem d_Pad_mayFollow_41 : decode prog_8_method_10_code 41 = .ok (.iload_n 1, 1) := by decide +kernel
theorem d_Pad_mayFollow_42 : decode prog_8_method_10_code 42 = .ok (.bipush 95, 2) := by decide +kernel
theorem d_Pad_mayFollow_44 : decode prog_8_method_10_code 44 = .ok (.if_icmp .ne 7, 3) := by decide +kernel
theorem d_Pad_mayFollow_47 : decode prog_8_method_10_code 47 = .ok (.iconst 1, 1) := by decide +kernel
theorem d_Pad_mayFollow_48 : decode prog_8_method_10_code 48 = .ok (.goto 4, 3) := by decide +kernel
theorem d_Pad_mayFollow_51 : decode prog_8_method_10_code 51 = .ok (.iconst 0, 1) := by decide +kernel
theorem d_Pad_mayFollow_52 : decode prog_8_method_10_code 52 = .ok (.ireturn, 1) := by decide +kernel
theorem d_Pad_isBallLetter_0 : decode prog_8_method_11_code 0 = .ok (.iload_n 0, 1) := by decide +kernel
theorem d_Pad_isBallLetter_1 : decode prog_8_method_11_code 1 = .ok (.bipush 65, 2) := by decide +kernel
theorem d_Pad_isBallLetter_3 : decode prog_8_method_11_code 3 = .ok (.isub, 1) := by decide +kernel
theorem d_Pad_isBallLetter_4 : decode prog_8_method_11_code 4 = .ok (.invokestatic 46, 3) := by decide +kernel
theorem d_Pad_isBallLetter_7 : decode prog_8_method_11_code 7 = .ok (.ireturn, 1) := by decide +kernel
theorem d_Sights_init_0 : decode prog_9_method_1_code 0 = .ok (.aload_n 0, 1) := by decide +kernel
theorem d_Sights_init_1 : decode prog_9_method_1_code 1 = .ok (.invokespecial 3, 3) := by decide +kernel
theorem d_Sights_init_4 : decode prog_9_method_1_code 4 = .ok (.aload_n 0, 1) := by decide +kernel
theorem d_Sights_init_5 : decode prog_9_method_1_code 5 = .ok (.bipush 8, 2) := by decide +kernel
theorem d_Sights_init_7 : decode prog_9_method_1_code 7 = .ok (.newarray .int, 2) := by decide +kernel
theorem d_Sights_init_9 : decode prog_9_method_1_code 9 = .ok (.putfield 9, 3) := by decide +kernel
theorem d_Sights_init_12 : decode prog_9_method_1_code 12 = .ok (.aload_n 0, 1) := by decide +kernel
theorem d_Sights_init_13 : decode prog_9_method_1_code 13 = .ok (.bipush 8, 2) := by decide +kernel
theorem d_Sights_init_15 : decode prog_9_method_1_code 15 = .ok (.newarray .int, 2) := by decide +kernel
theorem d_Sights_init_17 : decode prog_9_method_1_code 17 = .ok (.putfield 15, 3) := by decide +kernel
theorem d_Sights_init_20 : decode prog_9_method_1_code 20 = .ok (.aload_n 0, 1) := by decide +kernel
theorem d_Sights_init_21 : decode prog_9_method_1_code 21 = .ok (.iconst 0, 1) := by decide +kernel
theorem d_Sights_init_22 : decode prog_9_method_1_code 22 = .ok (.putfield 18, 3) := by decide +kernel
theorem d_Sights_init_25 : decode prog_9_method_1_code 25 = .ok (.return_, 1) := by decide +kernel
theorem d_Sights_size_0 : decode prog_9_method_2_code 0 = .ok (.aload_n 0, 1) := by decide +kernel
theorem d_Sights_size_1 : decode prog_9_method_2_code 1 = .ok (.getfield 18, 3) := by decide +kernel
theorem d_Sights_size_4 : decode prog_9_method_2_code 4 = .ok (.ireturn, 1) := by decide +kernel
theorem d_Sights_add_0 : decode prog_9_method_3_code 0 = .ok (.aload_n 0, 1) := by decide +kernel
theorem d_Sights_add_1 : decode prog_9_method_3_code 1 = .ok (.getfield 18, 3) := by decide +kernel
theorem d_Sights_add_4 : decode prog_9_method_3_code 4 = .ok (.ifCond .lt 27, 3) := by decide +kernel
theorem d_Sights_add_7 : decode prog_9_method_3_code 7 = .ok (.aload_n 0, 1) := by decide +kernel
theorem d_Sights_add_8 : decode prog_9_method_3_code 8 = .ok (.getfield 18, 3) := by decide +kernel
theorem d_Sights_add_11 : decode prog_9_method_3_code 11 = .ok (.aload_n 0, 1) := by decide +kernel
theorem d_Sights_add_12 : decode prog_9_method_3_code 12 = .ok (.getfield 9, 3) := by decide +kernel
theorem d_Sights_add_15 : decode prog_9_method_3_code 15 = .ok (.arraylength, 1) := by decide +kernel
theorem d_Sights_add_16 : decode prog_9_method_3_code 16 = .ok (.if_icmp .ge 15, 3) := by decide +kernel
theorem d_Sights_add_19 : decode prog_9_method_3_code 19 = .ok (.aload_n 0, 1) := by decide +kernel
theorem d_Sights_add_20 : decode prog_9_method_3_code 20 = .ok (.getfield 18, 3) := by decide +kernel
theorem d_Sights_add_23 : decode prog_9_method_3_code 23 = .ok (.aload_n 0, 1) := by decide +kernel
theorem d_Sights_add_24 : decode prog_9_method_3_code 24 = .ok (.getfield 15, 3) := by decide +kernel
theorem d_Sights_add_27 : decode prog_9_method_3_code 27 = .ok (.arraylength, 1) := by decide +kernel
theorem d_Sights_add_28 : decode prog_9_method_3_code 28 = .ok (.if_icmp .lt 4, 3) := by decide +kernel
theorem d_Sights_add_31 : decode prog_9_method_3_code 31 = .ok (.return_, 1) := by decide +kernel
theorem d_Sights_add_32 : decode prog_9_method_3_code 32 = .ok (.aload_n 0, 1) := by decide +kernel
theorem d_Sights_add_33 : decode prog_9_method_3_code 33 = .ok (.getfield 9, 3) := by decide +kernel
theorem d_Sights_add_36 : decode prog_9_method_3_code 36 = .ok (.aload_n 0, 1) := by decide +kernel
theorem d_Sights_add_37 : decode prog_9_method_3_code 37 = .ok (.getfield 18, 3) := by decide +kernel
theorem d_Sights_add_40 : decode prog_9_method_3_code 40 = .ok (.iload_n 1, 1) := by decide +kernel
theorem d_Sights_add_41 : decode prog_9_method_3_code 41 = .ok (.iastore, 1) := by decide +kernel
theorem d_Sights_add_42 : decode prog_9_method_3_code 42 = .ok (.aload_n 0, 1) := by decide +kernel
theorem d_Sights_add_43 : decode prog_9_method_3_code 43 = .ok (.getfield 15, 3) := by decide +kernel
theorem d_Sights_add_46 : decode prog_9_method_3_code 46 = .ok (.aload_n 0, 1) := by decide +kernel
theorem d_Sights_add_47 : decode prog_9_method_3_code 47 = .ok (.getfield 18, 3) := by decide +kernel
theorem d_Sights_add_50 : decode prog_9_method_3_code 50 = .ok (.iload_n 2, 1) := by decide +kernel
theorem d_Sights_add_51 : decode prog_9_method_3_code 51 = .ok (.iastore, 1) := by decide +kernel
theorem d_Sights_add_52 : decode prog_9_method_3_code 52 = .ok (.aload_n 0, 1) := by decide +kernel
theorem d_Sights_add_53 : decode prog_9_method_3_code 53 = .ok (.dup, 1) := by decide +kernel
theorem d_Sights_add_54 : decode prog_9_method_3_code 54 = .ok (.getfield 18, 3) := by decide +kernel
theorem d_Sights_add_57 : decode prog_9_method_3_code 57 = .ok (.iconst 1, 1) := by decide +kernel
theorem d_Sights_add_58 : decode prog_9_method_3_code 58 = .ok (.iadd, 1) := by decide +kernel
theorem d_Sights_add_59 : decode prog_9_method_3_code 59 = .ok (.putfield 18, 3) := by decide +kernel
theorem d_Sights_add_62 : decode prog_9_method_3_code 62 = .ok (.return_, 1) := by decide +kernel
theorem d_Sights_clear_0 : decode prog_9_method_4_code 0 = .ok (.aload_n 0, 1) := by decide +kernel
theorem d_Sights_clear_1 : decode prog_9_method_4_code 1 = .ok (.iconst 0, 1) := by decide +kernel
theorem d_Sights_clear_2 : decode prog_9_method_4_code 2 = .ok (.putfield 18, 3) := by decide +kernel
theorem d_Sights_clear_5 : decode prog_9_method_4_code 5 = .ok (.return_, 1) := by decide +kernel
theorem d_Sights_copyFrom_0 : decode prog_9_method_5_code 0 = .ok (.aload_n 1, 1) := by decide +kernel
theorem d_Sights_copyFrom_1 : decode prog_9_method_5_code 1 = .ok (.getfield 9, 3) := by decide +kernel
theorem d_Sights_copyFrom_4 : decode prog_9_method_5_code 4 = .ok (.aload_n 0, 1) := by decide +kernel
theorem d_Sights_copyFrom_5 : decode prog_9_method_5_code 5 = .ok (.getfield 9, 3) := by decide +kernel
theorem d_Sights_copyFrom_8 : decode prog_9_method_5_code 8 = .ok (.invokestatic 22, 3) := by decide +kernel
theorem d_Sights_copyFrom_11 : decode prog_9_method_5_code 11 = .ok (.aload_n 1, 1) := by decide +kernel
theorem d_Sights_copyFrom_12 : decode prog_9_method_5_code 12 = .ok (.getfield 15, 3) := by decide +kernel
theorem d_Sights_copyFrom_15 : decode prog_9_method_5_code 15 = .ok (.aload_n 0, 1) := by decide +kernel
theorem d_Sights_copyFrom_16 : decode prog_9_method_5_code 16 = .ok (.getfield 15, 3) := by decide +kernel
theorem d_Sights_copyFrom_19 : decode prog_9_method_5_code 19 = .ok (.invokestatic 22, 3) := by decide +kernel
theorem d_Sights_copyFrom_22 : decode prog_9_method_5_code 22 = .ok (.aload_n 0, 1) := by decide +kernel
theorem d_Sights_copyFrom_23 : decode prog_9_method_5_code 23 = .ok (.aload_n 1, 1) := by decide +kernel
theorem d_Sights_copyFrom_24 : decode prog_9_method_5_code 24 = .ok (.getfield 18, 3) := by decide +kernel
theorem d_Sights_copyFrom_27 : decode prog_9_method_5_code 27 = .ok (.putfield 18, 3) := by decide +kernel
theorem d_Sights_copyFrom_30 : decode prog_9_method_5_code 30 = .ok (.return_, 1) := by decide +kernel
theorem d_Sights_fitting_0 : decode prog_9_method_6_code 0 = .ok (.sipush 4095, 3) := by decide +kernel
theorem d_Sights_fitting_3 : decode prog_9_method_6_code 3 = .ok (.istore_n 2, 1) := by decide +kernel
theorem d_Sights_fitting_4 : decode prog_9_method_6_code 4 = .ok (.iconst 0, 1) := by decide +kernel
theorem d_Sights_fitting_5 : decode prog_9_method_6_code 5 = .ok (.istore_n 3, 1) := by decide +kernel
theorem d_Sights_fitting_6 : decode prog_9_method_6_code 6 = .ok (.iload_n 3, 1) := by decide +kernel
theorem d_Sights_fitting_7 : decode prog_9_method_6_code 7 = .ok (.aload_n 0, 1) := by decide +kernel
theorem d_Sights_fitting_8 : decode prog_9_method_6_code 8 = .ok (.getfield 18, 3) := by decide +kernel
theorem d_Sights_fitting_11 : decode prog_9_method_6_code 11 = .ok (.if_icmp .ge 52, 3) := by decide +kernel
theorem d_Sights_fitting_14 : decode prog_9_method_6_code 14 = .ok (.iload_n 3, 1) := by decide +kernel
theorem d_Sights_fitting_15 : decode prog_9_method_6_code 15 = .ok (.aload_n 0, 1) := by decide +kernel
theorem d_Sights_fitting_16 : decode prog_9_method_6_code 16 = .ok (.getfield 9, 3) := by decide +kernel
theorem d_Sights_fitting_19 : decode prog_9_method_6_code 19 = .ok (.arraylength, 1) := by decide +kernel
theorem d_Sights_fitting_20 : decode prog_9_method_6_code 20 = .ok (.if_icmp .ge 43, 3) := by decide +kernel
theorem d_Sights_fitting_23 : decode prog_9_method_6_code 23 = .ok (.iload_n 3, 1) := by decide +kernel
theorem d_Sights_fitting_24 : decode prog_9_method_6_code 24 = .ok (.aload_n 0, 1) := by decide +kernel
theorem d_Sights_fitting_25 : decode prog_9_method_6_code 25 = .ok (.getfield 15, 3) := by decide +kernel
theorem d_Sights_fitting_28 : decode prog_9_method_6_code 28 = .ok (.arraylength, 1) := by decide +kernel
theorem d_Sights_fitting_29 : decode prog_9_method_6_code 29 = .ok (.if_icmp .ge 34, 3) := by decide +kernel
theorem d_Sights_fitting_32 : decode prog_9_method_6_code 32 = .ok (.iload_n 2, 1) := by decide +kernel
theorem d_Sights_fitting_33 : decode prog_9_method_6_code 33 = .ok (.aload_n 1, 1) := by decide +kernel
theorem d_Sights_fitting_34 : decode prog_9_method_6_code 34 = .ok (.aload_n 0, 1) := by decide +kernel
theorem d_Sights_fitting_35 : decode prog_9_method_6_code 35 = .ok (.getfield 9, 3) := by decide +kernel
theorem d_Sights_fitting_38 : decode prog_9_method_6_code 38 = .ok (.iload_n 3, 1) := by decide +kernel
theorem d_Sights_fitting_39 : decode prog_9_method_6_code 39 = .ok (.iaload, 1) := by decide +kernel
theorem d_Sights_fitting_40 : decode prog_9_method_6_code 40 = .ok (.aload_n 0, 1) := by decide +kernel
theorem d_Sights_fitting_41 : decode prog_9_method_6_code 41 = .ok (.getfield 15, 3) := by decide +kernel
theorem d_Sights_fitting_44 : decode prog_9_method_6_code 44 = .ok (.iload_n 3, 1) := by decide +kernel
theorem d_Sights_fitting_45 : decode prog_9_method_6_code 45 = .ok (.iaload, 1) := by decide +kernel
theorem d_Sights_fitting_46 : decode prog_9_method_6_code 46 = .ok (.aload_n 0, 1) := by decide +kernel
theorem d_Sights_fitting_47 : decode prog_9_method_6_code 47 = .ok (.getfield 15, 3) := by decide +kernel
theorem d_Sights_fitting_50 : decode prog_9_method_6_code 50 = .ok (.iload_n 3, 1) := by decide +kernel
theorem d_Sights_fitting_51 : decode prog_9_method_6_code 51 = .ok (.iaload, 1) := by decide +kernel
theorem d_Sights_fitting_52 : decode prog_9_method_6_code 52 = .ok (.invokevirtual 26, 3) := by decide +kernel
theorem d_Sights_fitting_55 : decode prog_9_method_6_code 55 = .ok (.iand, 1) := by decide +kernel
theorem d_Sights_fitting_56 : decode prog_9_method_6_code 56 = .ok (.istore_n 2, 1) := by decide +kernel
theorem d_Sights_fitting_57 : decode prog_9_method_6_code 57 = .ok (.iinc 3 1, 3) := by decide +kernel
theorem d_Sights_fitting_60 : decode prog_9_method_6_code 60 = .ok (.goto (-54), 3) := by decide +kernel
theorem d_Sights_fitting_63 : decode prog_9_method_6_code 63 = .ok (.iload_n 2, 1) := by decide +kernel
theorem d_Sights_fitting_64 : decode prog_9_method_6_code 64 = .ok (.ireturn, 1) := by decide +kernel
theorem d_Telling_init_0 : decode prog_10_method_1_code 0 = .ok (.aload_n 0, 1) := by decide +kernel
theorem d_Telling_init_1 : decode prog_10_method_1_code 1 = .ok (.invokespecial 3, 3) := by decide +kernel
theorem d_Telling_init_4 : decode prog_10_method_1_code 4 = .ok (.aload_n 0, 1) := by decide +kernel
theorem d_Telling_init_5 : decode prog_10_method_1_code 5 = .ok (.new 9, 3) := by decide +kernel
theorem d_Telling_init_8 : decode prog_10_method_1_code 8 = .ok (.dup, 1) := by decide +kernel
theorem d_Telling_init_9 : decode prog_10_method_1_code 9 = .ok (.invokespecial 11, 3) := by decide +kernel
theorem d_Telling_init_12 : decode prog_10_method_1_code 12 = .ok (.putfield 12, 3) := by decide +kernel
theorem d_Telling_init_15 : decode prog_10_method_1_code 15 = .ok (.aload_n 0, 1) := by decide +kernel
theorem d_Telling_init_16 : decode prog_10_method_1_code 16 = .ok (.new 18, 3) := by decide +kernel
theorem d_Telling_init_19 : decode prog_10_method_1_code 19 = .ok (.dup, 1) := by decide +kernel
theorem d_Telling_init_20 : decode prog_10_method_1_code 20 = .ok (.invokespecial 20, 3) := by decide +kernel
theorem d_Telling_init_23 : decode prog_10_method_1_code 23 = .ok (.putfield 21, 3) := by decide +kernel
theorem d_Telling_init_26 : decode prog_10_method_1_code 26 = .ok (.aload_n 0, 1) := by decide +kernel
theorem d_Telling_init_27 : decode prog_10_method_1_code 27 = .ok (.iconst 0, 1) := by decide +kernel
theorem d_Telling_init_28 : decode prog_10_method_1_code 28 = .ok (.putfield 25, 3) := by decide +kernel
theorem d_Telling_init_31 : decode prog_10_method_1_code 31 = .ok (.aload_n 0, 1) := by decide +kernel
theorem d_Telling_init_32 : decode prog_10_method_1_code 32 = .ok (.iconst 0, 1) := by decide +kernel
theorem d_Telling_init_33 : decode prog_10_method_1_code 33 = .ok (.putfield 29, 3) := by decide +kernel
theorem d_Telling_init_36 : decode prog_10_method_1_code 36 = .ok (.aload_n 0, 1) := by decide +kernel
theorem d_Telling_init_37 : decode prog_10_method_1_code 37 = .ok (.bipush (-6), 2) := by decide +kernel
theorem d_Telling_init_39 : decode prog_10_method_1_code 39 = .ok (.putfield 32, 3) := by decide +kernel
theorem d_Telling_init_42 : decode prog_10_method_1_code 42 = .ok (.aload_n 0, 1) := by decide +kernel
theorem d_Telling_init_43 : decode prog_10_method_1_code 43 = .ok (.bipush (-6), 2) := by decide +kernel
theorem d_Telling_init_45 : decode prog_10_method_1_code 45 = .ok (.putfield 35, 3) := by decide +kernel
theorem d_Telling_init_48 : decode prog_10_method_1_code 48 = .ok (.return_, 1) := by decide +kernel
theorem d_Telling_tell_0 : decode prog_10_method_2_code 0 = .ok (.aload_n 0, 1) := by decide +kernel
theorem d_Telling_tell_1 : decode prog_10_method_2_code 1 = .ok (.getfield 12, 3) := by decide +kernel
theorem d_Telling_tell_4 : decode prog_10_method_2_code 4 = .ok (.aload_n 2, 1) := by decide +kernel
theorem d_Telling_tell_5 : decode prog_10_method_2_code 5 = .ok (.invokevirtual 38, 3) := by decide +kernel
theorem d_Telling_tell_8 : decode prog_10_method_2_code 8 = .ok (.aload_n 0, 1) := by decide +kernel
theorem d_Telling_tell_9 : decode prog_10_method_2_code 9 = .ok (.iconst 0, 1) := by decide +kernel
theorem d_Telling_tell_10 : decode prog_10_method_2_code 10 = .ok (.putfield 25, 3) := by decide +kernel
theorem d_Telling_tell_13 : decode prog_10_method_2_code 13 = .ok (.aload_n 0, 1) := by decide +kernel
theorem d_Telling_tell_14 : decode prog_10_method_2_code 14 = .ok (.iconst 0, 1) := by decide +kernel
theorem d_Telling_tell_15 : decode prog_10_method_2_code 15 = .ok (.putfield 29, 3) := by decide +kernel
theorem d_Telling_tell_18 : decode prog_10_method_2_code 18 = .ok (.aload_n 0, 1) := by decide +kernel
theorem d_Telling_tell_19 : decode prog_10_method_2_code 19 = .ok (.bipush (-6), 2) := by decide +kernel
theorem d_Telling_tell_21 : decode prog_10_method_2_code 21 = .ok (.putfield 32, 3) := by decide +kernel
theorem d_Telling_tell_24 : decode prog_10_method_2_code 24 = .ok (.aload_n 0, 1) := by decide +kernel
theorem d_Telling_tell_25 : decode prog_10_method_2_code 25 = .ok (.bipush (-6), 2) := by decide +kernel
theorem d_Telling_tell_27 : decode prog_10_method_2_code 27 = .ok (.putfield 35, 3) := by decide +kernel
theorem d_Telling_tell_30 : decode prog_10_method_2_code 30 = .ok (.aload_n 1, 1) := by decide +kernel
theorem d_Telling_tell_31 : decode prog_10_method_2_code 31 = .ok (.invokevirtual 42, 3) := by decide +kernel
theorem d_Telling_tell_34 : decode prog_10_method_2_code 34 = .ok (.bipush (-6), 2) := by decide +kernel
theorem d_Telling_tell_36 : decode prog_10_method_2_code 36 = .ok (.if_icmp .eq 5, 3) := by decide +kernel
theorem d_Telling_tell_39 : decode prog_10_method_2_code 39 = .ok (.iconst 0, 1) := by decide +kernel
theorem d_Telling_tell_40 : decode prog_10_method_2_code 40 = .ok (.ireturn, 1) := by decide +kernel
theorem d_Telling_tell_41 : decode prog_10_method_2_code 41 = .ok (.iconst 0, 1) := by decide +kernel
theorem d_Telling_tell_42 : decode prog_10_method_2_code 42 = .ok (.istore_n 3, 1) := by decide +kernel
theorem d_Telling_tell_43 : decode prog_10_method_2_code 43 = .ok (.iconst 0, 1) := by decide +kernel
theorem d_Telling_tell_44 : decode prog_10_method_2_code 44 = .ok (.istore 4, 2) := by decide +kernel
theorem d_Telling_tell_46 : decode prog_10_method_2_code 46 = .ok (.iload 4, 2) := by decide +kernel
theorem d_Telling_tell_48 : decode prog_10_method_2_code 48 = .ok (.bipush 60, 2) := by decide +kernel
theorem d_Telling_tell_50 : decode prog_10_method_2_code 50 = .ok (.if_icmp .ge 97, 3) := by decide +kernel
theorem d_Telling_tell_53 : decode prog_10_method_2_code 53 = .ok (.iload_n 3, 1) := by decide +kernel
theorem d_Telling_tell_54 : decode prog_10_method_2_code 54 = .ok (.aload_n 1, 1) := by decide +kernel
theorem d_Telling_tell_55 : decode prog_10_method_2_code 55 = .ok (.invokevirtual 48, 3) := by decide +kernel
theorem d_Telling_tell_58 : decode prog_10_method_2_code 58 = .ok (.if_icmp .ge 89, 3) := by decide +kernel
theorem d_Telling_tell_61 : decode prog_10_method_2_code 61 = .ok (.aload_n 1, 1) := by decide +kernel
theorem d_Telling_tell_62 : decode prog_10_method_2_code 62 = .ok (.iload_n 3, 1) := by decide +kernel
theorem d_Telling_tell_63 : decode prog_10_method_2_code 63 = .ok (.aload_n 0, 1) := by decide +kernel
theorem d_Telling_tell_64 : decode prog_10_method_2_code 64 = .ok (.getfield 21, 3) := by decide +kernel
theorem d_Telling_tell_67 : decode prog_10_method_2_code 67 = .ok (.invokevirtual 51, 3) := by decide +kernel
theorem d_Telling_tell_70 : decode prog_10_method_2_code 70 = .ok (.istore_n 3, 1) := by decide +kernel
theorem d_Telling_tell_71 : decode prog_10_method_2_code 71 = .ok (.aload_n 0, 1) := by decide +kernel
theorem d_Telling_tell_72 : decode prog_10_method_2_code 72 = .ok (.aload_n 0, 1) := by decide +kernel
theorem d_Telling_tell_73 : decode prog_10_method_2_code 73 = .ok (.getfield 12, 3) := by decide +kernel
theorem d_Telling_tell_76 : decode prog_10_method_2_code 76 = .ok (.aload_n 0, 1) := by decide +kernel
theorem d_Telling_tell_77 : decode prog_10_method_2_code 77 = .ok (.getfield 21, 3) := by decide +kernel
theorem d_Telling_tell_80 : decode prog_10_method_2_code 80 = .ok (.invokevirtual 55, 3) := by decide +kernel
theorem d_Telling_tell_83 : decode prog_10_method_2_code 83 = .ok (.putfield 29, 3) := by decide +kernel
theorem d_Telling_tell_86 : decode prog_10_method_2_code 86 = .ok (.aload_n 0, 1) := by decide +kernel
theorem d_Telling_tell_87 : decode prog_10_method_2_code 87 = .ok (.getfield 29, 3) := by decide +kernel
theorem d_Telling_tell_90 : decode prog_10_method_2_code 90 = .ok (.ifCond .eq 5, 3) := by decide +kernel
theorem d_Telling_tell_93 : decode prog_10_method_2_code 93 = .ok (.iconst 0, 1) := by decide +kernel
theorem d_Telling_tell_94 : decode prog_10_method_2_code 94 = .ok (.ireturn, 1) := by decide +kernel
theorem d_Telling_tell_95 : decode prog_10_method_2_code 95 = .ok (.aload_n 0, 1) := by decide +kernel
theorem d_Telling_tell_96 : decode prog_10_method_2_code 96 = .ok (.getfield 12, 3) := by decide +kernel
theorem d_Telling_tell_99 : decode prog_10_method_2_code 99 = .ok (.invokevirtual 59, 3) := by decide +kernel
theorem d_Telling_tell_102 : decode prog_10_method_2_code 102 = .ok (.istore 5, 2) := by decide +kernel
theorem d_Telling_tell_104 : decode prog_10_method_2_code 104 = .ok (.aload_n 0, 1) := by decide +kernel
theorem d_Telling_tell_105 : decode prog_10_method_2_code 105 = .ok (.getfield 12, 3) := by decide +kernel
theorem d_Telling_tell_108 : decode prog_10_method_2_code 108 = .ok (.aload_n 0, 1) := by decide +kernel
theorem d_Telling_tell_109 : decode prog_10_method_2_code 109 = .ok (.getfield 21, 3) := by decide +kernel
theorem d_Telling_tell_112 : decode prog_10_method_2_code 112 = .ok (.invokevirtual 62, 3) := by decide +kernel
theorem d_Telling_tell_115 : decode prog_10_method_2_code 115 = .ok (.aload_n 0, 1) := by decide +kernel
theorem d_Telling_tell_116 : decode prog_10_method_2_code 116 = .ok (.aload_n 0, 1) := by decide +kernel
theorem d_Telling_tell_117 : decode prog_10_method_2_code 117 = .ok (.getfield 12, 3) := by decide +kernel
theorem d_Telling_tell_120 : decode prog_10_method_2_code 120 = .ok (.invokevirtual 59, 3) := by decide +kernel
theorem d_Telling_tell_123 : decode prog_10_method_2_code 123 = .ok (.iload 5, 2) := by decide +kernel
theorem d_Telling_tell_125 : decode prog_10_method_2_code 125 = .ok (.iconst (-1), 1) := by decide +kernel
theorem d_Telling_tell_126 : decode prog_10_method_2_code 126 = .ok (.ixor, 1) := by decide +kernel
theorem d_Telling_tell_127 : decode prog_10_method_2_code 127 = .ok (.iand, 1) := by decide +kernel
theorem d_Telling_tell_128 : decode prog_10_method_2_code 128 = .ok (.invokevirtual 66, 3) := by decide +kernel
theorem d_Telling_tell_131 : decode prog_10_method_2_code 131 = .ok (.aload_n 0, 1) := by decide +kernel
theorem d_Telling_tell_132 : decode prog_10_method_2_code 132 = .ok (.dup, 1) := by decide +kernel
theorem d_Telling_tell_133 : decode prog_10_method_2_code 133 = .ok (.getfield 25, 3) := by decide +kernel
theorem d_Telling_tell_136 : decode prog_10_method_2_code 136 = .ok (.iconst 1, 1) := by decide +kernel
theorem d_Telling_tell_137 : decode prog_10_method_2_code 137 = .ok (.iadd, 1) := by decide +kernel
theorem d_Telling_tell_138 : decode prog_10_method_2_code 138 = .ok (.putfield 25, 3) := by decide +kernel
theorem d_Telling_tell_141 : decode prog_10_method_2_code 141 = .ok (.iinc 4 1, 3) := by decide +kernel
theorem d_Telling_tell_144 : decode prog_10_method_2_code 144 = .ok (.goto (-98), 3) := by decide +kernel
theorem d_Telling_tell_147 : decode prog_10_method_2_code 147 = .ok (.iconst 1, 1) := by decide +kernel
theorem d_Telling_tell_148 : decode prog_10_method_2_code 148 = .ok (.ireturn, 1) := by decide +kernel
theorem d_Telling_noteBroken_0 : decode prog_10_method_3_code 0 = .ok (.iload_n 1, 1) := by decide +kernel
theorem d_Telling_noteBroken_1 : decode prog_10_method_3_code 1 = .ok (.ifCond .eq 12, 3) := by decide +kernel
theorem d_Telling_noteBroken_4 : decode prog_10_method_3_code 4 = .ok (.aload_n 0, 1) := by decide +kernel
theorem d_Telling_noteBroken_5 : decode prog_10_method_3_code 5 = .ok (.getfield 32, 3) := by decide +kernel
theorem d_Telling_noteBroken_8 : decode prog_10_method_3_code 8 = .ok (.bipush (-6), 2) := by decide +kernel
theorem d_Telling_noteBroken_10 : decode prog_10_method_3_code 10 = .ok (.if_icmp .eq 4, 3) := by decide +kernel
theorem d_Telling_noteBroken_13 : decode prog_10_method_3_code 13 = .ok (.return_, 1) := by decide +kernel
theorem d_Telling_noteBroken_14 : decode prog_10_method_3_code 14 = .ok (.aload_n 0, 1) := by decide +kernel
theorem d_Telling_noteBroken_15 : decode prog_10_method_3_code 15 = .ok (.aload_n 0, 1) := by decide +kernel
theorem d_Telling_noteBroken_16 : decode prog_10_method_3_code 16 = .ok (.getfield 25, 3) := by decide +kernel
theorem d_Telling_noteBroken_19 : decode prog_10_method_3_code 19 = .ok (.putfield 32, 3) := by decide +kernel
theorem d_Telling_noteBroken_22 : decode prog_10_method_3_code 22 = .ok (.aload_n 0, 1) := by decide +kernel
theorem d_Telling_noteBroken_23 : decode prog_10_method_3_code 23 = .ok (.iload_n 1, 1) := by decide +kernel
theorem d_Telling_noteBroken_24 : decode prog_10_method_3_code 24 = .ok (.iconst 0, 1) := by decide +kernel
theorem d_Telling_noteBroken_25 : decode prog_10_method_3_code 25 = .ok (.invokestatic 70, 3) := by decide +kernel
theorem d_Telling_noteBroken_28 : decode prog_10_method_3_code 28 = .ok (.putfield 35, 3) := by decide +kernel
theorem d_Telling_noteBroken_31 : decode prog_10_method_3_code 31 = .ok (.return_, 1) := by decide +kernel
theorem d_Telling_hill_0 : decode prog_10_method_4_code 0 = .ok (.aload_n 0, 1) := by decide +kernel
theorem d_Telling_hill_1 : decode prog_10_method_4_code 1 = .ok (.getfield 12, 3) := by decide +kernel
theorem d_Telling_hill_4 : decode prog_10_method_4_code 4 = .ok (.areturn, 1) := by decide +kernel
theorem d_Telling_acts_0 : decode prog_10_method_5_code 0 = .ok (.aload_n 0, 1) := by decide +kernel
theorem d_Telling_acts_1 : decode prog_10_method_5_code 1 = .ok (.getfield 25, 3) := by decide +kernel
theorem d_Telling_acts_4 : decode prog_10_method_5_code 4 = .ok (.ireturn, 1) := by decide +kernel
theorem d_Telling_why_0 : decode prog_10_method_6_code 0 = .ok (.aload_n 0, 1) := by decide +kernel
theorem d_Telling_why_1 : decode prog_10_method_6_code 1 = .ok (.getfield 29, 3) := by decide +kernel
theorem d_Telling_why_4 : decode prog_10_method_6_code 4 = .ok (.ireturn, 1) := by decide +kernel
theorem d_Telling_actThatBroke_0 : decode prog_10_method_7_code 0 = .ok (.aload_n 0, 1) := by decide +kernel
theorem d_Telling_actThatBroke_1 : decode prog_10_method_7_code 1 = .ok (.getfield 32, 3) := by decide +kernel
theorem d_Telling_actThatBroke_4 : decode prog_10_method_7_code 4 = .ok (.ireturn, 1) := by decide +kernel
theorem d_Telling_ballThatBroke_0 : decode prog_10_method_8_code 0 = .ok (.aload_n 0, 1) := by decide +kernel
theorem d_Telling_ballThatBroke_1 : decode prog_10_method_8_code 1 = .ok (.getfield 35, 3) := by decide +kernel
theorem d_Telling_ballThatBroke_4 : decode prog_10_method_8_code 4 = .ok (.ireturn, 1) := by decide +kernel
theorem d_Tree_init_0 : decode prog_11_method_1_code 0 = .ok (.aload_n 0, 1) := by decide +kernel
theorem d_Tree_init_1 : decode prog_11_method_1_code 1 = .ok (.invokespecial 3, 3) := by decide +kernel
theorem d_Tree_init_4 : decode prog_11_method_1_code 4 = .ok (.aload_n 0, 1) := by decide +kernel
theorem d_Tree_init_5 : decode prog_11_method_1_code 5 = .ok (.bipush 12, 2) := by decide +kernel
theorem d_Tree_init_7 : decode prog_11_method_1_code 7 = .ok (.newarray .int, 2) := by decide +kernel
theorem d_Tree_init_9 : decode prog_11_method_1_code 9 = .ok (.putfield 9, 3) := by decide +kernel
theorem d_Tree_init_12 : decode prog_11_method_1_code 12 = .ok (.iconst 1, 1) := by decide +kernel
theorem d_Tree_init_13 : decode prog_11_method_1_code 13 = .ok (.istore_n 1, 1) := by decide +kernel
theorem d_Tree_init_14 : decode prog_11_method_1_code 14 = .ok (.iload_n 1, 1) := by decide +kernel
theorem d_Tree_init_15 : decode prog_11_method_1_code 15 = .ok (.aload_n 0, 1) := by decide +kernel
theorem d_Tree_init_16 : decode prog_11_method_1_code 16 = .ok (.getfield 9, 3) := by decide +kernel
theorem d_Tree_init_19 : decode prog_11_method_1_code 19 = .ok (.arraylength, 1) := by decide +kernel
theorem d_Tree_init_20 : decode prog_11_method_1_code 20 = .ok (.if_icmp .ge 20, 3) := by decide +kernel
theorem d_Tree_init_23 : decode prog_11_method_1_code 23 = .ok (.aload_n 0, 1) := by decide +kernel
theorem d_Tree_init_24 : decode prog_11_method_1_code 24 = .ok (.getfield 9, 3) := by decide +kernel
theorem d_Tree_init_27 : decode prog_11_method_1_code 27 = .ok (.iload_n 1, 1) := by decide +kernel
theorem d_Tree_init_28 : decode prog_11_method_1_code 28 = .ok (.iload_n 1, 1) := by decide +kernel
theorem d_Tree_init_29 : decode prog_11_method_1_code 29 = .ok (.iconst 1, 1) := by decide +kernel
theorem d_Tree_init_30 : decode prog_11_method_1_code 30 = .ok (.isub, 1) := by decide +kernel
theorem d_Tree_init_31 : decode prog_11_method_1_code 31 = .ok (.iconst 2, 1) := by decide +kernel
theorem d_Tree_init_32 : decode prog_11_method_1_code 32 = .ok (.idiv, 1) := by decide +kernel
theorem d_Tree_init_33 : decode prog_11_method_1_code 33 = .ok (.iastore, 1) := by decide +kernel
theorem d_Tree_init_34 : decode prog_11_method_1_code 34 = .ok (.iinc 1 1, 3) := by decide +kernel
theorem d_Tree_init_37 : decode prog_11_method_1_code 37 = .ok (.goto (-23), 3) := by decide +kernel
theorem d_Tree_init_40 : decode prog_11_method_1_code 40 = .ok (.return_, 1) := by decide +kernel
theorem d_Tree_parentOf_0 : decode prog_11_method_2_code 0 = .ok (.iload_n 1, 1) := by decide +kernel
theorem d_Tree_parentOf_1 : decode prog_11_method_2_code 1 = .ok (.ifCond .lt 21, 3) := by decide +kernel
theorem d_Tree_parentOf_4 : decode prog_11_method_2_code 4 = .ok (.iload_n 1, 1) := by decide +kernel
theorem d_Tree_parentOf_5 : decode prog_11_method_2_code 5 = .ok (.aload_n 0, 1) := by decide +kernel
theorem d_Tree_parentOf_6 : decode prog_11_method_2_code 6 = .ok (.getfield 9, 3) := by decide +kernel
theorem d_Tree_parentOf_9 : decode prog_11_method_2_code 9 = .ok (.arraylength, 1) := by decide +kernel
theorem d_Tree_parentOf_10 : decode prog_11_method_2_code 10 = .ok (.if_icmp .ge 12, 3) := by decide +kernel
theorem d_Tree_parentOf_13 : decode prog_11_method_2_code 13 = .ok (.aload_n 0, 1) := by decide +kernel
theorem d_Tree_parentOf_14 : decode prog_11_method_2_code 14 = .ok (.getfield 9, 3) := by decide +kernel
theorem d_Tree_parentOf_17 : decode prog_11_method_2_code 17 = .ok (.iload_n 1, 1) := by decide +kernel
theorem d_Tree_parentOf_18 : decode prog_11_method_2_code 18 = .ok (.iaload, 1) := by decide +kernel
theorem d_Tree_parentOf_19 : decode prog_11_method_2_code 19 = .ok (.goto 4, 3) := by decide +kernel
theorem d_Tree_parentOf_22 : decode prog_11_method_2_code 22 = .ok (.iconst 0, 1) := by decide +kernel
theorem d_Tree_parentOf_23 : decode prog_11_method_2_code 23 = .ok (.ireturn, 1) := by decide +kernel
theorem d_Tree_bend_0 : decode prog_11_method_3_code 0 = .ok (.iload_n 1, 1) := by decide +kernel
theorem d_Tree_bend_1 : decode prog_11_method_3_code 1 = .ok (.ifCond .lt 19, 3) := by decide +kernel
theorem d_Tree_bend_4 : decode prog_11_method_3_code 4 = .ok (.iload_n 1, 1) := by decide +kernel
theorem d_Tree_bend_5 : decode prog_11_method_3_code 5 = .ok (.aload_n 0, 1) := by decide +kernel
theorem d_Tree_bend_6 : decode prog_11_method_3_code 6 = .ok (.getfield 9, 3) := by decide +kernel
theorem d_Tree_bend_9 : decode prog_11_method_3_code 9 = .ok (.arraylength, 1) := by decide +kernel
theorem d_Tree_bend_10 : decode prog_11_method_3_code 10 = .ok (.if_icmp .ge 10, 3) := by decide +kernel
theorem d_Tree_bend_13 : decode prog_11_method_3_code 13 = .ok (.aload_n 0, 1) := by decide +kernel
theorem d_Tree_bend_14 : decode prog_11_method_3_code 14 = .ok (.getfield 9, 3) := by decide +kernel
theorem d_Tree_bend_17 : decode prog_11_method_3_code 17 = .ok (.iload_n 1, 1) := by decide +kernel
theorem d_Tree_bend_18 : decode prog_11_method_3_code 18 = .ok (.iload_n 2, 1) := by decide +kernel
theorem d_Tree_bend_19 : decode prog_11_method_3_code 19 = .ok (.iastore, 1) := by decide +kernel
theorem d_Tree_bend_20 : decode prog_11_method_3_code 20 = .ok (.return_, 1) := by decide +kernel
theorem d_Tree_copyFrom_0 : decode prog_11_method_4_code 0 = .ok (.aload_n 1, 1) := by decide +kernel
theorem d_Tree_copyFrom_1 : decode prog_11_method_4_code 1 = .ok (.getfield 9, 3) := by decide +kernel
theorem d_Tree_copyFrom_4 : decode prog_11_method_4_code 4 = .ok (.aload_n 0, 1) := by decide +kernel
theorem d_Tree_copyFrom_5 : decode prog_11_method_4_code 5 = .ok (.getfield 9, 3) := by decide +kernel
theorem d_Tree_copyFrom_8 : decode prog_11_method_4_code 8 = .ok (.invokestatic 15, 3) := by decide +kernel
theorem d_Tree_copyFrom_11 : decode prog_11_method_4_code 11 = .ok (.return_, 1) := by decide +kernel
theorem d_Tree_distance_0 : decode prog_11_method_5_code 0 = .ok (.iconst 0, 1) := by decide +kernel
theorem d_Tree_distance_1 : decode prog_11_method_5_code 1 = .ok (.istore_n 3, 1) := by decide +kernel
theorem d_Tree_distance_2 : decode prog_11_method_5_code 2 = .ok (.iload_n 1, 1) := by decide +kernel
theorem d_Tree_distance_3 : decode prog_11_method_5_code 3 = .ok (.iload_n 2, 1) := by decide +kernel
theorem d_Tree_distance_4 : decode prog_11_method_5_code 4 = .ok (.invokestatic 19, 3) := by decide +kernel
theorem d_Tree_distance_7 : decode prog_11_method_5_code 7 = .ok (.istore 4, 2) := by decide +kernel
theorem d_Tree_distance_9 : decode prog_11_method_5_code 9 = .ok (.iload_n 1, 1) := by decide +kernel
theorem d_Tree_distance_10 : decode prog_11_method_5_code 10 = .ok (.iload_n 2, 1) := by decide +kernel
theorem d_Tree_distance_11 : decode prog_11_method_5_code 11 = .ok (.invokestatic 25, 3) := by decide +kernel
theorem d_Tree_distance_14 : decode prog_11_method_5_code 14 = .ok (.istore 5, 2) := by decide +kernel
theorem d_Tree_distance_16 : decode prog_11_method_5_code 16 = .ok (.iconst 0, 1) := by decide +kernel
theorem d_Tree_distance_17 : decode prog_11_method_5_code 17 = .ok (.istore 6, 2) := by decide +kernel
theorem d_Tree_distance_19 : decode prog_11_method_5_code 19 = .ok (.iload 6, 2) := by decide +kernel
theorem d_Tree_distance_21 : decode prog_11_method_5_code 21 = .ok (.bipush 24, 2) := by decide +kernel
theorem d_Tree_distance_23 : decode prog_11_method_5_code 23 = .ok (.if_icmp .ge 45, 3) := by decide +kernel
theorem d_Tree_distance_26 : decode prog_11_method_5_code 26 = .ok (.iload 4, 2) := by decide +kernel
theorem d_Tree_distance_28 : decode prog_11_method_5_code 28 = .ok (.iload 5, 2) := by decide +kernel
theorem d_Tree_distance_30 : decode prog_11_method_5_code 30 = .ok (.if_icmp .eq 38, 3) := by decide +kernel
theorem d_Tree_distance_33 : decode prog_11_method_5_code 33 = .ok (.aload_n 0, 1) := by decide +kernel
theorem d_Tree_distance_34 : decode prog_11_method_5_code 34 = .ok (.iload 5, 2) := by decide +kernel
theorem d_Tree_distance_36 : decode prog_11_method_5_code 36 = .ok (.invokevirtual 28, 3) := by decide +kernel
theorem d_Tree_distance_39 : decode prog_11_method_5_code 39 = .ok (.istore 7, 2) := by decide +kernel
theorem d_Tree_distance_41 : decode prog_11_method_5_code 41 = .ok (.iload 4, 2) := by decide +kernel
theorem d_Tree_distance_43 : decode prog_11_method_5_code 43 = .ok (.iload 7, 2) := by decide +kernel
theorem d_Tree_distance_45 : decode prog_11_method_5_code 45 = .ok (.invokestatic 25, 3) := by decide +kernel
theorem d_Tree_distance_48 : decode prog_11_method_5_code 48 = .ok (.istore 5, 2) := by decide +kernel
theorem d_Tree_distance_50 : decode prog_11_method_5_code 50 = .ok (.iload 4, 2) := by decide +kernel
theorem d_Tree_distance_52 : decode prog_11_method_5_code 52 = .ok (.iload 7, 2) := by decide +kernel
theorem d_Tree_distance_54 : decode prog_11_method_5_code 54 = .ok (.invokestatic 19, 3) := by decide +kernel
theorem d_Tree_distance_57 : decode prog_11_method_5_code 57 = .ok (.istore 4, 2) := by decide +kernel
theorem d_Tree_distance_59 : decode prog_11_method_5_code 59 = .ok (.iinc 3 1, 3) := by decide +kernel
theorem d_Tree_distance_62 : decode prog_11_method_5_code 62 = .ok (.iinc 6 1, 3) := by decide +kernel
theorem d_Tree_distance_65 : decode prog_11_method_5_code 65 = .ok (.goto (-46), 3) := by decide +kernel
theorem d_Tree_distance_68 : decode prog_11_method_5_code 68 = .ok (.iload_n 3, 1) := by decide +kernel
theorem d_Tree_distance_69 : decode prog_11_method_5_code 69 = .ok (.ireturn, 1) := by decide +kernel
theorem d_Tree_way_0 : decode prog_11_method_6_code 0 = .ok (.aload_n 0, 1) := by decide +kernel
theorem d_Tree_way_1 : decode prog_11_method_6_code 1 = .ok (.iload_n 1, 1) := by decide +kernel
theorem d_Tree_way_2 : decode prog_11_method_6_code 2 = .ok (.iload_n 2, 1) := by decide +kernel
theorem d_Tree_way_3 : decode prog_11_method_6_code 3 = .ok (.invokevirtual 32, 3) := by decide +kernel
theorem d_Tree_way_6 : decode prog_11_method_6_code 6 = .ok (.istore_n 3, 1) := by decide +kernel
theorem d_Tree_way_7 : decode prog_11_method_6_code 7 = .ok (.iconst 0, 1) := by decide +kernel
theorem d_Tree_way_8 : decode prog_11_method_6_code 8 = .ok (.istore 4, 2) := by decide +kernel
theorem d_Tree_way_10 : decode prog_11_method_6_code 10 = .ok (.iconst 0, 1) := by decide +kernel
theorem d_Tree_way_11 : decode prog_11_method_6_code 11 = .ok (.istore 5, 2) := by decide +kernel
theorem d_Tree_way_13 : decode prog_11_method_6_code 13 = .ok (.iload 5, 2) := by decide +kernel
theorem d_Tree_way_15 : decode prog_11_method_6_code 15 = .ok (.bipush 12, 2) := by decide +kernel
theorem d_Tree_way_17 : decode prog_11_method_6_code 17 = .ok (.if_icmp .ge 37, 3) := by decide +kernel
theorem d_Tree_way_20 : decode prog_11_method_6_code 20 = .ok (.aload_n 0, 1) := by decide +kernel
theorem d_Tree_way_21 : decode prog_11_method_6_code 21 = .ok (.iload_n 1, 1) := by decide +kernel
theorem d_Tree_way_22 : decode prog_11_method_6_code 22 = .ok (.iload 5, 2) := by decide +kernel
theorem d_Tree_way_24 : decode prog_11_method_6_code 24 = .ok (.invokevirtual 32, 3) := by decide +kernel
theorem d_Tree_way_27 : decode prog_11_method_6_code 27 = .ok (.aload_n 0, 1) := by decide +kernel
theorem d_Tree_way_28 : decode prog_11_method_6_code 28 = .ok (.iload 5, 2) := by decide +kernel
theorem d_Tree_way_30 : decode prog_11_method_6_code 30 = .ok (.iload_n 2, 1) := by decide +kernel
theorem d_Tree_way_31 : decode prog_11_method_6_code 31 = .ok (.invokevirtual 32, 3) := by decide +kernel
theorem d_Tree_way_34 : decode prog_11_method_6_code 34 = .ok (.iadd, 1) := by decide +kernel
theorem d_Tree_way_35 : decode prog_11_method_6_code 35 = .ok (.iload_n 3, 1) := by decide +kernel
theorem d_Tree_way_36 : decode prog_11_method_6_code 36 = .ok (.if_icmp .ne 12, 3) := by decide +kernel
theorem d_Tree_way_39 : decode prog_11_method_6_code 39 = .ok (.iload 4, 2) := by decide +kernel
theorem d_Tree_way_41 : decode prog_11_method_6_code 41 = .ok (.iconst 1, 1) := by decide +kernel
theorem d_Tree_way_42 : decode prog_11_method_6_code 42 = .ok (.iload 5, 2) := by decide +kernel
theorem d_Tree_way_44 : decode prog_11_method_6_code 44 = .ok (.ishl, 1) := by decide +kernel
theorem d_Tree_way_45 : decode prog_11_method_6_code 45 = .ok (.ior, 1) := by decide +kernel
theorem d_Tree_way_46 : decode prog_11_method_6_code 46 = .ok (.istore 4, 2) := by decide +kernel
theorem d_Tree_way_48 : decode prog_11_method_6_code 48 = .ok (.iinc 5 1, 3) := by decide +kernel
theorem d_Tree_way_51 : decode prog_11_method_6_code 51 = .ok (.goto (-38), 3) := by decide +kernel
theorem d_Tree_way_54 : decode prog_11_method_6_code 54 = .ok (.iload 4, 2) := by decide +kernel
theorem d_Tree_way_56 : decode prog_11_method_6_code 56 = .ok (.ireturn, 1) := by decide +kernel
theorem d_Tree_ring_0 : decode prog_11_method_7_code 0 = .ok (.iconst 0, 1) := by decide +kernel
theorem d_Tree_ring_1 : decode prog_11_method_7_code 1 = .ok (.istore 4, 2) := by decide +kernel
theorem d_Tree_ring_3 : decode prog_11_method_7_code 3 = .ok (.iconst 0, 1) := by decide +kernel
theorem d_Tree_ring_4 : decode prog_11_method_7_code 4 = .ok (.istore 5, 2) := by decide +kernel
theorem d_Tree_ring_6 : decode prog_11_method_7_code 6 = .ok (.iload 5, 2) := by decide +kernel
theorem d_Tree_ring_8 : decode prog_11_method_7_code 8 = .ok (.bipush 12, 2) := by decide +kernel
theorem d_Tree_ring_10 : decode prog_11_method_7_code 10 = .ok (.if_icmp .ge 39, 3) := by decide +kernel
theorem d_Tree_ring_13 : decode prog_11_method_7_code 13 = .ok (.aload_n 0, 1) := by decide +kernel
theorem d_Tree_ring_14 : decode prog_11_method_7_code 14 = .ok (.iload_n 1, 1) := by decide +kernel
theorem d_Tree_ring_15 : decode prog_11_method_7_code 15 = .ok (.iload 5, 2) := by decide +kernel
theorem d_Tree_ring_17 : decode prog_11_method_7_code 17 = .ok (.invokevirtual 32, 3) := by decide +kernel
theorem d_Tree_ring_20 : decode prog_11_method_7_code 20 = .ok (.istore 6, 2) := by decide +kernel
theorem d_Tree_ring_22 : decode prog_11_method_7_code 22 = .ok (.iload 6, 2) := by decide +kernel
theorem d_Tree_ring_24 : decode prog_11_method_7_code 24 = .ok (.iload_n 2, 1) := by decide +kernel
theorem d_Tree_ring_25 : decode prog_11_method_7_code 25 = .ok (.if_icmp .lt 18, 3) := by decide +kernel
theorem d_Tree_ring_28 : decode prog_11_method_7_code 28 = .ok (.iload 6, 2) := by decide +kernel
theorem d_Tree_ring_30 : decode prog_11_method_7_code 30 = .ok (.iload_n 3, 1) := by decide +kernel
theorem d_Tree_ring_31 : decode prog_11_method_7_code 31 = .ok (.if_icmp .gt 12, 3) := by decide +kernel
theorem d_Tree_ring_34 : decode prog_11_method_7_code 34 = .ok (.iload 4, 2) := by decide +kernel
theorem d_Tree_ring_36 : decode prog_11_method_7_code 36 = .ok (.iconst 1, 1) := by decide +kernel
theorem d_Tree_ring_37 : decode prog_11_method_7_code 37 = .ok (.iload 5, 2) := by decide +kernel
theorem d_Tree_ring_39 : decode prog_11_method_7_code 39 = .ok (.ishl, 1) := by decide +kernel
theorem d_Tree_ring_40 : decode prog_11_method_7_code 40 = .ok (.ior, 1) := by decide +kernel
theorem d_Tree_ring_41 : decode prog_11_method_7_code 41 = .ok (.istore 4, 2) := by decide +kernel
theorem d_Tree_ring_43 : decode prog_11_method_7_code 43 = .ok (.iinc 5 1, 3) := by decide +kernel
theorem d_Tree_ring_46 : decode prog_11_method_7_code 46 = .ok (.goto (-40), 3) := by decide +kernel
theorem d_Tree_ring_49 : decode prog_11_method_7_code 49 = .ok (.iload 4, 2) := by decide +kernel
theorem d_Tree_ring_51 : decode prog_11_method_7_code 51 = .ok (.ireturn, 1) := by decide +kernel
theorem d_Tree_howFar_0 : decode prog_11_method_8_code 0 = .ok (.iconst 0, 1) := by decide +kernel
theorem d_Tree_howFar_1 : decode prog_11_method_8_code 1 = .ok (.istore 4, 2) := by decide +kernel
theorem d_Tree_howFar_3 : decode prog_11_method_8_code 3 = .ok (.iconst 0, 1) := by decide +kernel
theorem d_Tree_howFar_4 : decode prog_11_method_8_code 4 = .ok (.istore 5, 2) := by decide +kernel
theorem d_Tree_howFar_6 : decode prog_11_method_8_code 6 = .ok (.iload 5, 2) := by decide +kernel
theorem d_Tree_howFar_8 : decode prog_11_method_8_code 8 = .ok (.bipush 12, 2) := by decide +kernel
theorem d_Tree_howFar_10 : decode prog_11_method_8_code 10 = .ok (.if_icmp .ge 51, 3) := by decide +kernel
theorem d_Tree_howFar_13 : decode prog_11_method_8_code 13 = .ok (.iload_n 2, 1) := by decide +kernel
theorem d_Tree_howFar_14 : decode prog_11_method_8_code 14 = .ok (.iload 5, 2) := by decide +kernel
theorem d_Tree_howFar_16 : decode prog_11_method_8_code 16 = .ok (.invokestatic 35, 3) := by decide +kernel
theorem d_Tree_howFar_19 : decode prog_11_method_8_code 19 = .ok (.ifCond .ne 6, 3) := by decide +kernel
theorem d_Tree_howFar_22 : decode prog_11_method_8_code 22 = .ok (.goto 33, 3) := by decide +kernel
theorem d_Tree_howFar_25 : decode prog_11_method_8_code 25 = .ok (.aload_n 0, 1) := by decide +kernel
theorem d_Tree_howFar_26 : decode prog_11_method_8_code 26 = .ok (.iload_n 1, 1) := by decide +kernel
theorem d_Tree_howFar_27 : decode prog_11_method_8_code 27 = .ok (.iload 5, 2) := by decide +kernel
theorem d_Tree_howFar_29 : decode prog_11_method_8_code 29 = .ok (.invokevirtual 32, 3) := by decide +kernel
theorem d_Tree_howFar_32 : decode prog_11_method_8_code 32 = .ok (.istore 6, 2) := by decide +kernel
theorem d_Tree_howFar_34 : decode prog_11_method_8_code 34 = .ok (.iload_n 3, 1) := by decide +kernel
theorem d_Tree_howFar_35 : decode prog_11_method_8_code 35 = .ok (.ifCond .eq 13, 3) := by decide +kernel
theorem d_Tree_howFar_38 : decode prog_11_method_8_code 38 = .ok (.iload 4, 2) := by decide +kernel
theorem d_Tree_howFar_40 : decode prog_11_method_8_code 40 = .ok (.iload 6, 2) := by decide +kernel
theorem d_Tree_howFar_42 : decode prog_11_method_8_code 42 = .ok (.invokestatic 25, 3) := by decide +kernel
theorem d_Tree_howFar_45 : decode prog_11_method_8_code 45 = .ok (.goto 8, 3) := by decide +kernel
theorem d_Tree_howFar_48 : decode prog_11_method_8_code 48 = .ok (.iload 4, 2) := by decide +kernel
theorem d_Tree_howFar_50 : decode prog_11_method_8_code 50 = .ok (.iload 6, 2) := by decide +kernel
theorem d_Tree_howFar_52 : decode prog_11_method_8_code 52 = .ok (.iadd, 1) := by decide +kernel
theorem d_Tree_howFar_53 : decode prog_11_method_8_code 53 = .ok (.istore 4, 2) := by decide +kernel
theorem d_Tree_howFar_55 : decode prog_11_method_8_code 55 = .ok (.iinc 5 1, 3) := by decide +kernel
theorem d_Tree_howFar_58 : decode prog_11_method_8_code 58 = .ok (.goto (-52), 3) := by decide +kernel
theorem d_Tree_howFar_61 : decode prog_11_method_8_code 61 = .ok (.iload 4, 2) := by decide +kernel
theorem d_Tree_howFar_63 : decode prog_11_method_8_code 63 = .ok (.ireturn, 1) := by decide +kernel
theorem d_Tree_mostLeft_0 : decode prog_11_method_9_code 0 = .ok (.iconst 0, 1) := by decide +kernel
theorem d_Tree_mostLeft_1 : decode prog_11_method_9_code 1 = .ok (.istore_n 3, 1) := by decide +kernel
theorem d_Tree_mostLeft_2 : decode prog_11_method_9_code 2 = .ok (.iconst 0, 1) := by decide +kernel
theorem d_Tree_mostLeft_3 : decode prog_11_method_9_code 3 = .ok (.istore 4, 2) := by decide +kernel
theorem d_Tree_mostLeft_5 : decode prog_11_method_9_code 5 = .ok (.iload 4, 2) := by decide +kernel
theorem d_Tree_mostLeft_7 : decode prog_11_method_9_code 7 = .ok (.bipush 11, 2) := by decide +kernel
theorem d_Tree_mostLeft_9 : decode prog_11_method_9_code 9 = .ok (.if_icmp .gt 28, 3) := by decide +kernel
theorem d_Tree_mostLeft_12 : decode prog_11_method_9_code 12 = .ok (.iload_n 3, 1) := by decide +kernel
theorem d_Tree_mostLeft_13 : decode prog_11_method_9_code 13 = .ok (.aload_n 0, 1) := by decide +kernel
theorem d_Tree_mostLeft_14 : decode prog_11_method_9_code 14 = .ok (.iload_n 1, 1) := by decide +kernel
theorem d_Tree_mostLeft_15 : decode prog_11_method_9_code 15 = .ok (.iload 4, 2) := by decide +kernel
theorem d_Tree_mostLeft_17 : decode prog_11_method_9_code 17 = .ok (.iload 4, 2) := by decide +kernel
theorem d_Tree_mostLeft_19 : decode prog_11_method_9_code 19 = .ok (.invokevirtual 39, 3) := by decide +kernel
theorem d_Tree_mostLeft_22 : decode prog_11_method_9_code 22 = .ok (.iload_n 2, 1) := by decide +kernel
theorem d_Tree_mostLeft_23 : decode prog_11_method_9_code 23 = .ok (.iand, 1) := by decide +kernel
theorem d_Tree_mostLeft_24 : decode prog_11_method_9_code 24 = .ok (.invokestatic 43, 3) := by decide +kernel
theorem d_Tree_mostLeft_27 : decode prog_11_method_9_code 27 = .ok (.invokestatic 25, 3) := by decide +kernel
theorem d_Tree_mostLeft_30 : decode prog_11_method_9_code 30 = .ok (.istore_n 3, 1) := by decide +kernel
theorem d_Tree_mostLeft_31 : decode prog_11_method_9_code 31 = .ok (.iinc 4 1, 3) := by decide +kernel
theorem d_Tree_mostLeft_34 : decode prog_11_method_9_code 34 = .ok (.goto (-29), 3) := by decide +kernel
theorem d_Tree_mostLeft_37 : decode prog_11_method_9_code 37 = .ok (.iload_n 3, 1) := by decide +kernel
theorem d_Tree_mostLeft_38 : decode prog_11_method_9_code 38 = .ok (.ireturn, 1) := by decide +kernel
theorem d_Year_init_0 : decode prog_12_method_1_code 0 = .ok (.aload_n 0, 1) := by decide +kernel
theorem d_Year_init_1 : decode prog_12_method_1_code 1 = .ok (.invokespecial 1, 3) := by decide +kernel
theorem d_Year_init_4 : decode prog_12_method_1_code 4 = .ok (.aload_n 0, 1) := by decide +kernel
theorem d_Year_init_5 : decode prog_12_method_1_code 5 = .ok (.new 7, 3) := by decide +kernel
theorem d_Year_init_8 : decode prog_12_method_1_code 8 = .ok (.dup, 1) := by decide +kernel
theorem d_Year_init_9 : decode prog_12_method_1_code 9 = .ok (.invokespecial 9, 3) := by decide +kernel
theorem d_Year_init_12 : decode prog_12_method_1_code 12 = .ok (.putfield 10, 3) := by decide +kernel
theorem d_Year_init_15 : decode prog_12_method_1_code 15 = .ok (.aload_n 0, 1) := by decide +kernel
theorem d_Year_init_16 : decode prog_12_method_1_code 16 = .ok (.new 16, 3) := by decide +kernel
theorem d_Year_init_19 : decode prog_12_method_1_code 19 = .ok (.dup, 1) := by decide +kernel
theorem d_Year_init_20 : decode prog_12_method_1_code 20 = .ok (.invokespecial 18, 3) := by decide +kernel
theorem d_Year_init_23 : decode prog_12_method_1_code 23 = .ok (.putfield 19, 3) := by decide +kernel
theorem d_Year_init_26 : decode prog_12_method_1_code 26 = .ok (.return_, 1) := by decide +kernel
theorem d_Year_pass_0 : decode prog_12_method_2_code 0 = .ok (.aload_n 0, 1) := by decide +kernel
theorem d_Year_pass_1 : decode prog_12_method_2_code 1 = .ok (.getfield 10, 3) := by decide +kernel
theorem d_Year_pass_4 : decode prog_12_method_2_code 4 = .ok (.aload_n 1, 1) := by decide +kernel
theorem d_Year_pass_5 : decode prog_12_method_2_code 5 = .ok (.invokevirtual 23, 3) := by decide +kernel
theorem d_Year_pass_8 : decode prog_12_method_2_code 8 = .ok (.iload_n 2, 1) := by decide +kernel
theorem d_Year_pass_9 : decode prog_12_method_2_code 9 = .ok (.istore 4, 2) := by decide +kernel
theorem d_Year_pass_11 : decode prog_12_method_2_code 11 = .ok (.iconst 0, 1) := by decide +kernel
theorem d_Year_pass_12 : decode prog_12_method_2_code 12 = .ok (.istore 5, 2) := by decide +kernel
theorem d_Year_pass_14 : decode prog_12_method_2_code 14 = .ok (.iload 5, 2) := by decide +kernel
theorem d_Year_pass_16 : decode prog_12_method_2_code 16 = .ok (.iload_n 3, 1) := by decide +kernel
theorem d_Year_pass_17 : decode prog_12_method_2_code 17 = .ok (.if_icmp .ge 53, 3) := by decide +kernel
theorem d_Year_pass_20 : decode prog_12_method_2_code 20 = .ok (.bipush 75, 2) := by decide +kernel
theorem d_Year_pass_22 : decode prog_12_method_2_code 22 = .ok (.iload 4, 2) := by decide +kernel
theorem d_Year_pass_24 : decode prog_12_method_2_code 24 = .ok (.imul, 1) := by decide +kernel
theorem d_Year_pass_25 : decode prog_12_method_2_code 25 = .ok (.bipush 74, 2) := by decide +kernel
theorem d_Year_pass_27 : decode prog_12_method_2_code 27 = .ok (.iadd, 1) := by decide +kernel
theorem d_Year_pass_28 : decode prog_12_method_2_code 28 = .ok (.ldc 27, 2) := by decide +kernel
theorem d_Year_pass_30 : decode prog_12_method_2_code 30 = .ok (.irem, 1) := by decide +kernel
theorem d_Year_pass_31 : decode prog_12_method_2_code 31 = .ok (.istore 4, 2) := by decide +kernel
theorem d_Year_pass_33 : decode prog_12_method_2_code 33 = .ok (.aload_n 0, 1) := by decide +kernel
theorem d_Year_pass_34 : decode prog_12_method_2_code 34 = .ok (.iload 4, 2) := by decide +kernel
theorem d_Year_pass_36 : decode prog_12_method_2_code 36 = .ok (.invokevirtual 28, 3) := by decide +kernel
theorem d_Year_pass_39 : decode prog_12_method_2_code 39 = .ok (.aload_n 0, 1) := by decide +kernel
theorem d_Year_pass_40 : decode prog_12_method_2_code 40 = .ok (.getfield 10, 3) := by decide +kernel
theorem d_Year_pass_43 : decode prog_12_method_2_code 43 = .ok (.aload_n 0, 1) := by decide +kernel
theorem d_Year_pass_44 : decode prog_12_method_2_code 44 = .ok (.getfield 19, 3) := by decide +kernel
theorem d_Year_pass_47 : decode prog_12_method_2_code 47 = .ok (.invokevirtual 32, 3) := by decide +kernel
theorem d_Year_pass_50 : decode prog_12_method_2_code 50 = .ok (.ifCond .ne 14, 3) := by decide +kernel
theorem d_Year_pass_53 : decode prog_12_method_2_code 53 = .ok (.aload_n 0, 1) := by decide +kernel
theorem d_Year_pass_54 : decode prog_12_method_2_code 54 = .ok (.getfield 10, 3) := by decide +kernel
theorem d_Year_pass_57 : decode prog_12_method_2_code 57 = .ok (.aload_n 0, 1) := by decide +kernel
theorem d_Year_pass_58 : decode prog_12_method_2_code 58 = .ok (.getfield 19, 3) := by decide +kernel
theorem d_Year_pass_61 : decode prog_12_method_2_code 61 = .ok (.invokevirtual 36, 3) := by decide +kernel
theorem d_Year_pass_64 : decode prog_12_method_2_code 64 = .ok (.iinc 5 1, 3) := by decide +kernel
theorem d_Year_pass_67 : decode prog_12_method_2_code 67 = .ok (.goto (-53), 3) := by decide +kernel
theorem d_Year_pass_70 : decode prog_12_method_2_code 70 = .ok (.aload_n 0, 1) := by decide +kernel
theorem d_Year_pass_71 : decode prog_12_method_2_code 71 = .ok (.getfield 10, 3) := by decide +kernel
theorem d_Year_pass_74 : decode prog_12_method_2_code 74 = .ok (.areturn, 1) := by decide +kernel
theorem d_Year_draw_0 : decode prog_12_method_3_code 0 = .ok (.iload_n 1, 1) := by decide +kernel
theorem d_Year_draw_1 : decode prog_12_method_3_code 1 = .ok (.bipush 6, 2) := by decide +kernel
theorem d_Year_draw_3 : decode prog_12_method_3_code 3 = .ok (.irem, 1) := by decide +kernel
theorem d_Year_draw_4 : decode prog_12_method_3_code 4 = .ok (.istore_n 2, 1) := by decide +kernel
theorem d_Year_draw_5 : decode prog_12_method_3_code 5 = .ok (.iload_n 1, 1) := by decide +kernel
theorem d_Year_draw_6 : decode prog_12_method_3_code 6 = .ok (.bipush 48, 2) := by decide +kernel
theorem d_Year_draw_8 : decode prog_12_method_3_code 8 = .ok (.idiv, 1) := by decide +kernel
theorem d_Year_draw_9 : decode prog_12_method_3_code 9 = .ok (.istore_n 3, 1) := by decide +kernel
theorem d_Year_draw_10 : decode prog_12_method_3_code 10 = .ok (.iload_n 1, 1) := by decide +kernel
theorem d_Year_draw_11 : decode prog_12_method_3_code 11 = .ok (.bipush 6, 2) := by decide +kernel
theorem d_Year_draw_13 : decode prog_12_method_3_code 13 = .ok (.idiv, 1) := by decide +kernel
theorem d_Year_draw_14 : decode prog_12_method_3_code 14 = .ok (.bipush 8, 2) := by decide +kernel
theorem d_Year_draw_16 : decode prog_12_method_3_code 16 = .ok (.irem, 1) := by decide +kernel
theorem d_Year_draw_17 : decode prog_12_method_3_code 17 = .ok (.tableswitch 108 4 7 #[31, 44, 62, 84], 31) := by decide +kernel
theorem d_Year_draw_48 : decode prog_12_method_3_code 48 = .ok (.aload_n 0, 1) := by decide +kernel
theorem d_Year_draw_49 : decode prog_12_method_3_code 49 = .ok (.getfield 19, 3) := by decide +kernel
theorem d_Year_draw_52 : decode prog_12_method_3_code 52 = .ok (.iconst 1, 1) := by decide +kernel
theorem d_Year_draw_53 : decode prog_12_method_3_code 53 = .ok (.iload_n 2, 1) := by decide +kernel
theorem d_Year_draw_54 : decode prog_12_method_3_code 54 = .ok (.iconst 0, 1) := by decide +kernel
theorem d_Year_draw_55 : decode prog_12_method_3_code 55 = .ok (.invokevirtual 40, 3) := by decide +kernel
theorem d_Year_draw_58 : decode prog_12_method_3_code 58 = .ok (.goto 80, 3) := by decide +kernel
theorem d_Year_draw_61 : decode prog_12_method_3_code 61 = .ok (.aload_n 0, 1) := by decide +kernel
theorem d_Year_draw_62 : decode prog_12_method_3_code 62 = .ok (.getfield 19, 3) := by decide +kernel
theorem d_Year_draw_65 : decode prog_12_method_3_code 65 = .ok (.iconst 2, 1) := by decide +kernel
theorem d_Year_draw_66 : decode prog_12_method_3_code 66 = .ok (.iconst 1, 1) := by decide +kernel
theorem d_Year_draw_67 : decode prog_12_method_3_code 67 = .ok (.iload_n 3, 1) := by decide +kernel
theorem d_Year_draw_68 : decode prog_12_method_3_code 68 = .ok (.bipush 9, 2) := by decide +kernel
theorem d_Year_draw_70 : decode prog_12_method_3_code 70 = .ok (.irem, 1) := by decide +kernel
theorem d_Year_draw_71 : decode prog_12_method_3_code 71 = .ok (.iadd, 1) := by decide +kernel
theorem d_Year_draw_72 : decode prog_12_method_3_code 72 = .ok (.iconst 0, 1) := by decide +kernel
theorem d_Year_draw_73 : decode prog_12_method_3_code 73 = .ok (.invokevirtual 40, 3) := by decide +kernel
theorem d_Year_draw_76 : decode prog_12_method_3_code 76 = .ok (.goto 62, 3) := by decide +kernel
theorem d_Year_draw_79 : decode prog_12_method_3_code 79 = .ok (.aload_n 0, 1) := by decide +kernel
theorem d_Year_draw_80 : decode prog_12_method_3_code 80 = .ok (.getfield 19, 3) := by decide +kernel
theorem d_Year_draw_83 : decode prog_12_method_3_code 83 = .ok (.iconst 3, 1) := by decide +kernel
theorem d_Year_draw_84 : decode prog_12_method_3_code 84 = .ok (.iload_n 3, 1) := by decide +kernel
theorem d_Year_draw_85 : decode prog_12_method_3_code 85 = .ok (.bipush 12, 2) := by decide +kernel
theorem d_Year_draw_87 : decode prog_12_method_3_code 87 = .ok (.irem, 1) := by decide +kernel
theorem d_Year_draw_88 : decode prog_12_method_3_code 88 = .ok (.iload_n 3, 1) := by decide +kernel
theorem d_Year_draw_89 : decode prog_12_method_3_code 89 = .ok (.bipush 12, 2) := by decide +kernel
theorem d_Year_draw_91 : decode prog_12_method_3_code 91 = .ok (.idiv, 1) := by decide +kernel
theorem d_Year_draw_92 : decode prog_12_method_3_code 92 = .ok (.bipush 12, 2) := by decide +kernel
theorem d_Year_draw_94 : decode prog_12_method_3_code 94 = .ok (.irem, 1) := by decide +kernel
theorem d_Year_draw_95 : decode prog_12_method_3_code 95 = .ok (.invokevirtual 40, 3) := by decide +kernel
theorem d_Year_draw_98 : decode prog_12_method_3_code 98 = .ok (.goto 40, 3) := by decide +kernel
theorem d_Year_draw_101 : decode prog_12_method_3_code 101 = .ok (.aload_n 0, 1) := by decide +kernel
theorem d_Year_draw_102 : decode prog_12_method_3_code 102 = .ok (.getfield 19, 3) := by decide +kernel
theorem d_Year_draw_105 : decode prog_12_method_3_code 105 = .ok (.iload_n 3, 1) := by decide +kernel
theorem d_Year_draw_106 : decode prog_12_method_3_code 106 = .ok (.bipush 8, 2) := by decide +kernel
theorem d_Year_draw_108 : decode prog_12_method_3_code 108 = .ok (.irem, 1) := by decide +kernel
theorem d_Year_draw_109 : decode prog_12_method_3_code 109 = .ok (.ifCond .ne 7, 3) := by decide +kernel
theorem d_Year_draw_112 : decode prog_12_method_3_code 112 = .ok (.iconst 4, 1) := by decide +kernel
theorem d_Year_draw_113 : decode prog_12_method_3_code 113 = .ok (.goto 4, 3) := by decide +kernel
theorem d_Year_draw_116 : decode prog_12_method_3_code 116 = .ok (.iconst 5, 1) := by decide +kernel
theorem d_Year_draw_117 : decode prog_12_method_3_code 117 = .ok (.iconst 0, 1) := by decide +kernel
theorem d_Year_draw_118 : decode prog_12_method_3_code 118 = .ok (.iconst 0, 1) := by decide +kernel
theorem d_Year_draw_119 : decode prog_12_method_3_code 119 = .ok (.invokevirtual 40, 3) := by decide +kernel
theorem d_Year_draw_122 : decode prog_12_method_3_code 122 = .ok (.goto 16, 3) := by decide +kernel
theorem d_Year_draw_125 : decode prog_12_method_3_code 125 = .ok (.aload_n 0, 1) := by decide +kernel
theorem d_Year_draw_126 : decode prog_12_method_3_code 126 = .ok (.getfield 19, 3) := by decide +kernel
theorem d_Year_draw_129 : decode prog_12_method_3_code 129 = .ok (.iconst 0, 1) := by decide +kernel
theorem d_Year_draw_130 : decode prog_12_method_3_code 130 = .ok (.iload_n 2, 1) := by decide +kernel
theorem d_Year_draw_131 : decode prog_12_method_3_code 131 = .ok (.iload_n 3, 1) := by decide +kernel
theorem d_Year_draw_132 : decode prog_12_method_3_code 132 = .ok (.bipush 12, 2) := by decide +kernel
theorem d_Year_draw_134 : decode prog_12_method_3_code 134 = .ok (.irem, 1) := by decide +kernel
theorem d_Year_draw_135 : decode prog_12_method_3_code 135 = .ok (.invokevirtual 40, 3) := by decide +kernel
theorem d_Year_draw_138 : decode prog_12_method_3_code 138 = .ok (.return_, 1) := by decide +kernel
theorem d_BH_init_0 : decode prog_1_method_1_code 0 = .ok (.aload_n 0, 1) := by decide +kernel
theorem d_BH_init_1 : decode prog_1_method_1_code 1 = .ok (.invokespecial 3, 3) := by decide +kernel
theorem d_BH_init_4 : decode prog_1_method_1_code 4 = .ok (.aload_n 0, 1) := by decide +kernel
theorem d_BH_init_5 : decode prog_1_method_1_code 5 = .ok (.new 9, 3) := by decide +kernel
theorem d_BH_init_8 : decode prog_1_method_1_code 8 = .ok (.dup, 1) := by decide +kernel
theorem d_BH_init_9 : decode prog_1_method_1_code 9 = .ok (.invokespecial 11, 3) := by decide +kernel
theorem d_BH_init_12 : decode prog_1_method_1_code 12 = .ok (.putfield 12, 3) := by decide +kernel
theorem d_BH_init_15 : decode prog_1_method_1_code 15 = .ok (.aload_n 0, 1) := by decide +kernel
theorem d_BH_init_16 : decode prog_1_method_1_code 16 = .ok (.new 16, 3) := by decide +kernel
theorem d_BH_init_19 : decode prog_1_method_1_code 19 = .ok (.dup, 1) := by decide +kernel
theorem d_BH_init_20 : decode prog_1_method_1_code 20 = .ok (.invokespecial 18, 3) := by decide +kernel
theorem d_BH_init_23 : decode prog_1_method_1_code 23 = .ok (.putfield 19, 3) := by decide +kernel
theorem d_BH_init_26 : decode prog_1_method_1_code 26 = .ok (.aload_n 0, 1) := by decide +kernel
theorem d_BH_init_27 : decode prog_1_method_1_code 27 = .ok (.new 23, 3) := by decide +kernel
theorem d_BH_init_30 : decode prog_1_method_1_code 30 = .ok (.dup, 1) := by decide +kernel
theorem d_BH_init_31 : decode prog_1_method_1_code 31 = .ok (.invokespecial 25, 3) := by decide +kernel
theorem d_BH_init_34 : decode prog_1_method_1_code 34 = .ok (.putfield 26, 3) := by decide +kernel
theorem d_BH_init_37 : decode prog_1_method_1_code 37 = .ok (.aload_n 0, 1) := by decide +kernel
theorem d_BH_init_38 : decode prog_1_method_1_code 38 = .ok (.new 30, 3) := by decide +kernel
theorem d_BH_init_41 : decode prog_1_method_1_code 41 = .ok (.dup, 1) := by decide +kernel
theorem d_BH_init_42 : decode prog_1_method_1_code 42 = .ok (.invokespecial 32, 3) := by decide +kernel
theorem d_BH_init_45 : decode prog_1_method_1_code 45 = .ok (.putfield 33, 3) := by decide +kernel
theorem d_BH_init_48 : decode prog_1_method_1_code 48 = .ok (.aload_n 0, 1) := by decide +kernel
theorem d_BH_init_49 : decode prog_1_method_1_code 49 = .ok (.new 37, 3) := by decide +kernel
theorem d_BH_init_52 : decode prog_1_method_1_code 52 = .ok (.dup, 1) := by decide +kernel
theorem d_BH_init_53 : decode prog_1_method_1_code 53 = .ok (.invokespecial 39, 3) := by decide +kernel
theorem d_BH_init_56 : decode prog_1_method_1_code 56 = .ok (.putfield 40, 3) := by decide +kernel
theorem d_BH_init_59 : decode prog_1_method_1_code 59 = .ok (.aload_n 0, 1) := by decide +kernel
theorem d_BH_init_60 : decode prog_1_method_1_code 60 = .ok (.new 44, 3) := by decide +kernel
theorem d_BH_init_63 : decode prog_1_method_1_code 63 = .ok (.dup, 1) := by decide +kernel
theorem d_BH_init_64 : decode prog_1_method_1_code 64 = .ok (.invokespecial 46, 3) := by decide +kernel
theorem d_BH_init_67 : decode prog_1_method_1_code 67 = .ok (.putfield 47, 3) := by decide +kernel
theorem d_BH_init_70 : decode prog_1_method_1_code 70 = .ok (.aload_n 0, 1) := by decide +kernel
theorem d_BH_init_71 : decode prog_1_method_1_code 71 = .ok (.new 51, 3) := by decide +kernel
theorem d_BH_init_74 : decode prog_1_method_1_code 74 = .ok (.dup, 1) := by decide +kernel
theorem d_BH_init_75 : decode prog_1_method_1_code 75 = .ok (.invokespecial 53, 3) := by decide +kernel
theorem d_BH_init_78 : decode prog_1_method_1_code 78 = .ok (.putfield 54, 3) := by decide +kernel
theorem d_BH_init_81 : decode prog_1_method_1_code 81 = .ok (.aload_n 0, 1) := by decide +kernel
theorem d_BH_init_82 : decode prog_1_method_1_code 82 = .ok (.new 58, 3) := by decide +kernel
theorem d_BH_init_85 : decode prog_1_method_1_code 85 = .ok (.dup, 1) := by decide +kernel
theorem d_BH_init_86 : decode prog_1_method_1_code 86 = .ok (.invokespecial 60, 3) := by decide +kernel
theorem d_BH_init_89 : decode prog_1_method_1_code 89 = .ok (.putfield 61, 3) := by decide +kernel
theorem d_BH_init_92 : decode prog_1_method_1_code 92 = .ok (.aload_n 0, 1) := by decide +kernel
theorem d_BH_init_93 : decode prog_1_method_1_code 93 = .ok (.new 58, 3) := by decide +kernel
theorem d_BH_init_96 : decode prog_1_method_1_code 96 = .ok (.dup, 1) := by decide +kernel
theorem d_BH_init_97 : decode prog_1_method_1_code 97 = .ok (.invokespecial 60, 3) := by decide +kernel
theorem d_BH_init_100 : decode prog_1_method_1_code 100 = .ok (.putfield 65, 3) := by decide +kernel
theorem d_BH_init_103 : decode prog_1_method_1_code 103 = .ok (.return_, 1) := by decide +kernel
theorem d_BH_branch_0 : decode prog_1_method_2_code 0 = .ok (.iload_n 1, 1) := by decide +kernel
theorem d_BH_branch_1 : decode prog_1_method_2_code 1 = .ok (.invokestatic 68, 3) := by decide +kernel
theorem d_BH_branch_4 : decode prog_1_method_2_code 4 = .ok (.ifCond .eq 14, 3) := by decide +kernel
theorem d_BH_branch_7 : decode prog_1_method_2_code 7 = .ok (.iload_n 2, 1) := by decide +kernel
theorem d_BH_branch_8 : decode prog_1_method_2_code 8 = .ok (.invokestatic 68, 3) := by decide +kernel
theorem d_BH_branch_11 : decode prog_1_method_2_code 11 = .ok (.ifCond .eq 7, 3) := by decide +kernel
theorem d_BH_branch_14 : decode prog_1_method_2_code 14 = .ok (.iload_n 1, 1) := by decide +kernel
theorem d_BH_branch_15 : decode prog_1_method_2_code 15 = .ok (.ifCond .ne 5, 3) := by decide +kernel
theorem d_BH_branch_18 : decode prog_1_method_2_code 18 = .ok (.iconst (-1), 1) := by decide +kernel
theorem d_BH_branch_19 : decode prog_1_method_2_code 19 = .ok (.ireturn, 1) := by decide +kernel
theorem d_BH_branch_20 : decode prog_1_method_2_code 20 = .ok (.iload_n 2, 1) := by decide +kernel
theorem d_BH_branch_21 : decode prog_1_method_2_code 21 = .ok (.iload_n 1, 1) := by decide +kernel
theorem d_BH_branch_22 : decode prog_1_method_2_code 22 = .ok (.if_icmp .lt 6, 3) := by decide +kernel
theorem d_BH_branch_25 : decode prog_1_method_2_code 25 = .ok (.bipush (-2), 2) := by decide +kernel
theorem d_BH_branch_27 : decode prog_1_method_2_code 27 = .ok (.ireturn, 1) := by decide +kernel
theorem d_BH_branch_28 : decode prog_1_method_2_code 28 = .ok (.aload_n 0, 1) := by decide +kernel
theorem d_BH_branch_29 : decode prog_1_method_2_code 29 = .ok (.getfield 12, 3) := by decide +kernel
theorem d_BH_branch_32 : decode prog_1_method_2_code 32 = .ok (.invokevirtual 72, 3) := by decide +kernel
theorem d_BH_branch_35 : decode prog_1_method_2_code 35 = .ok (.iload_n 1, 1) := by decide +kernel
theorem d_BH_branch_36 : decode prog_1_method_2_code 36 = .ok (.invokevirtual 76, 3) := by decide +kernel
theorem d_BH_branch_39 : decode prog_1_method_2_code 39 = .ok (.istore_n 3, 1) := by decide +kernel
theorem d_BH_branch_40 : decode prog_1_method_2_code 40 = .ok (.aload_n 0, 1) := by decide +kernel
theorem d_BH_branch_41 : decode prog_1_method_2_code 41 = .ok (.getfield 12, 3) := by decide +kernel
theorem d_BH_branch_44 : decode prog_1_method_2_code 44 = .ok (.invokevirtual 72, 3) := by decide +kernel
theorem d_BH_branch_47 : decode prog_1_method_2_code 47 = .ok (.iload_n 1, 1) := by decide +kernel
theorem d_BH_branch_48 : decode prog_1_method_2_code 48 = .ok (.iload_n 2, 1) := by decide +kernel
theorem d_BH_branch_49 : decode prog_1_method_2_code 49 = .ok (.invokevirtual 82, 3) := by decide +kernel
theorem d_BH_branch_52 : decode prog_1_method_2_code 52 = .ok (.iload_n 3, 1) := by decide +kernel
theorem d_BH_branch_53 : decode prog_1_method_2_code 53 = .ok (.ireturn, 1) := by decide +kernel
theorem d_BH_ball_0 : decode prog_1_method_3_code 0 = .ok (.iload_n 1, 1) := by decide +kernel
theorem d_BH_ball_1 : decode prog_1_method_3_code 1 = .ok (.invokestatic 86, 3) := by decide +kernel
theorem d_BH_ball_4 : decode prog_1_method_3_code 4 = .ok (.ifCond .eq 15, 3) := by decide +kernel
theorem d_BH_ball_7 : decode prog_1_method_3_code 7 = .ok (.iload_n 2, 1) := by decide +kernel
theorem d_BH_ball_8 : decode prog_1_method_3_code 8 = .ok (.iconst (-1), 1) := by decide +kernel
theorem d_BH_ball_9 : decode prog_1_method_3_code 9 = .ok (.if_icmp .eq 12, 3) := by decide +kernel
theorem d_BH_ball_12 : decode prog_1_method_3_code 12 = .ok (.iload_n 2, 1) := by decide +kernel
theorem d_BH_ball_13 : decode prog_1_method_3_code 13 = .ok (.invokestatic 68, 3) := by decide +kernel
theorem d_BH_ball_16 : decode prog_1_method_3_code 16 = .ok (.ifCond .ne 5, 3) := by decide +kernel
theorem d_BH_ball_19 : decode prog_1_method_3_code 19 = .ok (.iconst (-1), 1) := by decide +kernel
theorem d_BH_ball_20 : decode prog_1_method_3_code 20 = .ok (.ireturn, 1) := by decide +kernel
theorem d_BH_ball_21 : decode prog_1_method_3_code 21 = .ok (.iload_n 3, 1) := by decide +kernel
theorem d_BH_ball_22 : decode prog_1_method_3_code 22 = .ok (.ifCond .lt 9, 3) := by decide +kernel
theorem d_BH_ball_25 : decode prog_1_method_3_code 25 = .ok (.iload_n 3, 1) := by decide +kernel
theorem d_BH_ball_26 : decode prog_1_method_3_code 26 = .ok (.bipush 9, 2) := by decide +kernel
theorem d_BH_ball_28 : decode prog_1_method_3_code 28 = .ok (.if_icmp .lt 6, 3) := by decide +kernel
theorem d_BH_ball_31 : decode prog_1_method_3_code 31 = .ok (.bipush (-2), 2) := by decide +kernel
theorem d_BH_ball_33 : decode prog_1_method_3_code 33 = .ok (.ireturn, 1) := by decide +kernel
theorem d_BH_ball_34 : decode prog_1_method_3_code 34 = .ok (.iload_n 2, 1) := by decide +kernel
theorem d_BH_ball_35 : decode prog_1_method_3_code 35 = .ok (.iconst (-1), 1) := by decide +kernel
theorem d_BH_ball_36 : decode prog_1_method_3_code 36 = .ok (.if_icmp .eq 18, 3) := by decide +kernel
theorem d_BH_ball_39 : decode prog_1_method_3_code 39 = .ok (.aload_n 0, 1) := by decide +kernel
theorem d_BH_ball_40 : decode prog_1_method_3_code 40 = .ok (.getfield 12, 3) := by decide +kernel
theorem d_BH_ball_43 : decode prog_1_method_3_code 43 = .ok (.iload_n 1, 1) := by decide +kernel
theorem d_BH_ball_44 : decode prog_1_method_3_code 44 = .ok (.iload_n 2, 1) := by decide +kernel
theorem d_BH_ball_45 : decode prog_1_method_3_code 45 = .ok (.invokevirtual 89, 3) := by decide +kernel
theorem d_BH_ball_48 : decode prog_1_method_3_code 48 = .ok (.ifCond .eq 6, 3) := by decide +kernel
theorem d_BH_ball_51 : decode prog_1_method_3_code 51 = .ok (.bipush (-3), 2) := by decide +kernel
theorem d_BH_ball_53 : decode prog_1_method_3_code 53 = .ok (.ireturn, 1) := by decide +kernel
theorem d_BH_ball_54 : decode prog_1_method_3_code 54 = .ok (.aload_n 0, 1) := by decide +kernel
theorem d_BH_ball_55 : decode prog_1_method_3_code 55 = .ok (.getfield 12, 3) := by decide +kernel
theorem d_BH_ball_58 : decode prog_1_method_3_code 58 = .ok (.iload_n 1, 1) := by decide +kernel
theorem d_BH_ball_59 : decode prog_1_method_3_code 59 = .ok (.invokevirtual 93, 3) := by decide +kernel
theorem d_BH_ball_62 : decode prog_1_method_3_code 62 = .ok (.istore 4, 2) := by decide +kernel
theorem d_BH_ball_64 : decode prog_1_method_3_code 64 = .ok (.aload_n 0, 1) := by decide +kernel
theorem d_BH_ball_65 : decode prog_1_method_3_code 65 = .ok (.getfield 12, 3) := by decide +kernel
theorem d_BH_ball_68 : decode prog_1_method_3_code 68 = .ok (.iload_n 1, 1) := by decide +kernel
theorem d_BH_ball_69 : decode prog_1_method_3_code 69 = .ok (.iload_n 2, 1) := by decide +kernel
theorem d_BH_ball_70 : decode prog_1_method_3_code 70 = .ok (.iconst (-1), 1) := by decide +kernel
theorem d_BH_ball_71 : decode prog_1_method_3_code 71 = .ok (.if_icmp .ne 8, 3) := by decide +kernel
theorem d_BH_ball_74 : decode prog_1_method_3_code 74 = .ok (.bipush (-6), 2) := by decide +kernel
theorem d_BH_ball_76 : decode prog_1_method_3_code 76 = .ok (.goto 4, 3) := by decide +kernel
theorem d_BH_ball_79 : decode prog_1_method_3_code 79 = .ok (.iload_n 2, 1) := by decide +kernel
theorem d_BH_ball_80 : decode prog_1_method_3_code 80 = .ok (.iload_n 3, 1) := by decide +kernel
theorem d_BH_ball_81 : decode prog_1_method_3_code 81 = .ok (.invokevirtual 96, 3) := by decide +kernel
theorem d_BH_ball_84 : decode prog_1_method_3_code 84 = .ok (.iload 4, 2) := by decide +kernel
theorem d_BH_ball_86 : decode prog_1_method_3_code 86 = .ok (.ireturn, 1) := by decide +kernel
theorem d_BH_say_0 : decode prog_1_method_4_code 0 = .ok (.iload_n 1, 1) := by decide +kernel
theorem d_BH_say_1 : decode prog_1_method_4_code 1 = .ok (.bipush 33, 2) := by decide +kernel
theorem d_BH_say_3 : decode prog_1_method_4_code 3 = .ok (.if_icmp .lt 9, 3) := by decide +kernel
theorem d_BH_say_6 : decode prog_1_method_4_code 6 = .ok (.iload_n 1, 1) := by decide +kernel
theorem d_BH_say_7 : decode prog_1_method_4_code 7 = .ok (.bipush 126, 2) := by decide +kernel
theorem d_BH_say_9 : decode prog_1_method_4_code 9 = .ok (.if_icmp .le 6, 3) := by decide +kernel
theorem d_BH_say_12 : decode prog_1_method_4_code 12 = .ok (.bipush (-2), 2) := by decide +kernel
theorem d_BH_say_14 : decode prog_1_method_4_code 14 = .ok (.ireturn, 1) := by decide +kernel
theorem d_BH_say_15 : decode prog_1_method_4_code 15 = .ok (.aload_n 0, 1) := by decide +kernel
theorem d_BH_say_16 : decode prog_1_method_4_code 16 = .ok (.getfield 26, 3) := by decide +kernel
theorem d_BH_say_19 : decode prog_1_method_4_code 19 = .ok (.invokevirtual 100, 3) := by decide +kernel
theorem d_BH_say_22 : decode prog_1_method_4_code 22 = .ok (.bipush 60, 2) := by decide +kernel
theorem d_BH_say_24 : decode prog_1_method_4_code 24 = .ok (.if_icmp .lt 6, 3) := by decide +kernel
theorem d_BH_say_27 : decode prog_1_method_4_code 27 = .ok (.bipush (-4), 2) := by decide +kernel
theorem d_BH_say_29 : decode prog_1_method_4_code 29 = .ok (.ireturn, 1) := by decide +kernel
theorem d_BH_say_30 : decode prog_1_method_4_code 30 = .ok (.aload_n 0, 1) := by decide +kernel
theorem d_BH_say_31 : decode prog_1_method_4_code 31 = .ok (.getfield 26, 3) := by decide +kernel
theorem d_BH_say_34 : decode prog_1_method_4_code 34 = .ok (.iload_n 1, 1) := by decide +kernel
theorem d_BH_say_35 : decode prog_1_method_4_code 35 = .ok (.invokevirtual 104, 3) := by decide +kernel
theorem d_BH_say_38 : decode prog_1_method_4_code 38 = .ok (.aload_n 0, 1) := by decide +kernel
theorem d_BH_say_39 : decode prog_1_method_4_code 39 = .ok (.getfield 26, 3) := by decide +kernel
theorem d_BH_say_42 : decode prog_1_method_4_code 42 = .ok (.invokevirtual 100, 3) := by decide +kernel
theorem d_BH_say_45 : decode prog_1_method_4_code 45 = .ok (.ireturn, 1) := by decide +kernel
theorem d_BH_wipe_0 : decode prog_1_method_5_code 0 = .ok (.aload_n 0, 1) := by decide +kernel
theorem d_BH_wipe_1 : decode prog_1_method_5_code 1 = .ok (.getfield 26, 3) := by decide +kernel
theorem d_BH_wipe_4 : decode prog_1_method_5_code 4 = .ok (.invokevirtual 100, 3) := by decide +kernel
theorem d_BH_wipe_7 : decode prog_1_method_5_code 7 = .ok (.istore_n 1, 1) := by decide +kernel
theorem d_BH_wipe_8 : decode prog_1_method_5_code 8 = .ok (.aload_n 0, 1) := by decide +kernel
theorem d_BH_wipe_9 : decode prog_1_method_5_code 9 = .ok (.getfield 26, 3) := by decide +kernel
theorem d_BH_wipe_12 : decode prog_1_method_5_code 12 = .ok (.invokevirtual 108, 3) := by decide +kernel
theorem d_BH_wipe_15 : decode prog_1_method_5_code 15 = .ok (.iload_n 1, 1) := by decide +kernel
theorem d_BH_wipe_16 : decode prog_1_method_5_code 16 = .ok (.ireturn, 1) := by decide +kernel
theorem d_BH_fault_0 : decode prog_1_method_6_code 0 = .ok (.aload_n 0, 1) := by decide +kernel
theorem d_BH_fault_1 : decode prog_1_method_6_code 1 = .ok (.getfield 26, 3) := by decide +kernel
theorem d_BH_fault_4 : decode prog_1_method_6_code 4 = .ok (.invokevirtual 111, 3) := by decide +kernel
theorem d_BH_fault_7 : decode prog_1_method_6_code 7 = .ok (.ireturn, 1) := by decide +kernel
theorem d_BH_judge_0 : decode prog_1_method_7_code 0 = .ok (.iload_n 1, 1) := by decide +kernel
theorem d_BH_judge_1 : decode prog_1_method_7_code 1 = .ok (.ifCond .lt 8, 3) := by decide +kernel
theorem d_BH_judge_4 : decode prog_1_method_7_code 4 = .ok (.iload_n 1, 1) := by decide +kernel
theorem d_BH_judge_5 : decode prog_1_method_7_code 5 = .ok (.iconst 1, 1) := by decide +kernel
theorem d_BH_judge_6 : decode prog_1_method_7_code 6 = .ok (.if_icmp .le 6, 3) := by decide +kernel
theorem d_BH_judge_9 : decode prog_1_method_7_code 9 = .ok (.bipush (-2), 2) := by decide +kernel
theorem d_BH_judge_11 : decode prog_1_method_7_code 11 = .ok (.ireturn, 1) := by decide +kernel
theorem d_BH_judge_12 : decode prog_1_method_7_code 12 = .ok (.aload_n 0, 1) := by decide +kernel
theorem d_BH_judge_13 : decode prog_1_method_7_code 13 = .ok (.getfield 26, 3) := by decide +kernel
theorem d_BH_judge_16 : decode prog_1_method_7_code 16 = .ok (.invokevirtual 111, 3) := by decide +kernel
theorem d_BH_judge_19 : decode prog_1_method_7_code 19 = .ok (.bipush (-6), 2) := by decide +kernel
theorem d_BH_judge_21 : decode prog_1_method_7_code 21 = .ok (.if_icmp .eq 6, 3) := by decide +kernel
theorem d_BH_judge_24 : decode prog_1_method_7_code 24 = .ok (.bipush (-5), 2) := by decide +kernel
theorem d_BH_judge_26 : decode prog_1_method_7_code 26 = .ok (.ireturn, 1) := by decide +kernel
theorem d_BH_judge_27 : decode prog_1_method_7_code 27 = .ok (.aload_n 0, 1) := by decide +kernel
theorem d_BH_judge_28 : decode prog_1_method_7_code 28 = .ok (.getfield 33, 3) := by decide +kernel
theorem d_BH_judge_31 : decode prog_1_method_7_code 31 = .ok (.aload_n 0, 1) := by decide +kernel
theorem d_BH_judge_32 : decode prog_1_method_7_code 32 = .ok (.getfield 26, 3) := by decide +kernel
theorem d_BH_judge_35 : decode prog_1_method_7_code 35 = .ok (.aload_n 0, 1) := by decide +kernel
theorem d_BH_judge_36 : decode prog_1_method_7_code 36 = .ok (.getfield 12, 3) := by decide +kernel
theorem d_BH_judge_39 : decode prog_1_method_7_code 39 = .ok (.invokevirtual 114, 3) := by decide +kernel
theorem d_BH_judge_42 : decode prog_1_method_7_code 42 = .ok (.ifCond .eq 6, 3) := by decide +kernel
theorem d_BH_judge_45 : decode prog_1_method_7_code 45 = .ok (.bipush (-6), 2) := by decide +kernel
theorem d_BH_judge_47 : decode prog_1_method_7_code 47 = .ok (.ireturn, 1) := by decide +kernel
theorem d_BH_judge_48 : decode prog_1_method_7_code 48 = .ok (.iload_n 1, 1) := by decide +kernel
theorem d_BH_judge_49 : decode prog_1_method_7_code 49 = .ok (.ifCond .ne 13, 3) := by decide +kernel
theorem d_BH_judge_52 : decode prog_1_method_7_code 52 = .ok (.aload_n 0, 1) := by decide +kernel
theorem d_BH_judge_53 : decode prog_1_method_7_code 53 = .ok (.getfield 33, 3) := by decide +kernel
theorem d_BH_judge_56 : decode prog_1_method_7_code 56 = .ok (.invokevirtual 118, 3) := by decide +kernel
theorem d_BH_judge_59 : decode prog_1_method_7_code 59 = .ok (.goto 10, 3) := by decide +kernel
theorem d_BH_judge_62 : decode prog_1_method_7_code 62 = .ok (.aload_n 0, 1) := by decide +kernel
theorem d_BH_judge_63 : decode prog_1_method_7_code 63 = .ok (.getfield 33, 3) := by decide +kernel
theorem d_BH_judge_66 : decode prog_1_method_7_code 66 = .ok (.invokevirtual 121, 3) := by decide +kernel
theorem d_BH_judge_69 : decode prog_1_method_7_code 69 = .ok (.ireturn, 1) := by decide +kernel
theorem d_BH_done_0 : decode prog_1_method_8_code 0 = .ok (.aload_n 0, 1) := by decide +kernel
theorem d_BH_done_1 : decode prog_1_method_8_code 1 = .ok (.getfield 33, 3) := by decide +kernel
theorem d_BH_done_4 : decode prog_1_method_8_code 4 = .ok (.aload_n 0, 1) := by decide +kernel
theorem d_BH_done_5 : decode prog_1_method_8_code 5 = .ok (.getfield 26, 3) := by decide +kernel
theorem d_BH_done_8 : decode prog_1_method_8_code 8 = .ok (.aload_n 0, 1) := by decide +kernel
theorem d_BH_done_9 : decode prog_1_method_8_code 9 = .ok (.getfield 12, 3) := by decide +kernel
theorem d_BH_done_12 : decode prog_1_method_8_code 12 = .ok (.invokevirtual 114, 3) := by decide +kernel
theorem d_BH_done_15 : decode prog_1_method_8_code 15 = .ok (.ifCond .ne 6, 3) := by decide +kernel
theorem d_BH_done_18 : decode prog_1_method_8_code 18 = .ok (.bipush (-5), 2) := by decide +kernel
theorem d_BH_done_20 : decode prog_1_method_8_code 20 = .ok (.ireturn, 1) := by decide +kernel
theorem d_BH_done_21 : decode prog_1_method_8_code 21 = .ok (.aload_n 0, 1) := by decide +kernel
theorem d_BH_done_22 : decode prog_1_method_8_code 22 = .ok (.getfield 12, 3) := by decide +kernel
theorem d_BH_done_25 : decode prog_1_method_8_code 25 = .ok (.aload_n 0, 1) := by decide +kernel
theorem d_BH_done_26 : decode prog_1_method_8_code 26 = .ok (.getfield 33, 3) := by decide +kernel
theorem d_BH_done_29 : decode prog_1_method_8_code 29 = .ok (.invokevirtual 124, 3) := by decide +kernel
theorem d_BH_done_32 : decode prog_1_method_8_code 32 = .ok (.invokevirtual 127, 3) := by decide +kernel
theorem d_BH_done_35 : decode prog_1_method_8_code 35 = .ok (.aload_n 0, 1) := by decide +kernel
theorem d_BH_done_36 : decode prog_1_method_8_code 36 = .ok (.getfield 26, 3) := by decide +kernel
theorem d_BH_done_39 : decode prog_1_method_8_code 39 = .ok (.invokevirtual 108, 3) := by decide +kernel
theorem d_BH_done_42 : decode prog_1_method_8_code 42 = .ok (.aload_n 0, 1) := by decide +kernel
theorem d_BH_done_43 : decode prog_1_method_8_code 43 = .ok (.getfield 33, 3) := by decide +kernel
theorem d_BH_done_46 : decode prog_1_method_8_code 46 = .ok (.invokevirtual 118, 3) := by decide +kernel
theorem d_BH_done_49 : decode prog_1_method_8_code 49 = .ok (.ireturn, 1) := by decide +kernel
theorem d_BH_behind_0 : decode prog_1_method_9_code 0 = .ok (.iload_n 1, 1) := by decide +kernel
theorem d_BH_behind_1 : decode prog_1_method_9_code 1 = .ok (.invokestatic 86, 3) := by decide +kernel
theorem d_BH_behind_4 : decode prog_1_method_9_code 4 = .ok (.ifCond .ne 5, 3) := by decide +kernel
theorem d_BH_behind_7 : decode prog_1_method_9_code 7 = .ok (.iconst (-1), 1) := by decide +kernel
theorem d_BH_behind_8 : decode prog_1_method_9_code 8 = .ok (.ireturn, 1) := by decide +kernel
theorem d_BH_behind_9 : decode prog_1_method_9_code 9 = .ok (.iload_n 2, 1) := by decide +kernel
theorem d_BH_behind_10 : decode prog_1_method_9_code 10 = .ok (.ifCond .lt 8, 3) := by decide +kernel
theorem d_BH_behind_13 : decode prog_1_method_9_code 13 = .ok (.iload_n 2, 1) := by decide +kernel
theorem d_BH_behind_14 : decode prog_1_method_9_code 14 = .ok (.iconst 2, 1) := by decide +kernel
theorem d_BH_behind_15 : decode prog_1_method_9_code 15 = .ok (.if_icmp .le 6, 3) := by decide +kernel
theorem d_BH_behind_18 : decode prog_1_method_9_code 18 = .ok (.bipush (-2), 2) := by decide +kernel
theorem d_BH_behind_20 : decode prog_1_method_9_code 20 = .ok (.ireturn, 1) := by decide +kernel
theorem d_BH_behind_21 : decode prog_1_method_9_code 21 = .ok (.aload_n 0, 1) := by decide +kernel
theorem d_BH_behind_22 : decode prog_1_method_9_code 22 = .ok (.getfield 33, 3) := by decide +kernel
theorem d_BH_behind_25 : decode prog_1_method_9_code 25 = .ok (.aload_n 0, 1) := by decide +kernel
theorem d_BH_behind_26 : decode prog_1_method_9_code 26 = .ok (.getfield 26, 3) := by decide +kernel
theorem d_BH_behind_29 : decode prog_1_method_9_code 29 = .ok (.aload_n 0, 1) := by decide +kernel
theorem d_BH_behind_30 : decode prog_1_method_9_code 30 = .ok (.getfield 12, 3) := by decide +kernel
theorem d_BH_behind_33 : decode prog_1_method_9_code 33 = .ok (.invokevirtual 114, 3) := by decide +kernel
theorem d_BH_behind_36 : decode prog_1_method_9_code 36 = .ok (.ifCond .ne 6, 3) := by decide +kernel
theorem d_BH_behind_39 : decode prog_1_method_9_code 39 = .ok (.bipush (-5), 2) := by decide +kernel
theorem d_BH_behind_41 : decode prog_1_method_9_code 41 = .ok (.ireturn, 1) := by decide +kernel
theorem d_BH_behind_42 : decode prog_1_method_9_code 42 = .ok (.iload_n 2, 1) := by decide +kernel
theorem d_BH_behind_43 : decode prog_1_method_9_code 43 = .ok (.lookupswitch 49 #[(0, 25), (1, 37)], 25) := by decide +kernel
theorem d_BH_behind_68 : decode prog_1_method_9_code 68 = .ok (.aload_n 0, 1) := by decide +kernel
theorem d_BH_behind_69 : decode prog_1_method_9_code 69 = .ok (.getfield 33, 3) := by decide +kernel
theorem d_BH_behind_72 : decode prog_1_method_9_code 72 = .ok (.invokevirtual 124, 3) := by decide +kernel
theorem d_BH_behind_75 : decode prog_1_method_9_code 75 = .ok (.iload_n 1, 1) := by decide +kernel
theorem d_BH_behind_76 : decode prog_1_method_9_code 76 = .ok (.invokevirtual 93, 3) := by decide +kernel
theorem d_BH_behind_79 : decode prog_1_method_9_code 79 = .ok (.ireturn, 1) := by decide +kernel
theorem d_BH_behind_80 : decode prog_1_method_9_code 80 = .ok (.aload_n 0, 1) := by decide +kernel
theorem d_BH_behind_81 : decode prog_1_method_9_code 81 = .ok (.getfield 33, 3) := by decide +kernel
theorem d_BH_behind_84 : decode prog_1_method_9_code 84 = .ok (.invokevirtual 124, 3) := by decide +kernel
theorem d_BH_behind_87 : decode prog_1_method_9_code 87 = .ok (.iload_n 1, 1) := by decide +kernel
theorem d_BH_behind_88 : decode prog_1_method_9_code 88 = .ok (.invokevirtual 131, 3) := by decide +kernel
theorem d_BH_behind_91 : decode prog_1_method_9_code 91 = .ok (.ireturn, 1) := by decide +kernel
theorem d_BH_behind_92 : decode prog_1_method_9_code 92 = .ok (.aload_n 0, 1) := by decide +kernel
theorem d_BH_behind_93 : decode prog_1_method_9_code 93 = .ok (.getfield 33, 3) := by decide +kernel
theorem d_BH_behind_96 : decode prog_1_method_9_code 96 = .ok (.invokevirtual 124, 3) := by decide +kernel
theorem d_BH_behind_99 : decode prog_1_method_9_code 99 = .ok (.iload_n 1, 1) := by decide +kernel
theorem d_BH_behind_100 : decode prog_1_method_9_code 100 = .ok (.invokevirtual 134, 3) := by decide +kernel
theorem d_BH_behind_103 : decode prog_1_method_9_code 103 = .ok (.ifCond .eq 7, 3) := by decide +kernel
theorem d_BH_behind_106 : decode prog_1_method_9_code 106 = .ok (.iconst 1, 1) := by decide +kernel
theorem d_BH_behind_107 : decode prog_1_method_9_code 107 = .ok (.goto 4, 3) := by decide +kernel
theorem d_BH_behind_110 : decode prog_1_method_9_code 110 = .ok (.iconst 0, 1) := by decide +kernel
theorem d_BH_behind_111 : decode prog_1_method_9_code 111 = .ok (.ireturn, 1) := by decide +kernel
theorem d_BH_then_0 : decode prog_1_method_10_code 0 = .ok (.iload_n 1, 1) := by decide +kernel
theorem d_BH_then_1 : decode prog_1_method_10_code 1 = .ok (.ifCond .lt 8, 3) := by decide +kernel
theorem d_BH_then_4 : decode prog_1_method_10_code 4 = .ok (.iload_n 1, 1) := by decide +kernel
theorem d_BH_then_5 : decode prog_1_method_10_code 5 = .ok (.iconst 5, 1) := by decide +kernel
theorem d_BH_then_6 : decode prog_1_method_10_code 6 = .ok (.if_icmp .le 6, 3) := by decide +kernel
theorem d_BH_then_9 : decode prog_1_method_10_code 9 = .ok (.bipush (-2), 2) := by decide +kernel
theorem d_BH_then_11 : decode prog_1_method_10_code 11 = .ok (.ireturn, 1) := by decide +kernel
theorem d_BH_then_12 : decode prog_1_method_10_code 12 = .ok (.aload_n 0, 1) := by decide +kernel
theorem d_BH_then_13 : decode prog_1_method_10_code 13 = .ok (.getfield 33, 3) := by decide +kernel
theorem d_BH_then_16 : decode prog_1_method_10_code 16 = .ok (.aload_n 0, 1) := by decide +kernel
theorem d_BH_then_17 : decode prog_1_method_10_code 17 = .ok (.getfield 26, 3) := by decide +kernel
theorem d_BH_then_20 : decode prog_1_method_10_code 20 = .ok (.aload_n 0, 1) := by decide +kernel
theorem d_BH_then_21 : decode prog_1_method_10_code 21 = .ok (.getfield 12, 3) := by decide +kernel
theorem d_BH_then_24 : decode prog_1_method_10_code 24 = .ok (.invokevirtual 114, 3) := by decide +kernel
theorem d_BH_then_27 : decode prog_1_method_10_code 27 = .ok (.ifCond .ne 6, 3) := by decide +kernel
theorem d_BH_then_30 : decode prog_1_method_10_code 30 = .ok (.bipush (-5), 2) := by decide +kernel
theorem d_BH_then_32 : decode prog_1_method_10_code 32 = .ok (.ireturn, 1) := by decide +kernel
theorem d_BH_then_33 : decode prog_1_method_10_code 33 = .ok (.iload_n 1, 1) := by decide +kernel
theorem d_BH_then_34 : decode prog_1_method_10_code 34 = .ok (.tableswitch 94 0 4 #[34, 45, 56, 75, 86], 34) := by decide +kernel
theorem d_BH_then_68 : decode prog_1_method_10_code 68 = .ok (.aload_n 0, 1) := by decide +kernel
theorem d_BH_then_69 : decode prog_1_method_10_code 69 = .ok (.getfield 33, 3) := by decide +kernel
theorem d_BH_then_72 : decode prog_1_method_10_code 72 = .ok (.invokevirtual 124, 3) := by decide +kernel
theorem d_BH_then_75 : decode prog_1_method_10_code 75 = .ok (.invokevirtual 137, 3) := by decide +kernel
theorem d_BH_then_78 : decode prog_1_method_10_code 78 = .ok (.ireturn, 1) := by decide +kernel
theorem d_BH_then_79 : decode prog_1_method_10_code 79 = .ok (.aload_n 0, 1) := by decide +kernel
theorem d_BH_then_80 : decode prog_1_method_10_code 80 = .ok (.getfield 33, 3) := by decide +kernel
theorem d_BH_then_83 : decode prog_1_method_10_code 83 = .ok (.invokevirtual 124, 3) := by decide +kernel
theorem d_BH_then_86 : decode prog_1_method_10_code 86 = .ok (.invokevirtual 140, 3) := by decide +kernel
theorem d_BH_then_89 : decode prog_1_method_10_code 89 = .ok (.ireturn, 1) := by decide +kernel
theorem d_BH_then_90 : decode prog_1_method_10_code 90 = .ok (.aload_n 0, 1) := by decide +kernel
theorem d_BH_then_91 : decode prog_1_method_10_code 91 = .ok (.getfield 33, 3) := by decide +kernel
theorem d_BH_then_94 : decode prog_1_method_10_code 94 = .ok (.invokevirtual 124, 3) := by decide +kernel
theorem d_BH_then_97 : decode prog_1_method_10_code 97 = .ok (.invokevirtual 143, 3) := by decide +kernel
theorem d_BH_then_100 : decode prog_1_method_10_code 100 = .ok (.aload_n 0, 1) := by decide +kernel
theorem d_BH_then_101 : decode prog_1_method_10_code 101 = .ok (.getfield 12, 3) := by decide +kernel
theorem d_BH_then_104 : decode prog_1_method_10_code 104 = .ok (.invokevirtual 143, 3) := by decide +kernel
theorem d_BH_then_107 : decode prog_1_method_10_code 107 = .ok (.isub, 1) := by decide +kernel
theorem d_BH_then_108 : decode prog_1_method_10_code 108 = .ok (.ireturn, 1) := by decide +kernel
theorem d_BH_then_109 : decode prog_1_method_10_code 109 = .ok (.aload_n 0, 1) := by decide +kernel
theorem d_BH_then_110 : decode prog_1_method_10_code 110 = .ok (.getfield 33, 3) := by decide +kernel
theorem d_BH_then_113 : decode prog_1_method_10_code 113 = .ok (.invokevirtual 124, 3) := by decide +kernel
theorem d_BH_then_116 : decode prog_1_method_10_code 116 = .ok (.invokevirtual 146, 3) := by decide +kernel
theorem d_BH_then_119 : decode prog_1_method_10_code 119 = .ok (.ireturn, 1) := by decide +kernel
theorem d_BH_then_120 : decode prog_1_method_10_code 120 = .ok (.aload_n 0, 1) := by decide +kernel
theorem d_BH_then_121 : decode prog_1_method_10_code 121 = .ok (.getfield 33, 3) := by decide +kernel
theorem d_BH_then_124 : decode prog_1_method_10_code 124 = .ok (.invokevirtual 149, 3) := by decide +kernel
theorem d_BH_then_127 : decode prog_1_method_10_code 127 = .ok (.ireturn, 1) := by decide +kernel
theorem d_BH_then_128 : decode prog_1_method_10_code 128 = .ok (.aload_n 0, 1) := by decide +kernel
theorem d_BH_then_129 : decode prog_1_method_10_code 129 = .ok (.getfield 33, 3) := by decide +kernel
theorem d_BH_then_132 : decode prog_1_method_10_code 132 = .ok (.invokevirtual 152, 3) := by decide +kernel
theorem d_BH_then_135 : decode prog_1_method_10_code 135 = .ok (.ireturn, 1) := by decide +kernel
theorem d_BH_apart_0 : decode prog_1_method_11_code 0 = .ok (.iload_n 1, 1) := by decide +kernel
theorem d_BH_apart_1 : decode prog_1_method_11_code 1 = .ok (.invokestatic 68, 3) := by decide +kernel
theorem d_BH_apart_4 : decode prog_1_method_11_code 4 = .ok (.ifCond .eq 10, 3) := by decide +kernel
theorem d_BH_apart_7 : decode prog_1_method_11_code 7 = .ok (.iload_n 2, 1) := by decide +kernel
theorem d_BH_apart_8 : decode prog_1_method_11_code 8 = .ok (.invokestatic 68, 3) := by decide +kernel
theorem d_BH_apart_11 : decode prog_1_method_11_code 11 = .ok (.ifCond .ne 5, 3) := by decide +kernel
theorem d_BH_apart_14 : decode prog_1_method_11_code 14 = .ok (.iconst (-1), 1) := by decide +kernel
theorem d_BH_apart_15 : decode prog_1_method_11_code 15 = .ok (.ireturn, 1) := by decide +kernel
theorem d_BH_apart_16 : decode prog_1_method_11_code 16 = .ok (.aload_n 0, 1) := by decide +kernel
theorem d_BH_apart_17 : decode prog_1_method_11_code 17 = .ok (.getfield 12, 3) := by decide +kernel
theorem d_BH_apart_20 : decode prog_1_method_11_code 20 = .ok (.invokevirtual 72, 3) := by decide +kernel
theorem d_BH_apart_23 : decode prog_1_method_11_code 23 = .ok (.iload_n 1, 1) := by decide +kernel
theorem d_BH_apart_24 : decode prog_1_method_11_code 24 = .ok (.iload_n 2, 1) := by decide +kernel
theorem d_BH_apart_25 : decode prog_1_method_11_code 25 = .ok (.invokevirtual 155, 3) := by decide +kernel
theorem d_BH_apart_28 : decode prog_1_method_11_code 28 = .ok (.ireturn, 1) := by decide +kernel
theorem d_BH_meets_0 : decode prog_1_method_12_code 0 = .ok (.iload_n 1, 1) := by decide +kernel
theorem d_BH_meets_1 : decode prog_1_method_12_code 1 = .ok (.invokestatic 68, 3) := by decide +kernel
theorem d_BH_meets_4 : decode prog_1_method_12_code 4 = .ok (.ifCond .eq 10, 3) := by decide +kernel
theorem d_BH_meets_7 : decode prog_1_method_12_code 7 = .ok (.iload_n 2, 1) := by decide +kernel
theorem d_BH_meets_8 : decode prog_1_method_12_code 8 = .ok (.invokestatic 68, 3) := by decide +kernel
theorem d_BH_meets_11 : decode prog_1_method_12_code 11 = .ok (.ifCond .ne 5, 3) := by decide +kernel
theorem d_BH_meets_14 : decode prog_1_method_12_code 14 = .ok (.iconst (-1), 1) := by decide +kernel
theorem d_BH_meets_15 : decode prog_1_method_12_code 15 = .ok (.ireturn, 1) := by decide +kernel
theorem d_BH_meets_16 : decode prog_1_method_12_code 16 = .ok (.aload_n 0, 1) := by decide +kernel
theorem d_BH_meets_17 : decode prog_1_method_12_code 17 = .ok (.getfield 12, 3) := by decide +kernel
theorem d_BH_meets_20 : decode prog_1_method_12_code 20 = .ok (.invokevirtual 72, 3) := by decide +kernel
theorem d_BH_meets_23 : decode prog_1_method_12_code 23 = .ok (.iload_n 1, 1) := by decide +kernel
theorem d_BH_meets_24 : decode prog_1_method_12_code 24 = .ok (.iload_n 2, 1) := by decide +kernel
theorem d_BH_meets_25 : decode prog_1_method_12_code 25 = .ok (.invokevirtual 159, 3) := by decide +kernel
theorem d_BH_meets_28 : decode prog_1_method_12_code 28 = .ok (.iconst 0, 1) := by decide +kernel
theorem d_BH_meets_29 : decode prog_1_method_12_code 29 = .ok (.invokestatic 162, 3) := by decide +kernel
theorem d_BH_meets_32 : decode prog_1_method_12_code 32 = .ok (.ireturn, 1) := by decide +kernel
theorem d_BH_sees_0 : decode prog_1_method_13_code 0 = .ok (.iload_n 1, 1) := by decide +kernel
theorem d_BH_sees_1 : decode prog_1_method_13_code 1 = .ok (.invokestatic 86, 3) := by decide +kernel
theorem d_BH_sees_4 : decode prog_1_method_13_code 4 = .ok (.ifCond .ne 5, 3) := by decide +kernel
theorem d_BH_sees_7 : decode prog_1_method_13_code 7 = .ok (.iconst (-1), 1) := by decide +kernel
theorem d_BH_sees_8 : decode prog_1_method_13_code 8 = .ok (.ireturn, 1) := by decide +kernel
theorem d_BH_sees_9 : decode prog_1_method_13_code 9 = .ok (.aload_n 0, 1) := by decide +kernel
theorem d_BH_sees_10 : decode prog_1_method_13_code 10 = .ok (.getfield 12, 3) := by decide +kernel
theorem d_BH_sees_13 : decode prog_1_method_13_code 13 = .ok (.iload_n 1, 1) := by decide +kernel
theorem d_BH_sees_14 : decode prog_1_method_13_code 14 = .ok (.invokevirtual 93, 3) := by decide +kernel
theorem d_BH_sees_17 : decode prog_1_method_13_code 17 = .ok (.bipush (-6), 2) := by decide +kernel
theorem d_BH_sees_19 : decode prog_1_method_13_code 19 = .ok (.if_icmp .ne 6, 3) := by decide +kernel
theorem d_BH_sees_22 : decode prog_1_method_13_code 22 = .ok (.bipush (-3), 2) := by decide +kernel
theorem d_BH_sees_24 : decode prog_1_method_13_code 24 = .ok (.ireturn, 1) := by decide +kernel
theorem d_BH_sees_25 : decode prog_1_method_13_code 25 = .ok (.aload_n 0, 1) := by decide +kernel
theorem d_BH_sees_26 : decode prog_1_method_13_code 26 = .ok (.getfield 12, 3) := by decide +kernel
theorem d_BH_sees_29 : decode prog_1_method_13_code 29 = .ok (.iload_n 1, 1) := by decide +kernel
theorem d_BH_sees_30 : decode prog_1_method_13_code 30 = .ok (.invokevirtual 165, 3) := by decide +kernel
theorem d_BH_sees_33 : decode prog_1_method_13_code 33 = .ok (.ireturn, 1) := by decide +kernel
theorem d_BH_near_0 : decode prog_1_method_14_code 0 = .ok (.iload_n 1, 1) := by decide +kernel
theorem d_BH_near_1 : decode prog_1_method_14_code 1 = .ok (.ifCond .lt 8, 3) := by decide +kernel
theorem d_BH_near_4 : decode prog_1_method_14_code 4 = .ok (.iload_n 1, 1) := by decide +kernel
theorem d_BH_near_5 : decode prog_1_method_14_code 5 = .ok (.iconst 3, 1) := by decide +kernel
theorem d_BH_near_6 : decode prog_1_method_14_code 6 = .ok (.if_icmp .le 6, 3) := by decide +kernel
theorem d_BH_near_9 : decode prog_1_method_14_code 9 = .ok (.bipush (-2), 2) := by decide +kernel
theorem d_BH_near_11 : decode prog_1_method_14_code 11 = .ok (.ireturn, 1) := by decide +kernel
theorem d_BH_near_12 : decode prog_1_method_14_code 12 = .ok (.aload_n 0, 1) := by decide +kernel
theorem d_BH_near_13 : decode prog_1_method_14_code 13 = .ok (.getfield 12, 3) := by decide +kernel
theorem d_BH_near_16 : decode prog_1_method_14_code 16 = .ok (.invokevirtual 137, 3) := by decide +kernel
theorem d_BH_near_19 : decode prog_1_method_14_code 19 = .ok (.istore_n 2, 1) := by decide +kernel
theorem d_BH_near_20 : decode prog_1_method_14_code 20 = .ok (.iload_n 2, 1) := by decide +kernel
theorem d_BH_near_21 : decode prog_1_method_14_code 21 = .ok (.ifCond .ne 6, 3) := by decide +kernel
theorem d_BH_near_24 : decode prog_1_method_14_code 24 = .ok (.bipush (-6), 2) := by decide +kernel
theorem d_BH_near_26 : decode prog_1_method_14_code 26 = .ok (.ireturn, 1) := by decide +kernel
theorem d_BH_near_27 : decode prog_1_method_14_code 27 = .ok (.iload_n 1, 1) := by decide +kernel
theorem d_BH_near_28 : decode prog_1_method_14_code 28 = .ok (.iconst 2, 1) := by decide +kernel
theorem d_BH_near_29 : decode prog_1_method_14_code 29 = .ok (.if_icmp .lt 7, 3) := by decide +kernel
theorem d_BH_near_32 : decode prog_1_method_14_code 32 = .ok (.iconst 1, 1) := by decide +kernel
theorem d_BH_near_33 : decode prog_1_method_14_code 33 = .ok (.goto 4, 3) := by decide +kernel
theorem d_BH_near_36 : decode prog_1_method_14_code 36 = .ok (.iconst 0, 1) := by decide +kernel
theorem d_BH_near_37 : decode prog_1_method_14_code 37 = .ok (.istore_n 3, 1) := by decide +kernel
theorem d_BH_near_38 : decode prog_1_method_14_code 38 = .ok (.iconst 0, 1) := by decide +kernel
theorem d_BH_near_39 : decode prog_1_method_14_code 39 = .ok (.istore 4, 2) := by decide +kernel
theorem d_BH_near_41 : decode prog_1_method_14_code 41 = .ok (.aload_n 0, 1) := by decide +kernel
theorem d_BH_near_42 : decode prog_1_method_14_code 42 = .ok (.getfield 12, 3) := by decide +kernel
theorem d_BH_near_45 : decode prog_1_method_14_code 45 = .ok (.invokevirtual 72, 3) := by decide +kernel
theorem d_BH_near_48 : decode prog_1_method_14_code 48 = .ok (.iconst 0, 1) := by decide +kernel
theorem d_BH_near_49 : decode prog_1_method_14_code 49 = .ok (.iload_n 2, 1) := by decide +kernel
theorem d_BH_near_50 : decode prog_1_method_14_code 50 = .ok (.iload_n 3, 1) := by decide +kernel
theorem d_BH_near_51 : decode prog_1_method_14_code 51 = .ok (.invokevirtual 168, 3) := by decide +kernel
theorem d_BH_near_54 : decode prog_1_method_14_code 54 = .ok (.istore 5, 2) := by decide +kernel
theorem d_BH_near_56 : decode prog_1_method_14_code 56 = .ok (.iconst 1, 1) := by decide +kernel
theorem d_BH_near_57 : decode prog_1_method_14_code 57 = .ok (.istore 6, 2) := by decide +kernel
theorem d_BH_near_59 : decode prog_1_method_14_code 59 = .ok (.iload 6, 2) := by decide +kernel
theorem d_BH_near_61 : decode prog_1_method_14_code 61 = .ok (.bipush 12, 2) := by decide +kernel
theorem d_BH_near_63 : decode prog_1_method_14_code 63 = .ok (.if_icmp .ge 40, 3) := by decide +kernel
theorem d_BH_near_66 : decode prog_1_method_14_code 66 = .ok (.aload_n 0, 1) := by decide +kernel
theorem d_BH_near_67 : decode prog_1_method_14_code 67 = .ok (.getfield 12, 3) := by decide +kernel
theorem d_BH_near_70 : decode prog_1_method_14_code 70 = .ok (.invokevirtual 72, 3) := by decide +kernel
theorem d_BH_near_73 : decode prog_1_method_14_code 73 = .ok (.iload 6, 2) := by decide +kernel
theorem d_BH_near_75 : decode prog_1_method_14_code 75 = .ok (.iload_n 2, 1) := by decide +kernel
theorem d_BH_near_76 : decode prog_1_method_14_code 76 = .ok (.iload_n 3, 1) := by decide +kernel
theorem d_BH_near_77 : decode prog_1_method_14_code 77 = .ok (.invokevirtual 168, 3) := by decide +kernel
theorem d_BH_near_80 : decode prog_1_method_14_code 80 = .ok (.istore 7, 2) := by decide +kernel
theorem d_BH_near_82 : decode prog_1_method_14_code 82 = .ok (.iload 7, 2) := by decide +kernel
theorem d_BH_near_84 : decode prog_1_method_14_code 84 = .ok (.iload 5, 2) := by decide +kernel
theorem d_BH_near_86 : decode prog_1_method_14_code 86 = .ok (.if_icmp .ge 11, 3) := by decide +kernel
theorem d_BH_near_89 : decode prog_1_method_14_code 89 = .ok (.iload 6, 2) := by decide +kernel
theorem d_BH_near_91 : decode prog_1_method_14_code 91 = .ok (.istore 4, 2) := by decide +kernel
theorem d_BH_near_93 : decode prog_1_method_14_code 93 = .ok (.iload 7, 2) := by decide +kernel
theorem d_BH_near_95 : decode prog_1_method_14_code 95 = .ok (.istore 5, 2) := by decide +kernel
theorem d_BH_near_97 : decode prog_1_method_14_code 97 = .ok (.iinc 6 1, 3) := by decide +kernel
theorem d_BH_near_100 : decode prog_1_method_14_code 100 = .ok (.goto (-41), 3) := by decide +kernel
theorem d_BH_near_103 : decode prog_1_method_14_code 103 = .ok (.iload_n 1, 1) := by decide +kernel
theorem d_BH_near_104 : decode prog_1_method_14_code 104 = .ok (.ifCond .eq 8, 3) := by decide +kernel
theorem d_BH_near_107 : decode prog_1_method_14_code 107 = .ok (.iload_n 1, 1) := by decide +kernel
theorem d_BH_near_108 : decode prog_1_method_14_code 108 = .ok (.iconst 2, 1) := by decide +kernel
theorem d_BH_near_109 : decode prog_1_method_14_code 109 = .ok (.if_icmp .ne 8, 3) := by decide +kernel
theorem d_BH_near_112 : decode prog_1_method_14_code 112 = .ok (.iload 4, 2) := by decide +kernel
theorem d_BH_near_114 : decode prog_1_method_14_code 114 = .ok (.goto 5, 3) := by decide +kernel
theorem d_BH_near_117 : decode prog_1_method_14_code 117 = .ok (.iload 5, 2) := by decide +kernel
theorem d_BH_near_119 : decode prog_1_method_14_code 119 = .ok (.ireturn, 1) := by decide +kernel
theorem d_BH_room_0 : decode prog_1_method_15_code 0 = .ok (.iload_n 1, 1) := by decide +kernel
theorem d_BH_room_1 : decode prog_1_method_15_code 1 = .ok (.ifCond .lt 18, 3) := by decide +kernel
theorem d_BH_room_4 : decode prog_1_method_15_code 4 = .ok (.iload_n 1, 1) := by decide +kernel
theorem d_BH_room_5 : decode prog_1_method_15_code 5 = .ok (.bipush 11, 2) := by decide +kernel
theorem d_BH_room_7 : decode prog_1_method_15_code 7 = .ok (.if_icmp .gt 12, 3) := by decide +kernel
theorem d_BH_room_10 : decode prog_1_method_15_code 10 = .ok (.iload_n 2, 1) := by decide +kernel
theorem d_BH_room_11 : decode prog_1_method_15_code 11 = .ok (.ifCond .lt 8, 3) := by decide +kernel
theorem d_BH_room_14 : decode prog_1_method_15_code 14 = .ok (.iload_n 2, 1) := by decide +kernel
theorem d_BH_room_15 : decode prog_1_method_15_code 15 = .ok (.iconst 1, 1) := by decide +kernel
theorem d_BH_room_16 : decode prog_1_method_15_code 16 = .ok (.if_icmp .le 6, 3) := by decide +kernel
theorem d_BH_room_19 : decode prog_1_method_15_code 19 = .ok (.bipush (-2), 2) := by decide +kernel
theorem d_BH_room_21 : decode prog_1_method_15_code 21 = .ok (.ireturn, 1) := by decide +kernel
theorem d_BH_room_22 : decode prog_1_method_15_code 22 = .ok (.aload_n 0, 1) := by decide +kernel
theorem d_BH_room_23 : decode prog_1_method_15_code 23 = .ok (.getfield 40, 3) := by decide +kernel
theorem d_BH_room_26 : decode prog_1_method_15_code 26 = .ok (.aload_n 0, 1) := by decide +kernel
theorem d_BH_room_27 : decode prog_1_method_15_code 27 = .ok (.getfield 12, 3) := by decide +kernel
theorem d_BH_room_30 : decode prog_1_method_15_code 30 = .ok (.invokevirtual 72, 3) := by decide +kernel
theorem d_BH_room_33 : decode prog_1_method_15_code 33 = .ok (.iload_n 1, 1) := by decide +kernel
theorem d_BH_room_34 : decode prog_1_method_15_code 34 = .ok (.invokevirtual 172, 3) := by decide +kernel
theorem d_BH_room_37 : decode prog_1_method_15_code 37 = .ok (.istore_n 3, 1) := by decide +kernel
theorem d_BH_room_38 : decode prog_1_method_15_code 38 = .ok (.iload_n 2, 1) := by decide +kernel
theorem d_BH_room_39 : decode prog_1_method_15_code 39 = .ok (.ifCond .ne 10, 3) := by decide +kernel
theorem d_BH_room_42 : decode prog_1_method_15_code 42 = .ok (.iload_n 3, 1) := by decide +kernel
theorem d_BH_room_43 : decode prog_1_method_15_code 43 = .ok (.invokestatic 176, 3) := by decide +kernel
theorem d_BH_room_46 : decode prog_1_method_15_code 46 = .ok (.goto 4, 3) := by decide +kernel
theorem d_BH_room_49 : decode prog_1_method_15_code 49 = .ok (.iload_n 3, 1) := by decide +kernel
theorem d_BH_room_50 : decode prog_1_method_15_code 50 = .ok (.ireturn, 1) := by decide +kernel
theorem d_BH_candles_0 : decode prog_1_method_16_code 0 = .ok (.iload_n 1, 1) := by decide +kernel
theorem d_BH_candles_1 : decode prog_1_method_16_code 1 = .ok (.ifCond .lt 18, 3) := by decide +kernel
theorem d_BH_candles_4 : decode prog_1_method_16_code 4 = .ok (.iload_n 1, 1) := by decide +kernel
theorem d_BH_candles_5 : decode prog_1_method_16_code 5 = .ok (.bipush 11, 2) := by decide +kernel
theorem d_BH_candles_7 : decode prog_1_method_16_code 7 = .ok (.if_icmp .gt 12, 3) := by decide +kernel
theorem d_BH_candles_10 : decode prog_1_method_16_code 10 = .ok (.iload_n 2, 1) := by decide +kernel
theorem d_BH_candles_11 : decode prog_1_method_16_code 11 = .ok (.ifCond .lt 8, 3) := by decide +kernel
theorem d_BH_candles_14 : decode prog_1_method_16_code 14 = .ok (.iload_n 2, 1) := by decide +kernel
theorem d_BH_candles_15 : decode prog_1_method_16_code 15 = .ok (.iconst 1, 1) := by decide +kernel
theorem d_BH_candles_16 : decode prog_1_method_16_code 16 = .ok (.if_icmp .le 6, 3) := by decide +kernel
theorem d_BH_candles_19 : decode prog_1_method_16_code 19 = .ok (.bipush (-2), 2) := by decide +kernel
theorem d_BH_candles_21 : decode prog_1_method_16_code 21 = .ok (.ireturn, 1) := by decide +kernel
theorem d_BH_candles_22 : decode prog_1_method_16_code 22 = .ok (.aload_n 0, 1) := by decide +kernel
theorem d_BH_candles_23 : decode prog_1_method_16_code 23 = .ok (.getfield 40, 3) := by decide +kernel
theorem d_BH_candles_26 : decode prog_1_method_16_code 26 = .ok (.aload_n 0, 1) := by decide +kernel
theorem d_BH_candles_27 : decode prog_1_method_16_code 27 = .ok (.getfield 12, 3) := by decide +kernel
theorem d_BH_candles_30 : decode prog_1_method_16_code 30 = .ok (.invokevirtual 72, 3) := by decide +kernel
theorem d_BH_candles_33 : decode prog_1_method_16_code 33 = .ok (.iload_n 1, 1) := by decide +kernel
theorem d_BH_candles_34 : decode prog_1_method_16_code 34 = .ok (.invokevirtual 181, 3) := by decide +kernel
theorem d_BH_candles_37 : decode prog_1_method_16_code 37 = .ok (.istore_n 3, 1) := by decide +kernel
theorem d_BH_candles_38 : decode prog_1_method_16_code 38 = .ok (.iload_n 2, 1) := by decide +kernel
theorem d_BH_candles_39 : decode prog_1_method_16_code 39 = .ok (.ifCond .ne 10, 3) := by decide +kernel
theorem d_BH_candles_42 : decode prog_1_method_16_code 42 = .ok (.iload_n 3, 1) := by decide +kernel
theorem d_BH_candles_43 : decode prog_1_method_16_code 43 = .ok (.invokestatic 176, 3) := by decide +kernel
theorem d_BH_candles_46 : decode prog_1_method_16_code 46 = .ok (.goto 4, 3) := by decide +kernel
theorem d_BH_candles_49 : decode prog_1_method_16_code 49 = .ok (.iload_n 3, 1) := by decide +kernel
theorem d_BH_candles_50 : decode prog_1_method_16_code 50 = .ok (.ireturn, 1) := by decide +kernel
theorem d_BH_seen_0 : decode prog_1_method_17_code 0 = .ok (.iload_n 1, 1) := by decide +kernel
theorem d_BH_seen_1 : decode prog_1_method_17_code 1 = .ok (.invokestatic 68, 3) := by decide +kernel
theorem d_BH_seen_4 : decode prog_1_method_17_code 4 = .ok (.ifCond .ne 5, 3) := by decide +kernel
theorem d_BH_seen_7 : decode prog_1_method_17_code 7 = .ok (.iconst (-1), 1) := by decide +kernel
theorem d_BH_seen_8 : decode prog_1_method_17_code 8 = .ok (.ireturn, 1) := by decide +kernel
theorem d_BH_seen_9 : decode prog_1_method_17_code 9 = .ok (.iload_n 2, 1) := by decide +kernel
theorem d_BH_seen_10 : decode prog_1_method_17_code 10 = .ok (.ifCond .lt 9, 3) := by decide +kernel
theorem d_BH_seen_13 : decode prog_1_method_17_code 13 = .ok (.iload_n 2, 1) := by decide +kernel
theorem d_BH_seen_14 : decode prog_1_method_17_code 14 = .ok (.bipush 11, 2) := by decide +kernel
theorem d_BH_seen_16 : decode prog_1_method_17_code 16 = .ok (.if_icmp .le 6, 3) := by decide +kernel
theorem d_BH_seen_19 : decode prog_1_method_17_code 19 = .ok (.bipush (-2), 2) := by decide +kernel
theorem d_BH_seen_21 : decode prog_1_method_17_code 21 = .ok (.ireturn, 1) := by decide +kernel
theorem d_BH_seen_22 : decode prog_1_method_17_code 22 = .ok (.aload_n 0, 1) := by decide +kernel
theorem d_BH_seen_23 : decode prog_1_method_17_code 23 = .ok (.getfield 19, 3) := by decide +kernel
theorem d_BH_seen_26 : decode prog_1_method_17_code 26 = .ok (.invokevirtual 184, 3) := by decide +kernel
theorem d_BH_seen_29 : decode prog_1_method_17_code 29 = .ok (.bipush 8, 2) := by decide +kernel
theorem d_BH_seen_31 : decode prog_1_method_17_code 31 = .ok (.if_icmp .lt 6, 3) := by decide +kernel
theorem d_BH_seen_34 : decode prog_1_method_17_code 34 = .ok (.bipush (-4), 2) := by decide +kernel
theorem d_BH_seen_36 : decode prog_1_method_17_code 36 = .ok (.ireturn, 1) := by decide +kernel
theorem d_BH_seen_37 : decode prog_1_method_17_code 37 = .ok (.aload_n 0, 1) := by decide +kernel
theorem d_BH_seen_38 : decode prog_1_method_17_code 38 = .ok (.getfield 19, 3) := by decide +kernel
theorem d_BH_seen_41 : decode prog_1_method_17_code 41 = .ok (.iload_n 1, 1) := by decide +kernel
theorem d_BH_seen_42 : decode prog_1_method_17_code 42 = .ok (.iload_n 2, 1) := by decide +kernel
theorem d_BH_seen_43 : decode prog_1_method_17_code 43 = .ok (.invokevirtual 185, 3) := by decide +kernel
theorem d_BH_seen_46 : decode prog_1_method_17_code 46 = .ok (.aload_n 0, 1) := by decide +kernel
theorem d_BH_seen_47 : decode prog_1_method_17_code 47 = .ok (.getfield 19, 3) := by decide +kernel
theorem d_BH_seen_50 : decode prog_1_method_17_code 50 = .ok (.invokevirtual 184, 3) := by decide +kernel
theorem d_BH_seen_53 : decode prog_1_method_17_code 53 = .ok (.ireturn, 1) := by decide +kernel
theorem d_BH_forget_0 : decode prog_1_method_18_code 0 = .ok (.aload_n 0, 1) := by decide +kernel
theorem d_BH_forget_1 : decode prog_1_method_18_code 1 = .ok (.getfield 19, 3) := by decide +kernel
theorem d_BH_forget_4 : decode prog_1_method_18_code 4 = .ok (.invokevirtual 184, 3) := by decide +kernel
theorem d_BH_forget_7 : decode prog_1_method_18_code 7 = .ok (.istore_n 1, 1) := by decide +kernel
theorem d_BH_forget_8 : decode prog_1_method_18_code 8 = .ok (.aload_n 0, 1) := by decide +kernel
theorem d_BH_forget_9 : decode prog_1_method_18_code 9 = .ok (.getfield 19, 3) := by decide +kernel
theorem d_BH_forget_12 : decode prog_1_method_18_code 12 = .ok (.invokevirtual 187, 3) := by decide +kernel
theorem d_BH_forget_15 : decode prog_1_method_18_code 15 = .ok (.iload_n 1, 1) := by decide +kernel
theorem d_BH_forget_16 : decode prog_1_method_18_code 16 = .ok (.ireturn, 1) := by decide +kernel
theorem d_BH_where_0 : decode prog_1_method_19_code 0 = .ok (.aload_n 0, 1) := by decide +kernel
theorem d_BH_where_1 : decode prog_1_method_19_code 1 = .ok (.getfield 19, 3) := by decide +kernel
theorem d_BH_where_4 : decode prog_1_method_19_code 4 = .ok (.aload_n 0, 1) := by decide +kernel
theorem d_BH_where_5 : decode prog_1_method_19_code 5 = .ok (.getfield 12, 3) := by decide +kernel
theorem d_BH_where_8 : decode prog_1_method_19_code 8 = .ok (.invokevirtual 72, 3) := by decide +kernel
theorem d_BH_where_11 : decode prog_1_method_19_code 11 = .ok (.invokevirtual 188, 3) := by decide +kernel
theorem d_BH_where_14 : decode prog_1_method_19_code 14 = .ok (.istore_n 2, 1) := by decide +kernel
theorem d_BH_where_15 : decode prog_1_method_19_code 15 = .ok (.iload_n 1, 1) := by decide +kernel
theorem d_BH_where_16 : decode prog_1_method_19_code 16 = .ok (.iconst (-1), 1) := by decide +kernel
theorem d_BH_where_17 : decode prog_1_method_19_code 17 = .ok (.if_icmp .ne 10, 3) := by decide +kernel
theorem d_BH_where_20 : decode prog_1_method_19_code 20 = .ok (.iload_n 2, 1) := by decide +kernel
theorem d_BH_where_21 : decode prog_1_method_19_code 21 = .ok (.invokestatic 176, 3) := by decide +kernel
theorem d_BH_where_24 : decode prog_1_method_19_code 24 = .ok (.goto 8, 3) := by decide +kernel
theorem d_BH_where_27 : decode prog_1_method_19_code 27 = .ok (.iload_n 2, 1) := by decide +kernel
theorem d_BH_where_28 : decode prog_1_method_19_code 28 = .ok (.iload_n 1, 1) := by decide +kernel
theorem d_BH_where_29 : decode prog_1_method_19_code 29 = .ok (.invokestatic 162, 3) := by decide +kernel
theorem d_BH_where_32 : decode prog_1_method_19_code 32 = .ok (.ireturn, 1) := by decide +kernel
theorem d_BH_ask_0 : decode prog_1_method_20_code 0 = .ok (.iload_n 1, 1) := by decide +kernel
theorem d_BH_ask_1 : decode prog_1_method_20_code 1 = .ok (.ifCond .lt 8, 3) := by decide +kernel
theorem d_BH_ask_4 : decode prog_1_method_20_code 4 = .ok (.iload_n 1, 1) := by decide +kernel
theorem d_BH_ask_5 : decode prog_1_method_20_code 5 = .ok (.iconst 1, 1) := by decide +kernel
theorem d_BH_ask_6 : decode prog_1_method_20_code 6 = .ok (.if_icmp .le 6, 3) := by decide +kernel
theorem d_BH_ask_9 : decode prog_1_method_20_code 9 = .ok (.bipush (-2), 2) := by decide +kernel
theorem d_BH_ask_11 : decode prog_1_method_20_code 11 = .ok (.ireturn, 1) := by decide +kernel
theorem d_BH_ask_12 : decode prog_1_method_20_code 12 = .ok (.aload_n 0, 1) := by decide +kernel
theorem d_BH_ask_13 : decode prog_1_method_20_code 13 = .ok (.getfield 19, 3) := by decide +kernel
theorem d_BH_ask_16 : decode prog_1_method_20_code 16 = .ok (.aload_n 0, 1) := by decide +kernel
theorem d_BH_ask_17 : decode prog_1_method_20_code 17 = .ok (.getfield 12, 3) := by decide +kernel
theorem d_BH_ask_20 : decode prog_1_method_20_code 20 = .ok (.invokevirtual 72, 3) := by decide +kernel
theorem d_BH_ask_23 : decode prog_1_method_20_code 23 = .ok (.invokevirtual 188, 3) := by decide +kernel
theorem d_BH_ask_26 : decode prog_1_method_20_code 26 = .ok (.istore_n 2, 1) := by decide +kernel
theorem d_BH_ask_27 : decode prog_1_method_20_code 27 = .ok (.iload_n 2, 1) := by decide +kernel
theorem d_BH_ask_28 : decode prog_1_method_20_code 28 = .ok (.ifCond .ne 6, 3) := by decide +kernel
theorem d_BH_ask_31 : decode prog_1_method_20_code 31 = .ok (.bipush (-6), 2) := by decide +kernel
theorem d_BH_ask_33 : decode prog_1_method_20_code 33 = .ok (.ireturn, 1) := by decide +kernel
theorem d_BH_ask_34 : decode prog_1_method_20_code 34 = .ok (.iconst 0, 1) := by decide +kernel
theorem d_BH_ask_35 : decode prog_1_method_20_code 35 = .ok (.istore_n 3, 1) := by decide +kernel
theorem d_BH_ask_36 : decode prog_1_method_20_code 36 = .ok (.aload_n 0, 1) := by decide +kernel
theorem d_BH_ask_37 : decode prog_1_method_20_code 37 = .ok (.getfield 12, 3) := by decide +kernel
theorem d_BH_ask_40 : decode prog_1_method_20_code 40 = .ok (.invokevirtual 72, 3) := by decide +kernel
theorem d_BH_ask_43 : decode prog_1_method_20_code 43 = .ok (.iconst 0, 1) := by decide +kernel
theorem d_BH_ask_44 : decode prog_1_method_20_code 44 = .ok (.iload_n 2, 1) := by decide +kernel
theorem d_BH_ask_45 : decode prog_1_method_20_code 45 = .ok (.invokevirtual 192, 3) := by decide +kernel
theorem d_BH_ask_48 : decode prog_1_method_20_code 48 = .ok (.istore 4, 2) := by decide +kernel
theorem d_BH_ask_50 : decode prog_1_method_20_code 50 = .ok (.iconst 1, 1) := by decide +kernel
theorem d_BH_ask_51 : decode prog_1_method_20_code 51 = .ok (.istore 5, 2) := by decide +kernel
theorem d_BH_ask_53 : decode prog_1_method_20_code 53 = .ok (.iload 5, 2) := by decide +kernel
theorem d_BH_ask_55 : decode prog_1_method_20_code 55 = .ok (.bipush 12, 2) := by decide +kernel
theorem d_BH_ask_57 : decode prog_1_method_20_code 57 = .ok (.if_icmp .ge 38, 3) := by decide +kernel
theorem d_BH_ask_60 : decode prog_1_method_20_code 60 = .ok (.aload_n 0, 1) := by decide +kernel
theorem d_BH_ask_61 : decode prog_1_method_20_code 61 = .ok (.getfield 12, 3) := by decide +kernel
theorem d_BH_ask_64 : decode prog_1_method_20_code 64 = .ok (.invokevirtual 72, 3) := by decide +kernel
theorem d_BH_ask_67 : decode prog_1_method_20_code 67 = .ok (.iload 5, 2) := by decide +kernel
theorem d_BH_ask_69 : decode prog_1_method_20_code 69 = .ok (.iload_n 2, 1) := by decide +kernel
theorem d_BH_ask_70 : decode prog_1_method_20_code 70 = .ok (.invokevirtual 192, 3) := by decide +kernel
theorem d_BH_ask_73 : decode prog_1_method_20_code 73 = .ok (.istore 6, 2) := by decide +kernel
theorem d_BH_ask_75 : decode prog_1_method_20_code 75 = .ok (.iload 6, 2) := by decide +kernel
theorem d_BH_ask_77 : decode prog_1_method_20_code 77 = .ok (.iload 4, 2) := by decide +kernel
theorem d_BH_ask_79 : decode prog_1_method_20_code 79 = .ok (.if_icmp .ge 10, 3) := by decide +kernel
theorem d_BH_ask_82 : decode prog_1_method_20_code 82 = .ok (.iload 5, 2) := by decide +kernel
theorem d_BH_ask_84 : decode prog_1_method_20_code 84 = .ok (.istore_n 3, 1) := by decide +kernel
theorem d_BH_ask_85 : decode prog_1_method_20_code 85 = .ok (.iload 6, 2) := by decide +kernel
theorem d_BH_ask_87 : decode prog_1_method_20_code 87 = .ok (.istore 4, 2) := by decide +kernel
theorem d_BH_ask_89 : decode prog_1_method_20_code 89 = .ok (.iinc 5 1, 3) := by decide +kernel
theorem d_BH_ask_92 : decode prog_1_method_20_code 92 = .ok (.goto (-39), 3) := by decide +kernel
theorem d_BH_ask_95 : decode prog_1_method_20_code 95 = .ok (.iload_n 1, 1) := by decide +kernel
theorem d_BH_ask_96 : decode prog_1_method_20_code 96 = .ok (.ifCond .ne 7, 3) := by decide +kernel
theorem d_BH_ask_99 : decode prog_1_method_20_code 99 = .ok (.iload_n 3, 1) := by decide +kernel
theorem d_BH_ask_100 : decode prog_1_method_20_code 100 = .ok (.goto 5, 3) := by decide +kernel
theorem d_BH_ask_103 : decode prog_1_method_20_code 103 = .ok (.iload 4, 2) := by decide +kernel
theorem d_BH_ask_105 : decode prog_1_method_20_code 105 = .ok (.ireturn, 1) := by decide +kernel
theorem d_BH_cut_0 : decode prog_1_method_21_code 0 = .ok (.iload_n 1, 1) := by decide +kernel
theorem d_BH_cut_1 : decode prog_1_method_21_code 1 = .ok (.ifCond .lt 8, 3) := by decide +kernel
theorem d_BH_cut_4 : decode prog_1_method_21_code 4 = .ok (.iload_n 1, 1) := by decide +kernel
theorem d_BH_cut_5 : decode prog_1_method_21_code 5 = .ok (.iconst 1, 1) := by decide +kernel
theorem d_BH_cut_6 : decode prog_1_method_21_code 6 = .ok (.if_icmp .le 6, 3) := by decide +kernel
theorem d_BH_cut_9 : decode prog_1_method_21_code 9 = .ok (.bipush (-2), 2) := by decide +kernel
theorem d_BH_cut_11 : decode prog_1_method_21_code 11 = .ok (.ireturn, 1) := by decide +kernel
theorem d_BH_cut_12 : decode prog_1_method_21_code 12 = .ok (.iload_n 1, 1) := by decide +kernel
theorem d_BH_cut_13 : decode prog_1_method_21_code 13 = .ok (.ifCond .ne 27, 3) := by decide +kernel
theorem d_BH_cut_16 : decode prog_1_method_21_code 16 = .ok (.aload_n 0, 1) := by decide +kernel
theorem d_BH_cut_17 : decode prog_1_method_21_code 17 = .ok (.getfield 47, 3) := by decide +kernel
theorem d_BH_cut_20 : decode prog_1_method_21_code 20 = .ok (.aload_n 0, 1) := by decide +kernel
theorem d_BH_cut_21 : decode prog_1_method_21_code 21 = .ok (.getfield 12, 3) := by decide +kernel
theorem d_BH_cut_24 : decode prog_1_method_21_code 24 = .ok (.invokevirtual 72, 3) := by decide +kernel
theorem d_BH_cut_27 : decode prog_1_method_21_code 27 = .ok (.iconst 0, 1) := by decide +kernel
theorem d_BH_cut_28 : decode prog_1_method_21_code 28 = .ok (.invokevirtual 195, 3) := by decide +kernel
theorem d_BH_cut_31 : decode prog_1_method_21_code 31 = .ok (.ifCond .eq 7, 3) := by decide +kernel
theorem d_BH_cut_34 : decode prog_1_method_21_code 34 = .ok (.iconst 1, 1) := by decide +kernel
theorem d_BH_cut_35 : decode prog_1_method_21_code 35 = .ok (.goto 4, 3) := by decide +kernel
theorem d_BH_cut_38 : decode prog_1_method_21_code 38 = .ok (.iconst 0, 1) := by decide +kernel
theorem d_BH_cut_39 : decode prog_1_method_21_code 39 = .ok (.ireturn, 1) := by decide +kernel
theorem d_BH_cut_40 : decode prog_1_method_21_code 40 = .ok (.iconst 1, 1) := by decide +kernel
theorem d_BH_cut_41 : decode prog_1_method_21_code 41 = .ok (.istore_n 2, 1) := by decide +kernel
theorem d_BH_cut_42 : decode prog_1_method_21_code 42 = .ok (.iload_n 2, 1) := by decide +kernel
theorem d_BH_cut_43 : decode prog_1_method_21_code 43 = .ok (.bipush 12, 2) := by decide +kernel
theorem d_BH_cut_45 : decode prog_1_method_21_code 45 = .ok (.if_icmp .ge 29, 3) := by decide +kernel
theorem d_BH_cut_48 : decode prog_1_method_21_code 48 = .ok (.aload_n 0, 1) := by decide +kernel
theorem d_BH_cut_49 : decode prog_1_method_21_code 49 = .ok (.getfield 47, 3) := by decide +kernel
theorem d_BH_cut_52 : decode prog_1_method_21_code 52 = .ok (.aload_n 0, 1) := by decide +kernel
theorem d_BH_cut_53 : decode prog_1_method_21_code 53 = .ok (.getfield 12, 3) := by decide +kernel
theorem d_BH_cut_56 : decode prog_1_method_21_code 56 = .ok (.invokevirtual 72, 3) := by decide +kernel
theorem d_BH_cut_59 : decode prog_1_method_21_code 59 = .ok (.iload_n 2, 1) := by decide +kernel
theorem d_BH_cut_60 : decode prog_1_method_21_code 60 = .ok (.invokevirtual 195, 3) := by decide +kernel
theorem d_BH_cut_63 : decode prog_1_method_21_code 63 = .ok (.ifCond .ne 5, 3) := by decide +kernel
theorem d_BH_cut_66 : decode prog_1_method_21_code 66 = .ok (.iload_n 2, 1) := by decide +kernel
theorem d_BH_cut_67 : decode prog_1_method_21_code 67 = .ok (.ireturn, 1) := by decide +kernel
theorem d_BH_cut_68 : decode prog_1_method_21_code 68 = .ok (.iinc 2 1, 3) := by decide +kernel
theorem d_BH_cut_71 : decode prog_1_method_21_code 71 = .ok (.goto (-29), 3) := by decide +kernel
theorem d_BH_cut_74 : decode prog_1_method_21_code 74 = .ok (.bipush (-6), 2) := by decide +kernel
theorem d_BH_cut_76 : decode prog_1_method_21_code 76 = .ok (.ireturn, 1) := by decide +kernel
theorem d_BH_tissue_0 : decode prog_1_method_22_code 0 = .ok (.iload_n 1, 1) := by decide +kernel
theorem d_BH_tissue_1 : decode prog_1_method_22_code 1 = .ok (.ifCond .lt 42, 3) := by decide +kernel
theorem d_BH_tissue_4 : decode prog_1_method_22_code 4 = .ok (.iload_n 1, 1) := by decide +kernel
theorem d_BH_tissue_5 : decode prog_1_method_22_code 5 = .ok (.bipush 40, 2) := by decide +kernel
theorem d_BH_tissue_7 : decode prog_1_method_22_code 7 = .ok (.if_icmp .gt 36, 3) := by decide +kernel
theorem d_BH_tissue_10 : decode prog_1_method_22_code 10 = .ok (.iload_n 2, 1) := by decide +kernel
theorem d_BH_tissue_11 : decode prog_1_method_22_code 11 = .ok (.ifCond .lt 32, 3) := by decide +kernel
theorem d_BH_tissue_14 : decode prog_1_method_22_code 14 = .ok (.iload_n 2, 1) := by decide +kernel
theorem d_BH_tissue_15 : decode prog_1_method_22_code 15 = .ok (.iload_n 1, 1) := by decide +kernel
theorem d_BH_tissue_16 : decode prog_1_method_22_code 16 = .ok (.if_icmp .gt 27, 3) := by decide +kernel
theorem d_BH_tissue_19 : decode prog_1_method_22_code 19 = .ok (.iload_n 3, 1) := by decide +kernel
theorem d_BH_tissue_20 : decode prog_1_method_22_code 20 = .ok (.ifCond .lt 23, 3) := by decide +kernel
theorem d_BH_tissue_23 : decode prog_1_method_22_code 23 = .ok (.iload_n 3, 1) := by decide +kernel
theorem d_BH_tissue_24 : decode prog_1_method_22_code 24 = .ok (.iload_n 1, 1) := by decide +kernel
theorem d_BH_tissue_25 : decode prog_1_method_22_code 25 = .ok (.if_icmp .gt 18, 3) := by decide +kernel
theorem d_BH_tissue_28 : decode prog_1_method_22_code 28 = .ok (.iload 4, 2) := by decide +kernel
theorem d_BH_tissue_30 : decode prog_1_method_22_code 30 = .ok (.ifCond .lt 13, 3) := by decide +kernel
theorem d_BH_tissue_33 : decode prog_1_method_22_code 33 = .ok (.iload 4, 2) := by decide +kernel
theorem d_BH_tissue_35 : decode prog_1_method_22_code 35 = .ok (.iload_n 3, 1) := by decide +kernel
theorem d_BH_tissue_36 : decode prog_1_method_22_code 36 = .ok (.if_icmp .gt 7, 3) := by decide +kernel
theorem d_BH_tissue_39 : decode prog_1_method_22_code 39 = .ok (.iconst 1, 1) := by decide +kernel
theorem d_BH_tissue_40 : decode prog_1_method_22_code 40 = .ok (.goto 4, 3) := by decide +kernel
theorem d_BH_tissue_43 : decode prog_1_method_22_code 43 = .ok (.iconst 0, 1) := by decide +kernel
theorem d_BH_tissue_44 : decode prog_1_method_22_code 44 = .ok (.istore 7, 2) := by decide +kernel
theorem d_BH_tissue_46 : decode prog_1_method_22_code 46 = .ok (.iload 7, 2) := by decide +kernel
theorem d_BH_tissue_48 : decode prog_1_method_22_code 48 = .ok (.ifCond .eq 25, 3) := by decide +kernel
theorem d_BH_tissue_51 : decode prog_1_method_22_code 51 = .ok (.iload 5, 2) := by decide +kernel
theorem d_BH_tissue_53 : decode prog_1_method_22_code 53 = .ok (.ifCond .lt 20, 3) := by decide +kernel
theorem d_BH_tissue_56 : decode prog_1_method_22_code 56 = .ok (.iload 5, 2) := by decide +kernel
theorem d_BH_tissue_58 : decode prog_1_method_22_code 58 = .ok (.iconst 1, 1) := by decide +kernel
theorem d_BH_tissue_59 : decode prog_1_method_22_code 59 = .ok (.if_icmp .gt 14, 3) := by decide +kernel
theorem d_BH_tissue_62 : decode prog_1_method_22_code 62 = .ok (.iload 6, 2) := by decide +kernel
theorem d_BH_tissue_64 : decode prog_1_method_22_code 64 = .ok (.ifCond .lt 9, 3) := by decide +kernel
theorem d_BH_tissue_67 : decode prog_1_method_22_code 67 = .ok (.iload 6, 2) := by decide +kernel
theorem d_BH_tissue_69 : decode prog_1_method_22_code 69 = .ok (.iconst 1, 1) := by decide +kernel
theorem d_BH_tissue_70 : decode prog_1_method_22_code 70 = .ok (.if_icmp .le 7, 3) := by decide +kernel
theorem d_BH_tissue_73 : decode prog_1_method_22_code 73 = .ok (.ldc2_w 198, 3) := by decide +kernel
theorem d_BH_tissue_76 : decode prog_1_method_22_code 76 = .ok (.lreturn, 1) := by decide +kernel
theorem d_BH_tissue_77 : decode prog_1_method_22_code 77 = .ok (.iload 5, 2) := by decide +kernel
theorem d_BH_tissue_79 : decode prog_1_method_22_code 79 = .ok (.ifCond .ne 22, 3) := by decide +kernel
theorem d_BH_tissue_82 : decode prog_1_method_22_code 82 = .ok (.iload_n 1, 1) := by decide +kernel
theorem d_BH_tissue_83 : decode prog_1_method_22_code 83 = .ok (.iload_n 2, 1) := by decide +kernel
theorem d_BH_tissue_84 : decode prog_1_method_22_code 84 = .ok (.iload_n 3, 1) := by decide +kernel
theorem d_BH_tissue_85 : decode prog_1_method_22_code 85 = .ok (.iload 4, 2) := by decide +kernel
theorem d_BH_tissue_87 : decode prog_1_method_22_code 87 = .ok (.invokestatic 200, 3) := by decide +kernel
theorem d_BH_tissue_90 : decode prog_1_method_22_code 90 = .ok (.iload_n 1, 1) := by decide +kernel
theorem d_BH_tissue_91 : decode prog_1_method_22_code 91 = .ok (.iload_n 3, 1) := by decide +kernel
theorem d_BH_tissue_92 : decode prog_1_method_22_code 92 = .ok (.invokestatic 206, 3) := by decide +kernel
theorem d_BH_tissue_95 : decode prog_1_method_22_code 95 = .ok (.iload 6, 2) := by decide +kernel
theorem d_BH_tissue_97 : decode prog_1_method_22_code 97 = .ok (.invokestatic 210, 3) := by decide +kernel
theorem d_BH_tissue_100 : decode prog_1_method_22_code 100 = .ok (.lreturn, 1) := by decide +kernel
theorem d_BH_tissue_101 : decode prog_1_method_22_code 101 = .ok (.iload_n 3, 1) := by decide +kernel
theorem d_BH_tissue_102 : decode prog_1_method_22_code 102 = .ok (.i2l, 1) := by decide +kernel
theorem d_BH_tissue_103 : decode prog_1_method_22_code 103 = .ok (.iload_n 2, 1) := by decide +kernel
theorem d_BH_tissue_104 : decode prog_1_method_22_code 104 = .ok (.i2l, 1) := by decide +kernel
theorem d_BH_tissue_105 : decode prog_1_method_22_code 105 = .ok (.lmul, 1) := by decide +kernel
theorem d_BH_tissue_106 : decode prog_1_method_22_code 106 = .ok (.iload_n 1, 1) := by decide +kernel
theorem d_BH_tissue_107 : decode prog_1_method_22_code 107 = .ok (.iconst 1, 1) := by decide +kernel
theorem d_BH_tissue_108 : decode prog_1_method_22_code 108 = .ok (.invokestatic 214, 3) := by decide +kernel
theorem d_BH_tissue_111 : decode prog_1_method_22_code 111 = .ok (.i2l, 1) := by decide +kernel
theorem d_BH_tissue_112 : decode prog_1_method_22_code 112 = .ok (.iload 6, 2) := by decide +kernel
theorem d_BH_tissue_114 : decode prog_1_method_22_code 114 = .ok (.invokestatic 210, 3) := by decide +kernel
theorem d_BH_tissue_117 : decode prog_1_method_22_code 117 = .ok (.lreturn, 1) := by decide +kernel
theorem d_BH_year_0 : decode prog_1_method_23_code 0 = .ok (.iload_n 1, 1) := by decide +kernel
theorem d_BH_year_1 : decode prog_1_method_23_code 1 = .ok (.ifCond .lt 30, 3) := by decide +kernel
theorem d_BH_year_4 : decode prog_1_method_23_code 4 = .ok (.iload_n 1, 1) := by decide +kernel
theorem d_BH_year_5 : decode prog_1_method_23_code 5 = .ok (.sipush 9999, 3) := by decide +kernel
theorem d_BH_year_8 : decode prog_1_method_23_code 8 = .ok (.if_icmp .gt 23, 3) := by decide +kernel
theorem d_BH_year_11 : decode prog_1_method_23_code 11 = .ok (.iload_n 2, 1) := by decide +kernel
theorem d_BH_year_12 : decode prog_1_method_23_code 12 = .ok (.iconst 1, 1) := by decide +kernel
theorem d_BH_year_13 : decode prog_1_method_23_code 13 = .ok (.if_icmp .lt 18, 3) := by decide +kernel
theorem d_BH_year_16 : decode prog_1_method_23_code 16 = .ok (.iload_n 2, 1) := by decide +kernel
theorem d_BH_year_17 : decode prog_1_method_23_code 17 = .ok (.bipush 99, 2) := by decide +kernel
theorem d_BH_year_19 : decode prog_1_method_23_code 19 = .ok (.if_icmp .gt 12, 3) := by decide +kernel
theorem d_BH_year_22 : decode prog_1_method_23_code 22 = .ok (.iload_n 3, 1) := by decide +kernel
theorem d_BH_year_23 : decode prog_1_method_23_code 23 = .ok (.ifCond .lt 8, 3) := by decide +kernel
theorem d_BH_year_26 : decode prog_1_method_23_code 26 = .ok (.iload_n 3, 1) := by decide +kernel
theorem d_BH_year_27 : decode prog_1_method_23_code 27 = .ok (.iconst 2, 1) := by decide +kernel
theorem d_BH_year_28 : decode prog_1_method_23_code 28 = .ok (.if_icmp .le 6, 3) := by decide +kernel
theorem d_BH_year_31 : decode prog_1_method_23_code 31 = .ok (.bipush (-2), 2) := by decide +kernel
theorem d_BH_year_33 : decode prog_1_method_23_code 33 = .ok (.ireturn, 1) := by decide +kernel
theorem d_BH_year_34 : decode prog_1_method_23_code 34 = .ok (.aload_n 0, 1) := by decide +kernel
theorem d_BH_year_35 : decode prog_1_method_23_code 35 = .ok (.getfield 54, 3) := by decide +kernel
theorem d_BH_year_38 : decode prog_1_method_23_code 38 = .ok (.aload_n 0, 1) := by decide +kernel
theorem d_BH_year_39 : decode prog_1_method_23_code 39 = .ok (.getfield 12, 3) := by decide +kernel
theorem d_BH_year_42 : decode prog_1_method_23_code 42 = .ok (.iload_n 1, 1) := by decide +kernel
theorem d_BH_year_43 : decode prog_1_method_23_code 43 = .ok (.iload_n 2, 1) := by decide +kernel
theorem d_BH_year_44 : decode prog_1_method_23_code 44 = .ok (.invokevirtual 219, 3) := by decide +kernel
theorem d_BH_year_47 : decode prog_1_method_23_code 47 = .ok (.astore 4, 2) := by decide +kernel
theorem d_BH_year_49 : decode prog_1_method_23_code 49 = .ok (.iload_n 3, 1) := by decide +kernel
theorem d_BH_year_50 : decode prog_1_method_23_code 50 = .ok (.lookupswitch 41 #[(0, 26), (1, 35)], 26) := by decide +kernel
theorem d_BH_year_76 : decode prog_1_method_23_code 76 = .ok (.aload 4, 2) := by decide +kernel
theorem d_BH_year_78 : decode prog_1_method_23_code 78 = .ok (.invokevirtual 137, 3) := by decide +kernel
theorem d_BH_year_81 : decode prog_1_method_23_code 81 = .ok (.invokestatic 176, 3) := by decide +kernel
theorem d_BH_year_84 : decode prog_1_method_23_code 84 = .ok (.ireturn, 1) := by decide +kernel
theorem d_BH_year_85 : decode prog_1_method_23_code 85 = .ok (.aload 4, 2) := by decide +kernel
theorem d_BH_year_87 : decode prog_1_method_23_code 87 = .ok (.invokevirtual 143, 3) := by decide +kernel
theorem d_BH_year_90 : decode prog_1_method_23_code 90 = .ok (.ireturn, 1) := by decide +kernel
theorem d_BH_year_91 : decode prog_1_method_23_code 91 = .ok (.aload 4, 2) := by decide +kernel
theorem d_BH_year_93 : decode prog_1_method_23_code 93 = .ok (.invokevirtual 140, 3) := by decide +kernel
theorem d_BH_year_96 : decode prog_1_method_23_code 96 = .ok (.invokestatic 176, 3) := by decide +kernel
theorem d_BH_year_99 : decode prog_1_method_23_code 99 = .ok (.ireturn, 1) := by decide +kernel
theorem d_BH_image_0 : decode prog_1_method_24_code 0 = .ok (.iload_n 1, 1) := by decide +kernel
theorem d_BH_image_1 : decode prog_1_method_24_code 1 = .ok (.ifCond .lt 8, 3) := by decide +kernel
theorem d_BH_image_4 : decode prog_1_method_24_code 4 = .ok (.iload_n 1, 1) := by decide +kernel
theorem d_BH_image_5 : decode prog_1_method_24_code 5 = .ok (.iconst 1, 1) := by decide +kernel
theorem d_BH_image_6 : decode prog_1_method_24_code 6 = .ok (.if_icmp .le 6, 3) := by decide +kernel
theorem d_BH_image_9 : decode prog_1_method_24_code 9 = .ok (.bipush (-2), 2) := by decide +kernel
theorem d_BH_image_11 : decode prog_1_method_24_code 11 = .ok (.ireturn, 1) := by decide +kernel
theorem d_BH_image_12 : decode prog_1_method_24_code 12 = .ok (.aload_n 0, 1) := by decide +kernel
theorem d_BH_image_13 : decode prog_1_method_24_code 13 = .ok (.iload_n 1, 1) := by decide +kernel
theorem d_BH_image_14 : decode prog_1_method_24_code 14 = .ok (.invokevirtual 223, 3) := by decide +kernel
theorem d_BH_image_17 : decode prog_1_method_24_code 17 = .ok (.aload_n 0, 1) := by decide +kernel
theorem d_BH_image_18 : decode prog_1_method_24_code 18 = .ok (.getfield 12, 3) := by decide +kernel
theorem d_BH_image_21 : decode prog_1_method_24_code 21 = .ok (.aload_n 0, 1) := by decide +kernel
theorem d_BH_image_22 : decode prog_1_method_24_code 22 = .ok (.getfield 19, 3) := by decide +kernel
theorem d_BH_image_25 : decode prog_1_method_24_code 25 = .ok (.invokevirtual 227, 3) := by decide +kernel
theorem d_BH_image_28 : decode prog_1_method_24_code 28 = .ok (.iconst 1, 1) := by decide +kernel
theorem d_BH_image_29 : decode prog_1_method_24_code 29 = .ok (.ireturn, 1) := by decide +kernel
theorem d_BH_restore_0 : decode prog_1_method_25_code 0 = .ok (.iload_n 1, 1) := by decide +kernel
theorem d_BH_restore_1 : decode prog_1_method_25_code 1 = .ok (.ifCond .lt 8, 3) := by decide +kernel
theorem d_BH_restore_4 : decode prog_1_method_25_code 4 = .ok (.iload_n 1, 1) := by decide +kernel
theorem d_BH_restore_5 : decode prog_1_method_25_code 5 = .ok (.iconst 1, 1) := by decide +kernel
theorem d_BH_restore_6 : decode prog_1_method_25_code 6 = .ok (.if_icmp .le 6, 3) := by decide +kernel
theorem d_BH_restore_9 : decode prog_1_method_25_code 9 = .ok (.bipush (-2), 2) := by decide +kernel
theorem d_BH_restore_11 : decode prog_1_method_25_code 11 = .ok (.ireturn, 1) := by decide +kernel
theorem d_BH_restore_12 : decode prog_1_method_25_code 12 = .ok (.aload_n 0, 1) := by decide +kernel
theorem d_BH_restore_13 : decode prog_1_method_25_code 13 = .ok (.iload_n 1, 1) := by decide +kernel
theorem d_BH_restore_14 : decode prog_1_method_25_code 14 = .ok (.invokevirtual 223, 3) := by decide +kernel
theorem d_BH_restore_17 : decode prog_1_method_25_code 17 = .ok (.invokevirtual 231, 3) := by decide +kernel
theorem d_BH_restore_20 : decode prog_1_method_25_code 20 = .ok (.ifCond .ne 6, 3) := by decide +kernel
theorem d_BH_restore_23 : decode prog_1_method_25_code 23 = .ok (.bipush (-3), 2) := by decide +kernel
theorem d_BH_restore_25 : decode prog_1_method_25_code 25 = .ok (.ireturn, 1) := by decide +kernel
theorem d_BH_restore_26 : decode prog_1_method_25_code 26 = .ok (.aload_n 0, 1) := by decide +kernel
theorem d_BH_restore_27 : decode prog_1_method_25_code 27 = .ok (.iload_n 1, 1) := by decide +kernel
theorem d_BH_restore_28 : decode prog_1_method_25_code 28 = .ok (.invokevirtual 223, 3) := by decide +kernel
theorem d_BH_restore_31 : decode prog_1_method_25_code 31 = .ok (.aload_n 0, 1) := by decide +kernel
theorem d_BH_restore_32 : decode prog_1_method_25_code 32 = .ok (.getfield 12, 3) := by decide +kernel
theorem d_BH_restore_35 : decode prog_1_method_25_code 35 = .ok (.aload_n 0, 1) := by decide +kernel
theorem d_BH_restore_36 : decode prog_1_method_25_code 36 = .ok (.getfield 19, 3) := by decide +kernel
theorem d_BH_restore_39 : decode prog_1_method_25_code 39 = .ok (.invokevirtual 235, 3) := by decide +kernel
theorem d_BH_restore_42 : decode prog_1_method_25_code 42 = .ok (.iconst 1, 1) := by decide +kernel
theorem d_BH_restore_43 : decode prog_1_method_25_code 43 = .ok (.ireturn, 1) := by decide +kernel
theorem d_BH_told_0 : decode prog_1_method_26_code 0 = .ok (.iload_n 1, 1) := by decide +kernel
theorem d_BH_told_1 : decode prog_1_method_26_code 1 = .ok (.bipush 10, 2) := by decide +kernel
theorem d_BH_told_3 : decode prog_1_method_26_code 3 = .ok (.isub, 1) := by decide +kernel
theorem d_BH_told_4 : decode prog_1_method_26_code 4 = .ok (.invokestatic 68, 3) := by decide +kernel
theorem d_BH_told_7 : decode prog_1_method_26_code 7 = .ok (.ifCond .eq 29, 3) := by decide +kernel
theorem d_BH_told_10 : decode prog_1_method_26_code 10 = .ok (.iload_n 1, 1) := by decide +kernel
theorem d_BH_told_11 : decode prog_1_method_26_code 11 = .ok (.bipush 10, 2) := by decide +kernel
theorem d_BH_told_13 : decode prog_1_method_26_code 13 = .ok (.if_icmp .ne 8, 3) := by decide +kernel
theorem d_BH_told_16 : decode prog_1_method_26_code 16 = .ok (.bipush (-6), 2) := by decide +kernel
theorem d_BH_told_18 : decode prog_1_method_26_code 18 = .ok (.goto 17, 3) := by decide +kernel
theorem d_BH_told_21 : decode prog_1_method_26_code 21 = .ok (.aload_n 0, 1) := by decide +kernel
theorem d_BH_told_22 : decode prog_1_method_26_code 22 = .ok (.getfield 12, 3) := by decide +kernel
theorem d_BH_told_25 : decode prog_1_method_26_code 25 = .ok (.invokevirtual 72, 3) := by decide +kernel
theorem d_BH_told_28 : decode prog_1_method_26_code 28 = .ok (.iload_n 1, 1) := by decide +kernel
theorem d_BH_told_29 : decode prog_1_method_26_code 29 = .ok (.bipush 10, 2) := by decide +kernel
theorem d_BH_told_31 : decode prog_1_method_26_code 31 = .ok (.isub, 1) := by decide +kernel
theorem d_BH_told_32 : decode prog_1_method_26_code 32 = .ok (.invokevirtual 76, 3) := by decide +kernel
theorem d_BH_told_35 : decode prog_1_method_26_code 35 = .ok (.ireturn, 1) := by decide +kernel
theorem d_BH_told_36 : decode prog_1_method_26_code 36 = .ok (.iload_n 1, 1) := by decide +kernel
theorem d_BH_told_37 : decode prog_1_method_26_code 37 = .ok (.bipush 30, 2) := by decide +kernel
theorem d_BH_told_39 : decode prog_1_method_26_code 39 = .ok (.isub, 1) := by decide +kernel
theorem d_BH_told_40 : decode prog_1_method_26_code 40 = .ok (.invokestatic 86, 3) := by decide +kernel
theorem d_BH_told_43 : decode prog_1_method_26_code 43 = .ok (.ifCond .eq 15, 3) := by decide +kernel
theorem d_BH_told_46 : decode prog_1_method_26_code 46 = .ok (.aload_n 0, 1) := by decide +kernel
theorem d_BH_told_47 : decode prog_1_method_26_code 47 = .ok (.getfield 12, 3) := by decide +kernel
theorem d_BH_told_50 : decode prog_1_method_26_code 50 = .ok (.iload_n 1, 1) := by decide +kernel
theorem d_BH_told_51 : decode prog_1_method_26_code 51 = .ok (.bipush 30, 2) := by decide +kernel
theorem d_BH_told_53 : decode prog_1_method_26_code 53 = .ok (.isub, 1) := by decide +kernel
theorem d_BH_told_54 : decode prog_1_method_26_code 54 = .ok (.invokevirtual 93, 3) := by decide +kernel
theorem d_BH_told_57 : decode prog_1_method_26_code 57 = .ok (.ireturn, 1) := by decide +kernel
theorem d_BH_told_58 : decode prog_1_method_26_code 58 = .ok (.iload_n 1, 1) := by decide +kernel
theorem d_BH_told_59 : decode prog_1_method_26_code 59 = .ok (.bipush 40, 2) := by decide +kernel
theorem d_BH_told_61 : decode prog_1_method_26_code 61 = .ok (.isub, 1) := by decide +kernel
theorem d_BH_told_62 : decode prog_1_method_26_code 62 = .ok (.invokestatic 86, 3) := by decide +kernel
theorem d_BH_told_65 : decode prog_1_method_26_code 65 = .ok (.ifCond .eq 15, 3) := by decide +kernel
theorem d_BH_told_68 : decode prog_1_method_26_code 68 = .ok (.aload_n 0, 1) := by decide +kernel
theorem d_BH_told_69 : decode prog_1_method_26_code 69 = .ok (.getfield 12, 3) := by decide +kernel
theorem d_BH_told_72 : decode prog_1_method_26_code 72 = .ok (.iload_n 1, 1) := by decide +kernel
theorem d_BH_told_73 : decode prog_1_method_26_code 73 = .ok (.bipush 40, 2) := by decide +kernel
theorem d_BH_told_75 : decode prog_1_method_26_code 75 = .ok (.isub, 1) := by decide +kernel
theorem d_BH_told_76 : decode prog_1_method_26_code 76 = .ok (.invokevirtual 131, 3) := by decide +kernel
theorem d_BH_told_79 : decode prog_1_method_26_code 79 = .ok (.ireturn, 1) := by decide +kernel
theorem d_BH_told_80 : decode prog_1_method_26_code 80 = .ok (.iload_n 1, 1) := by decide +kernel
theorem d_BH_told_81 : decode prog_1_method_26_code 81 = .ok (.tableswitch 75 0 4 #[35, 43, 51, 59, 67], 35) := by decide +kernel
theorem d_BH_told_116 : decode prog_1_method_26_code 116 = .ok (.aload_n 0, 1) := by decide +kernel
theorem d_BH_told_117 : decode prog_1_method_26_code 117 = .ok (.getfield 26, 3) := by decide +kernel
theorem d_BH_told_120 : decode prog_1_method_26_code 120 = .ok (.invokevirtual 100, 3) := by decide +kernel
theorem d_BH_told_123 : decode prog_1_method_26_code 123 = .ok (.ireturn, 1) := by decide +kernel
theorem d_BH_told_124 : decode prog_1_method_26_code 124 = .ok (.aload_n 0, 1) := by decide +kernel
theorem d_BH_told_125 : decode prog_1_method_26_code 125 = .ok (.getfield 12, 3) := by decide +kernel
theorem d_BH_told_128 : decode prog_1_method_26_code 128 = .ok (.invokevirtual 137, 3) := by decide +kernel
theorem d_BH_told_131 : decode prog_1_method_26_code 131 = .ok (.ireturn, 1) := by decide +kernel
theorem d_BH_told_132 : decode prog_1_method_26_code 132 = .ok (.aload_n 0, 1) := by decide +kernel
theorem d_BH_told_133 : decode prog_1_method_26_code 133 = .ok (.getfield 12, 3) := by decide +kernel
theorem d_BH_told_136 : decode prog_1_method_26_code 136 = .ok (.invokevirtual 140, 3) := by decide +kernel
theorem d_BH_told_139 : decode prog_1_method_26_code 139 = .ok (.ireturn, 1) := by decide +kernel
theorem d_BH_told_140 : decode prog_1_method_26_code 140 = .ok (.aload_n 0, 1) := by decide +kernel
theorem d_BH_told_141 : decode prog_1_method_26_code 141 = .ok (.getfield 12, 3) := by decide +kernel
theorem d_BH_told_144 : decode prog_1_method_26_code 144 = .ok (.invokevirtual 146, 3) := by decide +kernel
theorem d_BH_told_147 : decode prog_1_method_26_code 147 = .ok (.ireturn, 1) := by decide +kernel
theorem d_BH_told_148 : decode prog_1_method_26_code 148 = .ok (.aload_n 0, 1) := by decide +kernel
theorem d_BH_told_149 : decode prog_1_method_26_code 149 = .ok (.getfield 19, 3) := by decide +kernel
theorem d_BH_told_152 : decode prog_1_method_26_code 152 = .ok (.invokevirtual 184, 3) := by decide +kernel
theorem d_BH_told_155 : decode prog_1_method_26_code 155 = .ok (.ireturn, 1) := by decide +kernel
theorem d_BH_told_156 : decode prog_1_method_26_code 156 = .ok (.bipush (-2), 2) := by decide +kernel
theorem d_BH_told_158 : decode prog_1_method_26_code 158 = .ok (.ireturn, 1) := by decide +kernel
theorem d_BH_imageOf_0 : decode prog_1_method_27_code 0 = .ok (.iload_n 1, 1) := by decide +kernel
theorem d_BH_imageOf_1 : decode prog_1_method_27_code 1 = .ok (.ifCond .ne 10, 3) := by decide +kernel
theorem d_BH_imageOf_4 : decode prog_1_method_27_code 4 = .ok (.aload_n 0, 1) := by decide +kernel
theorem d_BH_imageOf_5 : decode prog_1_method_27_code 5 = .ok (.getfield 61, 3) := by decide +kernel
theorem d_BH_imageOf_8 : decode prog_1_method_27_code 8 = .ok (.goto 7, 3) := by decide +kernel
theorem d_BH_imageOf_11 : decode prog_1_method_27_code 11 = .ok (.aload_n 0, 1) := by decide +kernel
theorem d_BH_imageOf_12 : decode prog_1_method_27_code 12 = .ok (.getfield 65, 3) := by decide +kernel
theorem d_BH_imageOf_15 : decode prog_1_method_27_code 15 = .ok (.areturn, 1) := by decide +kernel
theorem d_BH_isLoop_0 : decode prog_1_method_28_code 0 = .ok (.iload_n 0, 1) := by decide +kernel
theorem d_BH_isLoop_1 : decode prog_1_method_28_code 1 = .ok (.ifCond .lt 13, 3) := by decide +kernel
theorem d_BH_isLoop_4 : decode prog_1_method_28_code 4 = .ok (.iload_n 0, 1) := by decide +kernel
theorem d_BH_isLoop_5 : decode prog_1_method_28_code 5 = .ok (.bipush 12, 2) := by decide +kernel
theorem d_BH_isLoop_7 : decode prog_1_method_28_code 7 = .ok (.if_icmp .ge 7, 3) := by decide +kernel
theorem d_BH_isLoop_10 : decode prog_1_method_28_code 10 = .ok (.iconst 1, 1) := by decide +kernel
theorem d_BH_isLoop_11 : decode prog_1_method_28_code 11 = .ok (.goto 4, 3) := by decide +kernel
theorem d_BH_isLoop_14 : decode prog_1_method_28_code 14 = .ok (.iconst 0, 1) := by decide +kernel
theorem d_BH_isLoop_15 : decode prog_1_method_28_code 15 = .ok (.ireturn, 1) := by decide +kernel
theorem d_BH_isBall_0 : decode prog_1_method_29_code 0 = .ok (.iload_n 0, 1) := by decide +kernel
theorem d_BH_isBall_1 : decode prog_1_method_29_code 1 = .ok (.ifCond .lt 13, 3) := by decide +kernel
theorem d_BH_isBall_4 : decode prog_1_method_29_code 4 = .ok (.iload_n 0, 1) := by decide +kernel
theorem d_BH_isBall_5 : decode prog_1_method_29_code 5 = .ok (.bipush 6, 2) := by decide +kernel
theorem d_BH_isBall_7 : decode prog_1_method_29_code 7 = .ok (.if_icmp .ge 7, 3) := by decide +kernel
theorem d_BH_isBall_10 : decode prog_1_method_29_code 10 = .ok (.iconst 1, 1) := by decide +kernel
theorem d_BH_isBall_11 : decode prog_1_method_29_code 11 = .ok (.goto 4, 3) := by decide +kernel
theorem d_BH_isBall_14 : decode prog_1_method_29_code 14 = .ok (.iconst 0, 1) := by decide +kernel
theorem d_BH_isBall_15 : decode prog_1_method_29_code 15 = .ok (.ireturn, 1) := by decide +kernel
theorem d_BH_holds_0 : decode prog_1_method_30_code 0 = .ok (.iload_n 0, 1) := by decide +kernel
theorem d_BH_holds_1 : decode prog_1_method_30_code 1 = .ok (.iload_n 1, 1) := by decide +kernel
theorem d_BH_holds_2 : decode prog_1_method_30_code 2 = .ok (.ishr, 1) := by decide +kernel
theorem d_BH_holds_3 : decode prog_1_method_30_code 3 = .ok (.iconst 1, 1) := by decide +kernel
theorem d_BH_holds_4 : decode prog_1_method_30_code 4 = .ok (.iand, 1) := by decide +kernel
theorem d_BH_holds_5 : decode prog_1_method_30_code 5 = .ok (.ifCond .eq 7, 3) := by decide +kernel
theorem d_BH_holds_8 : decode prog_1_method_30_code 8 = .ok (.iconst 1, 1) := by decide +kernel
theorem d_BH_holds_9 : decode prog_1_method_30_code 9 = .ok (.goto 4, 3) := by decide +kernel
theorem d_BH_holds_12 : decode prog_1_method_30_code 12 = .ok (.iconst 0, 1) := by decide +kernel
theorem d_BH_holds_13 : decode prog_1_method_30_code 13 = .ok (.ireturn, 1) := by decide +kernel
theorem d_BH_memberAt_0 : decode prog_1_method_31_code 0 = .ok (.iconst 0, 1) := by decide +kernel
theorem d_BH_memberAt_1 : decode prog_1_method_31_code 1 = .ok (.istore_n 2, 1) := by decide +kernel
theorem d_BH_memberAt_2 : decode prog_1_method_31_code 2 = .ok (.iconst 0, 1) := by decide +kernel
theorem d_BH_memberAt_3 : decode prog_1_method_31_code 3 = .ok (.istore_n 3, 1) := by decide +kernel
theorem d_BH_memberAt_4 : decode prog_1_method_31_code 4 = .ok (.iload_n 3, 1) := by decide +kernel
theorem d_BH_memberAt_5 : decode prog_1_method_31_code 5 = .ok (.bipush 12, 2) := by decide +kernel
theorem d_BH_memberAt_7 : decode prog_1_method_31_code 7 = .ok (.if_icmp .ge 30, 3) := by decide +kernel
theorem d_BH_memberAt_10 : decode prog_1_method_31_code 10 = .ok (.iload_n 0, 1) := by decide +kernel
theorem d_BH_memberAt_11 : decode prog_1_method_31_code 11 = .ok (.iload_n 3, 1) := by decide +kernel
theorem d_BH_memberAt_12 : decode prog_1_method_31_code 12 = .ok (.invokestatic 238, 3) := by decide +kernel
theorem d_BH_memberAt_15 : decode prog_1_method_31_code 15 = .ok (.ifCond .ne 6, 3) := by decide +kernel
theorem d_BH_memberAt_18 : decode prog_1_method_31_code 18 = .ok (.goto 13, 3) := by decide +kernel
theorem d_BH_memberAt_21 : decode prog_1_method_31_code 21 = .ok (.iload_n 2, 1) := by decide +kernel
theorem d_BH_memberAt_22 : decode prog_1_method_31_code 22 = .ok (.iload_n 1, 1) := by decide +kernel
theorem d_BH_memberAt_23 : decode prog_1_method_31_code 23 = .ok (.if_icmp .ne 5, 3) := by decide +kernel
theorem d_BH_memberAt_26 : decode prog_1_method_31_code 26 = .ok (.iload_n 3, 1) := by decide +kernel
theorem d_BH_memberAt_27 : decode prog_1_method_31_code 27 = .ok (.ireturn, 1) := by decide +kernel
theorem d_BH_memberAt_28 : decode prog_1_method_31_code 28 = .ok (.iinc 2 1, 3) := by decide +kernel
theorem d_BH_memberAt_31 : decode prog_1_method_31_code 31 = .ok (.iinc 3 1, 3) := by decide +kernel
theorem d_BH_memberAt_34 : decode prog_1_method_31_code 34 = .ok (.goto (-30), 3) := by decide +kernel
theorem d_BH_memberAt_37 : decode prog_1_method_31_code 37 = .ok (.bipush (-6), 2) := by decide +kernel
theorem d_BH_memberAt_39 : decode prog_1_method_31_code 39 = .ok (.ireturn, 1) := by decide +kernel
theorem d_BH_copyRow_0 : decode prog_1_method_32_code 0 = .ok (.iconst 0, 1) := by decide +kernel
theorem d_BH_copyRow_1 : decode prog_1_method_32_code 1 = .ok (.istore_n 2, 1) := by decide +kernel
theorem d_BH_copyRow_2 : decode prog_1_method_32_code 2 = .ok (.iload_n 2, 1) := by decide +kernel
theorem d_BH_copyRow_3 : decode prog_1_method_32_code 3 = .ok (.aload_n 0, 1) := by decide +kernel
theorem d_BH_copyRow_4 : decode prog_1_method_32_code 4 = .ok (.arraylength, 1) := by decide +kernel
theorem d_BH_copyRow_5 : decode prog_1_method_32_code 5 = .ok (.if_icmp .ge 21, 3) := by decide +kernel
theorem d_BH_copyRow_8 : decode prog_1_method_32_code 8 = .ok (.iload_n 2, 1) := by decide +kernel
theorem d_BH_copyRow_9 : decode prog_1_method_32_code 9 = .ok (.aload_n 1, 1) := by decide +kernel
theorem d_BH_copyRow_10 : decode prog_1_method_32_code 10 = .ok (.arraylength, 1) := by decide +kernel
theorem d_BH_copyRow_11 : decode prog_1_method_32_code 11 = .ok (.if_icmp .ge 15, 3) := by decide +kernel
theorem d_BH_copyRow_14 : decode prog_1_method_32_code 14 = .ok (.aload_n 1, 1) := by decide +kernel
theorem d_BH_copyRow_15 : decode prog_1_method_32_code 15 = .ok (.iload_n 2, 1) := by decide +kernel
theorem d_BH_copyRow_16 : decode prog_1_method_32_code 16 = .ok (.aload_n 0, 1) := by decide +kernel
theorem d_BH_copyRow_17 : decode prog_1_method_32_code 17 = .ok (.iload_n 2, 1) := by decide +kernel
theorem d_BH_copyRow_18 : decode prog_1_method_32_code 18 = .ok (.iaload, 1) := by decide +kernel
theorem d_BH_copyRow_19 : decode prog_1_method_32_code 19 = .ok (.iastore, 1) := by decide +kernel
theorem d_BH_copyRow_20 : decode prog_1_method_32_code 20 = .ok (.iinc 2 1, 3) := by decide +kernel
theorem d_BH_copyRow_23 : decode prog_1_method_32_code 23 = .ok (.goto (-21), 3) := by decide +kernel
theorem d_BH_copyRow_26 : decode prog_1_method_32_code 26 = .ok (.return_, 1) := by decide +kernel
theorem d_Md_init_0 : decode prog_14_method_1_code 0 = .ok (.aload_n 0, 1) := by decide +kernel
theorem d_Md_init_1 : decode prog_14_method_1_code 1 = .ok (.invokespecial 1, 3) := by decide +kernel
theorem d_Md_init_4 : decode prog_14_method_1_code 4 = .ok (.aload_n 0, 1) := by decide +kernel
theorem d_Md_init_5 : decode prog_14_method_1_code 5 = .ok (.bipush 26, 2) := by decide +kernel
theorem d_Md_init_7 : decode prog_14_method_1_code 7 = .ok (.newarray .int, 2) := by decide +kernel
theorem d_Md_init_9 : decode prog_14_method_1_code 9 = .ok (.putfield 7, 3) := by decide +kernel
theorem d_Md_init_12 : decode prog_14_method_1_code 12 = .ok (.aload_n 0, 1) := by decide +kernel
theorem d_Md_init_13 : decode prog_14_method_1_code 13 = .ok (.bipush 26, 2) := by decide +kernel
theorem d_Md_init_15 : decode prog_14_method_1_code 15 = .ok (.newarray .int, 2) := by decide +kernel
theorem d_Md_init_17 : decode prog_14_method_1_code 17 = .ok (.putfield 13, 3) := by decide +kernel
theorem d_Md_init_20 : decode prog_14_method_1_code 20 = .ok (.aload_n 0, 1) := by decide +kernel
theorem d_Md_init_21 : decode prog_14_method_1_code 21 = .ok (.bipush 16, 2) := by decide +kernel
theorem d_Md_init_23 : decode prog_14_method_1_code 23 = .ok (.newarray .int, 2) := by decide +kernel
theorem d_Md_init_25 : decode prog_14_method_1_code 25 = .ok (.putfield 16, 3) := by decide +kernel
theorem d_Md_init_28 : decode prog_14_method_1_code 28 = .ok (.aload_n 0, 1) := by decide +kernel
theorem d_Md_init_29 : decode prog_14_method_1_code 29 = .ok (.bipush 60, 2) := by decide +kernel
theorem d_Md_init_31 : decode prog_14_method_1_code 31 = .ok (.newarray .int, 2) := by decide +kernel
theorem d_Md_init_33 : decode prog_14_method_1_code 33 = .ok (.putfield 19, 3) := by decide +kernel
theorem d_Md_init_36 : decode prog_14_method_1_code 36 = .ok (.aload_n 0, 1) := by decide +kernel
theorem d_Md_init_37 : decode prog_14_method_1_code 37 = .ok (.bipush 6, 2) := by decide +kernel
theorem d_Md_init_39 : decode prog_14_method_1_code 39 = .ok (.newarray .int, 2) := by decide +kernel
theorem d_Md_init_41 : decode prog_14_method_1_code 41 = .ok (.putfield 22, 3) := by decide +kernel
theorem d_Md_init_44 : decode prog_14_method_1_code 44 = .ok (.aload_n 0, 1) := by decide +kernel
theorem d_Md_init_45 : decode prog_14_method_1_code 45 = .ok (.bipush 12, 2) := by decide +kernel
theorem d_Md_init_47 : decode prog_14_method_1_code 47 = .ok (.newarray .int, 2) := by decide +kernel
theorem d_Md_init_49 : decode prog_14_method_1_code 49 = .ok (.putfield 25, 3) := by decide +kernel
theorem d_Md_init_52 : decode prog_14_method_1_code 52 = .ok (.aload_n 0, 1) := by decide +kernel
theorem d_Md_init_53 : decode prog_14_method_1_code 53 = .ok (.bipush 12, 2) := by decide +kernel
theorem d_Md_init_55 : decode prog_14_method_1_code 55 = .ok (.newarray .int, 2) := by decide +kernel
theorem d_Md_init_57 : decode prog_14_method_1_code 57 = .ok (.putfield 28, 3) := by decide +kernel
theorem d_Md_init_60 : decode prog_14_method_1_code 60 = .ok (.aload_n 0, 1) := by decide +kernel
theorem d_Md_init_61 : decode prog_14_method_1_code 61 = .ok (.sipush 1681, 3) := by decide +kernel
theorem d_Md_init_64 : decode prog_14_method_1_code 64 = .ok (.newarray .long, 2) := by decide +kernel
theorem d_Md_init_66 : decode prog_14_method_1_code 66 = .ok (.putfield 31, 3) := by decide +kernel
theorem d_Md_init_69 : decode prog_14_method_1_code 69 = .ok (.aload_n 0, 1) := by decide +kernel
theorem d_Md_init_70 : decode prog_14_method_1_code 70 = .ok (.bipush 100, 2) := by decide +kernel
theorem d_Md_init_72 : decode prog_14_method_1_code 72 = .ok (.newarray .int, 2) := by decide +kernel
theorem d_Md_init_74 : decode prog_14_method_1_code 74 = .ok (.putfield 35, 3) := by decide +kernel
theorem d_Md_init_77 : decode prog_14_method_1_code 77 = .ok (.aload_n 0, 1) := by decide +kernel
theorem d_Md_init_78 : decode prog_14_method_1_code 78 = .ok (.iconst 2, 1) := by decide +kernel
theorem d_Md_init_79 : decode prog_14_method_1_code 79 = .ok (.newarray .boolean, 2) := by decide +kernel
theorem d_Md_init_81 : decode prog_14_method_1_code 81 = .ok (.putfield 38, 3) := by decide +kernel
theorem d_Md_init_84 : decode prog_14_method_1_code 84 = .ok (.iconst 0, 1) := by decide +kernel
theorem d_Md_init_85 : decode prog_14_method_1_code 85 = .ok (.istore_n 1, 1) := by decide +kernel
theorem d_Md_init_86 : decode prog_14_method_1_code 86 = .ok (.iload_n 1, 1) := by decide +kernel
theorem d_Md_init_87 : decode prog_14_method_1_code 87 = .ok (.bipush 12, 2) := by decide +kernel
theorem d_Md_init_89 : decode prog_14_method_1_code 89 = .ok (.if_icmp .ge 29, 3) := by decide +kernel
theorem d_Md_init_92 : decode prog_14_method_1_code 92 = .ok (.aload_n 0, 1) := by decide +kernel
theorem d_Md_init_93 : decode prog_14_method_1_code 93 = .ok (.getfield 7, 3) := by decide +kernel
theorem d_Md_init_96 : decode prog_14_method_1_code 96 = .ok (.iload_n 1, 1) := by decide +kernel
theorem d_Md_init_97 : decode prog_14_method_1_code 97 = .ok (.iload_n 1, 1) := by decide +kernel
theorem d_Md_init_98 : decode prog_14_method_1_code 98 = .ok (.ifCond .ne 8, 3) := by decide +kernel
theorem d_Md_init_101 : decode prog_14_method_1_code 101 = .ok (.bipush (-6), 2) := by decide +kernel
theorem d_Md_init_103 : decode prog_14_method_1_code 103 = .ok (.goto 8, 3) := by decide +kernel
theorem d_Md_init_106 : decode prog_14_method_1_code 106 = .ok (.iload_n 1, 1) := by decide +kernel
theorem d_Md_init_107 : decode prog_14_method_1_code 107 = .ok (.iconst 1, 1) := by decide +kernel
theorem d_Md_init_108 : decode prog_14_method_1_code 108 = .ok (.isub, 1) := by decide +kernel
theorem d_Md_init_109 : decode prog_14_method_1_code 109 = .ok (.iconst 2, 1) := by decide +kernel
theorem d_Md_init_110 : decode prog_14_method_1_code 110 = .ok (.idiv, 1) := by decide +kernel
theorem d_Md_init_111 : decode prog_14_method_1_code 111 = .ok (.iastore, 1) := by decide +kernel
theorem d_Md_init_112 : decode prog_14_method_1_code 112 = .ok (.iinc 1 1, 3) := by decide +kernel
theorem d_Md_init_115 : decode prog_14_method_1_code 115 = .ok (.goto (-29), 3) := by decide +kernel
theorem d_Md_init_118 : decode prog_14_method_1_code 118 = .ok (.iconst 0, 1) := by decide +kernel
theorem d_Md_init_119 : decode prog_14_method_1_code 119 = .ok (.istore_n 1, 1) := by decide +kernel
theorem d_Md_init_120 : decode prog_14_method_1_code 120 = .ok (.iload_n 1, 1) := by decide +kernel
theorem d_Md_init_121 : decode prog_14_method_1_code 121 = .ok (.bipush 6, 2) := by decide +kernel
theorem d_Md_init_123 : decode prog_14_method_1_code 123 = .ok (.if_icmp .ge 20, 3) := by decide +kernel
theorem d_Md_init_126 : decode prog_14_method_1_code 126 = .ok (.aload_n 0, 1) := by decide +kernel
theorem d_Md_init_127 : decode prog_14_method_1_code 127 = .ok (.getfield 7, 3) := by decide +kernel
theorem d_Md_init_130 : decode prog_14_method_1_code 130 = .ok (.bipush 12, 2) := by decide +kernel
theorem d_Md_init_132 : decode prog_14_method_1_code 132 = .ok (.iload_n 1, 1) := by decide +kernel
theorem d_Md_init_133 : decode prog_14_method_1_code 133 = .ok (.iadd, 1) := by decide +kernel
theorem d_Md_init_134 : decode prog_14_method_1_code 134 = .ok (.bipush (-6), 2) := by decide +kernel
theorem d_Md_init_136 : decode prog_14_method_1_code 136 = .ok (.iastore, 1) := by decide +kernel
theorem d_Md_init_137 : decode prog_14_method_1_code 137 = .ok (.iinc 1 1, 3) := by decide +kernel
theorem d_Md_init_140 : decode prog_14_method_1_code 140 = .ok (.goto (-20), 3) := by decide +kernel
theorem d_Md_init_143 : decode prog_14_method_1_code 143 = .ok (.return_, 1) := by decide +kernel
theorem d_Md_in_0 : decode prog_14_method_2_code 0 = .ok (.iload_n 0, 1) := by decide +kernel
theorem d_Md_in_1 : decode prog_14_method_2_code 1 = .ok (.iload_n 1, 1) := by decide +kernel
theorem d_Md_in_2 : decode prog_14_method_2_code 2 = .ok (.if_icmp .lt 12, 3) := by decide +kernel
theorem d_Md_in_5 : decode prog_14_method_2_code 5 = .ok (.iload_n 0, 1) := by decide +kernel
theorem d_Md_in_6 : decode prog_14_method_2_code 6 = .ok (.iload_n 2, 1) := by decide +kernel
theorem d_Md_in_7 : decode prog_14_method_2_code 7 = .ok (.if_icmp .gt 7, 3) := by decide +kernel
theorem d_Md_in_10 : decode prog_14_method_2_code 10 = .ok (.iconst 1, 1) := by decide +kernel
theorem d_Md_in_11 : decode prog_14_method_2_code 11 = .ok (.goto 4, 3) := by decide +kernel
theorem d_Md_in_14 : decode prog_14_method_2_code 14 = .ok (.iconst 0, 1) := by decide +kernel
theorem d_Md_in_15 : decode prog_14_method_2_code 15 = .ok (.ireturn, 1) := by decide +kernel
theorem d_Md_has_0 : decode prog_14_method_3_code 0 = .ok (.iload_n 0, 1) := by decide +kernel
theorem d_Md_has_1 : decode prog_14_method_3_code 1 = .ok (.iload_n 1, 1) := by decide +kernel
theorem d_Md_has_2 : decode prog_14_method_3_code 2 = .ok (.ishr, 1) := by decide +kernel
theorem d_Md_has_3 : decode prog_14_method_3_code 3 = .ok (.iconst 1, 1) := by decide +kernel
theorem d_Md_has_4 : decode prog_14_method_3_code 4 = .ok (.iand, 1) := by decide +kernel
theorem d_Md_has_5 : decode prog_14_method_3_code 5 = .ok (.iconst 1, 1) := by decide +kernel
theorem d_Md_has_6 : decode prog_14_method_3_code 6 = .ok (.if_icmp .ne 7, 3) := by decide +kernel
theorem d_Md_has_9 : decode prog_14_method_3_code 9 = .ok (.iconst 1, 1) := by decide +kernel
theorem d_Md_has_10 : decode prog_14_method_3_code 10 = .ok (.goto 4, 3) := by decide +kernel
theorem d_Md_has_13 : decode prog_14_method_3_code 13 = .ok (.iconst 0, 1) := by decide +kernel
theorem d_Md_has_14 : decode prog_14_method_3_code 14 = .ok (.ireturn, 1) := by decide +kernel
theorem d_Md_bits_0 : decode prog_14_method_4_code 0 = .ok (.iconst 0, 1) := by decide +kernel
theorem d_Md_bits_1 : decode prog_14_method_4_code 1 = .ok (.istore_n 1, 1) := by decide +kernel
theorem d_Md_bits_2 : decode prog_14_method_4_code 2 = .ok (.iconst 0, 1) := by decide +kernel
theorem d_Md_bits_3 : decode prog_14_method_4_code 3 = .ok (.istore_n 2, 1) := by decide +kernel
theorem d_Md_bits_4 : decode prog_14_method_4_code 4 = .ok (.iload_n 2, 1) := by decide +kernel
theorem d_Md_bits_5 : decode prog_14_method_4_code 5 = .ok (.bipush 12, 2) := by decide +kernel
theorem d_Md_bits_7 : decode prog_14_method_4_code 7 = .ok (.if_icmp .ge 17, 3) := by decide +kernel
theorem d_Md_bits_10 : decode prog_14_method_4_code 10 = .ok (.iload_n 1, 1) := by decide +kernel
theorem d_Md_bits_11 : decode prog_14_method_4_code 11 = .ok (.iload_n 0, 1) := by decide +kernel
theorem d_Md_bits_12 : decode prog_14_method_4_code 12 = .ok (.iload_n 2, 1) := by decide +kernel
theorem d_Md_bits_13 : decode prog_14_method_4_code 13 = .ok (.ishr, 1) := by decide +kernel
theorem d_Md_bits_14 : decode prog_14_method_4_code 14 = .ok (.iconst 1, 1) := by decide +kernel
theorem d_Md_bits_15 : decode prog_14_method_4_code 15 = .ok (.iand, 1) := by decide +kernel
theorem d_Md_bits_16 : decode prog_14_method_4_code 16 = .ok (.iadd, 1) := by decide +kernel
theorem d_Md_bits_17 : decode prog_14_method_4_code 17 = .ok (.istore_n 1, 1) := by decide +kernel
theorem d_Md_bits_18 : decode prog_14_method_4_code 18 = .ok (.iinc 2 1, 3) := by decide +kernel
theorem d_Md_bits_21 : decode prog_14_method_4_code 21 = .ok (.goto (-17), 3) := by decide +kernel
theorem d_Md_bits_24 : decode prog_14_method_4_code 24 = .ok (.iload_n 1, 1) := by decide +kernel
theorem d_Md_bits_25 : decode prog_14_method_4_code 25 = .ok (.ireturn, 1) := by decide +kernel
theorem d_Md_branch_0 : decode prog_14_method_5_code 0 = .ok (.iload_n 1, 1) := by decide +kernel
theorem d_Md_branch_1 : decode prog_14_method_5_code 1 = .ok (.iconst 1, 1) := by decide +kernel
theorem d_Md_branch_2 : decode prog_14_method_5_code 2 = .ok (.bipush 11, 2) := by decide +kernel
theorem d_Md_branch_4 : decode prog_14_method_5_code 4 = .ok (.invokestatic 42, 3) := by decide +kernel
theorem d_Md_branch_7 : decode prog_14_method_5_code 7 = .ok (.ifCond .eq 13, 3) := by decide +kernel
theorem d_Md_branch_10 : decode prog_14_method_5_code 10 = .ok (.iload_n 2, 1) := by decide +kernel
theorem d_Md_branch_11 : decode prog_14_method_5_code 11 = .ok (.iconst 0, 1) := by decide +kernel
theorem d_Md_branch_12 : decode prog_14_method_5_code 12 = .ok (.bipush 11, 2) := by decide +kernel
theorem d_Md_branch_14 : decode prog_14_method_5_code 14 = .ok (.invokestatic 42, 3) := by decide +kernel
theorem d_Md_branch_17 : decode prog_14_method_5_code 17 = .ok (.ifCond .ne 5, 3) := by decide +kernel
theorem d_Md_branch_20 : decode prog_14_method_5_code 20 = .ok (.iconst (-1), 1) := by decide +kernel
theorem d_Md_branch_21 : decode prog_14_method_5_code 21 = .ok (.ireturn, 1) := by decide +kernel
theorem d_Md_branch_22 : decode prog_14_method_5_code 22 = .ok (.iload_n 2, 1) := by decide +kernel
theorem d_Md_branch_23 : decode prog_14_method_5_code 23 = .ok (.iload_n 1, 1) := by decide +kernel
theorem d_Md_branch_24 : decode prog_14_method_5_code 24 = .ok (.if_icmp .lt 6, 3) := by decide +kernel
theorem d_Md_branch_27 : decode prog_14_method_5_code 27 = .ok (.bipush (-2), 2) := by decide +kernel
theorem d_Md_branch_29 : decode prog_14_method_5_code 29 = .ok (.ireturn, 1) := by decide +kernel
theorem d_Md_branch_30 : decode prog_14_method_5_code 30 = .ok (.aload_n 0, 1) := by decide +kernel
theorem d_Md_branch_31 : decode prog_14_method_5_code 31 = .ok (.getfield 7, 3) := by decide +kernel
theorem d_Md_branch_34 : decode prog_14_method_5_code 34 = .ok (.iload_n 1, 1) := by decide +kernel
theorem d_Md_branch_35 : decode prog_14_method_5_code 35 = .ok (.iaload, 1) := by decide +kernel
theorem d_Md_branch_36 : decode prog_14_method_5_code 36 = .ok (.istore_n 3, 1) := by decide +kernel
theorem d_Md_branch_37 : decode prog_14_method_5_code 37 = .ok (.aload_n 0, 1) := by decide +kernel
theorem d_Md_branch_38 : decode prog_14_method_5_code 38 = .ok (.getfield 7, 3) := by decide +kernel
theorem d_Md_branch_41 : decode prog_14_method_5_code 41 = .ok (.iload_n 1, 1) := by decide +kernel
theorem d_Md_branch_42 : decode prog_14_method_5_code 42 = .ok (.iload_n 2, 1) := by decide +kernel
theorem d_Md_branch_43 : decode prog_14_method_5_code 43 = .ok (.iastore, 1) := by decide +kernel
theorem d_Md_branch_44 : decode prog_14_method_5_code 44 = .ok (.iload_n 3, 1) := by decide +kernel
theorem d_Md_branch_45 : decode prog_14_method_5_code 45 = .ok (.ireturn, 1) := by decide +kernel
theorem d_Md_ball_0 : decode prog_14_method_6_code 0 = .ok (.iload_n 1, 1) := by decide +kernel
theorem d_Md_ball_1 : decode prog_14_method_6_code 1 = .ok (.iconst 0, 1) := by decide +kernel
theorem d_Md_ball_2 : decode prog_14_method_6_code 2 = .ok (.iconst 5, 1) := by decide +kernel
theorem d_Md_ball_3 : decode prog_14_method_6_code 3 = .ok (.invokestatic 42, 3) := by decide +kernel
theorem d_Md_ball_6 : decode prog_14_method_6_code 6 = .ok (.ifCond .eq 13, 3) := by decide +kernel
theorem d_Md_ball_9 : decode prog_14_method_6_code 9 = .ok (.iload_n 2, 1) := by decide +kernel
theorem d_Md_ball_10 : decode prog_14_method_6_code 10 = .ok (.iconst (-1), 1) := by decide +kernel
theorem d_Md_ball_11 : decode prog_14_method_6_code 11 = .ok (.bipush 11, 2) := by decide +kernel
theorem d_Md_ball_13 : decode prog_14_method_6_code 13 = .ok (.invokestatic 42, 3) := by decide +kernel
theorem d_Md_ball_16 : decode prog_14_method_6_code 16 = .ok (.ifCond .ne 5, 3) := by decide +kernel
theorem d_Md_ball_19 : decode prog_14_method_6_code 19 = .ok (.iconst (-1), 1) := by decide +kernel
theorem d_Md_ball_20 : decode prog_14_method_6_code 20 = .ok (.ireturn, 1) := by decide +kernel
theorem d_Md_ball_21 : decode prog_14_method_6_code 21 = .ok (.iload_n 3, 1) := by decide +kernel
theorem d_Md_ball_22 : decode prog_14_method_6_code 22 = .ok (.iconst 0, 1) := by decide +kernel
theorem d_Md_ball_23 : decode prog_14_method_6_code 23 = .ok (.bipush 8, 2) := by decide +kernel
theorem d_Md_ball_25 : decode prog_14_method_6_code 25 = .ok (.invokestatic 42, 3) := by decide +kernel
theorem d_Md_ball_28 : decode prog_14_method_6_code 28 = .ok (.ifCond .ne 6, 3) := by decide +kernel
theorem d_Md_ball_31 : decode prog_14_method_6_code 31 = .ok (.bipush (-2), 2) := by decide +kernel
theorem d_Md_ball_33 : decode prog_14_method_6_code 33 = .ok (.ireturn, 1) := by decide +kernel
theorem d_Md_ball_34 : decode prog_14_method_6_code 34 = .ok (.aload_n 0, 1) := by decide +kernel
theorem d_Md_ball_35 : decode prog_14_method_6_code 35 = .ok (.invokevirtual 46, 3) := by decide +kernel
theorem d_Md_ball_38 : decode prog_14_method_6_code 38 = .ok (.iload_n 2, 1) := by decide +kernel
theorem d_Md_ball_39 : decode prog_14_method_6_code 39 = .ok (.ifCond .ge 7, 3) := by decide +kernel
theorem d_Md_ball_42 : decode prog_14_method_6_code 42 = .ok (.iload_n 1, 1) := by decide +kernel
theorem d_Md_ball_43 : decode prog_14_method_6_code 43 = .ok (.goto 8, 3) := by decide +kernel
theorem d_Md_ball_46 : decode prog_14_method_6_code 46 = .ok (.aload_n 0, 1) := by decide +kernel
theorem d_Md_ball_47 : decode prog_14_method_6_code 47 = .ok (.iload_n 2, 1) := by decide +kernel
theorem d_Md_ball_48 : decode prog_14_method_6_code 48 = .ok (.invokevirtual 49, 3) := by decide +kernel
theorem d_Md_ball_51 : decode prog_14_method_6_code 51 = .ok (.istore 4, 2) := by decide +kernel
theorem d_Md_ball_53 : decode prog_14_method_6_code 53 = .ok (.iload 4, 2) := by decide +kernel
theorem d_Md_ball_55 : decode prog_14_method_6_code 55 = .ok (.ifCond .lt 12, 3) := by decide +kernel
theorem d_Md_ball_58 : decode prog_14_method_6_code 58 = .ok (.iload 4, 2) := by decide +kernel
theorem d_Md_ball_60 : decode prog_14_method_6_code 60 = .ok (.iload_n 1, 1) := by decide +kernel
theorem d_Md_ball_61 : decode prog_14_method_6_code 61 = .ok (.if_icmp .eq 6, 3) := by decide +kernel
theorem d_Md_ball_64 : decode prog_14_method_6_code 64 = .ok (.bipush (-3), 2) := by decide +kernel
theorem d_Md_ball_66 : decode prog_14_method_6_code 66 = .ok (.ireturn, 1) := by decide +kernel
theorem d_Md_ball_67 : decode prog_14_method_6_code 67 = .ok (.aload_n 0, 1) := by decide +kernel
theorem d_Md_ball_68 : decode prog_14_method_6_code 68 = .ok (.getfield 7, 3) := by decide +kernel
theorem d_Md_ball_71 : decode prog_14_method_6_code 71 = .ok (.bipush 12, 2) := by decide +kernel
theorem d_Md_ball_73 : decode prog_14_method_6_code 73 = .ok (.iload_n 1, 1) := by decide +kernel
theorem d_Md_ball_74 : decode prog_14_method_6_code 74 = .ok (.iadd, 1) := by decide +kernel
theorem d_Md_ball_75 : decode prog_14_method_6_code 75 = .ok (.iaload, 1) := by decide +kernel
theorem d_Md_ball_76 : decode prog_14_method_6_code 76 = .ok (.istore 5, 2) := by decide +kernel
theorem d_Md_ball_78 : decode prog_14_method_6_code 78 = .ok (.aload_n 0, 1) := by decide +kernel
theorem d_Md_ball_79 : decode prog_14_method_6_code 79 = .ok (.getfield 7, 3) := by decide +kernel
theorem d_Md_ball_82 : decode prog_14_method_6_code 82 = .ok (.bipush 12, 2) := by decide +kernel
theorem d_Md_ball_84 : decode prog_14_method_6_code 84 = .ok (.iload_n 1, 1) := by decide +kernel
theorem d_Md_ball_85 : decode prog_14_method_6_code 85 = .ok (.iadd, 1) := by decide +kernel
theorem d_Md_ball_86 : decode prog_14_method_6_code 86 = .ok (.iload_n 2, 1) := by decide +kernel
theorem d_Md_ball_87 : decode prog_14_method_6_code 87 = .ok (.ifCond .ge 8, 3) := by decide +kernel
theorem d_Md_ball_90 : decode prog_14_method_6_code 90 = .ok (.bipush (-6), 2) := by decide +kernel
theorem d_Md_ball_92 : decode prog_14_method_6_code 92 = .ok (.goto 4, 3) := by decide +kernel
theorem d_Md_ball_95 : decode prog_14_method_6_code 95 = .ok (.iload_n 2, 1) := by decide +kernel
theorem d_Md_ball_96 : decode prog_14_method_6_code 96 = .ok (.iastore, 1) := by decide +kernel
theorem d_Md_ball_97 : decode prog_14_method_6_code 97 = .ok (.aload_n 0, 1) := by decide +kernel
theorem d_Md_ball_98 : decode prog_14_method_6_code 98 = .ok (.getfield 7, 3) := by decide +kernel
theorem d_Md_ball_101 : decode prog_14_method_6_code 101 = .ok (.bipush 18, 2) := by decide +kernel
theorem d_Md_ball_103 : decode prog_14_method_6_code 103 = .ok (.iload_n 1, 1) := by decide +kernel
theorem d_Md_ball_104 : decode prog_14_method_6_code 104 = .ok (.iadd, 1) := by decide +kernel
theorem d_Md_ball_105 : decode prog_14_method_6_code 105 = .ok (.iload_n 3, 1) := by decide +kernel
theorem d_Md_ball_106 : decode prog_14_method_6_code 106 = .ok (.iastore, 1) := by decide +kernel
theorem d_Md_ball_107 : decode prog_14_method_6_code 107 = .ok (.aload_n 0, 1) := by decide +kernel
theorem d_Md_ball_108 : decode prog_14_method_6_code 108 = .ok (.getfield 7, 3) := by decide +kernel
theorem d_Md_ball_111 : decode prog_14_method_6_code 111 = .ok (.bipush 24, 2) := by decide +kernel
theorem d_Md_ball_113 : decode prog_14_method_6_code 113 = .ok (.dup2, 1) := by decide +kernel
theorem d_Md_ball_114 : decode prog_14_method_6_code 114 = .ok (.iaload, 1) := by decide +kernel
theorem d_Md_ball_115 : decode prog_14_method_6_code 115 = .ok (.iconst 1, 1) := by decide +kernel
theorem d_Md_ball_116 : decode prog_14_method_6_code 116 = .ok (.iload_n 1, 1) := by decide +kernel
theorem d_Md_ball_117 : decode prog_14_method_6_code 117 = .ok (.ishl, 1) := by decide +kernel
theorem d_Md_ball_118 : decode prog_14_method_6_code 118 = .ok (.iconst (-1), 1) := by decide +kernel
theorem d_Md_ball_119 : decode prog_14_method_6_code 119 = .ok (.ixor, 1) := by decide +kernel
theorem d_Md_ball_120 : decode prog_14_method_6_code 120 = .ok (.iand, 1) := by decide +kernel
theorem d_Md_ball_121 : decode prog_14_method_6_code 121 = .ok (.iastore, 1) := by decide +kernel
theorem d_Md_ball_122 : decode prog_14_method_6_code 122 = .ok (.iload 5, 2) := by decide +kernel
theorem d_Md_ball_124 : decode prog_14_method_6_code 124 = .ok (.ireturn, 1) := by decide +kernel
theorem d_Md_say_0 : decode prog_14_method_7_code 0 = .ok (.iload_n 1, 1) := by decide +kernel
theorem d_Md_say_1 : decode prog_14_method_7_code 1 = .ok (.bipush 33, 2) := by decide +kernel
theorem d_Md_say_3 : decode prog_14_method_7_code 3 = .ok (.bipush 126, 2) := by decide +kernel
theorem d_Md_say_5 : decode prog_14_method_7_code 5 = .ok (.invokestatic 42, 3) := by decide +kernel
theorem d_Md_say_8 : decode prog_14_method_7_code 8 = .ok (.ifCond .ne 6, 3) := by decide +kernel
theorem d_Md_say_11 : decode prog_14_method_7_code 11 = .ok (.bipush (-2), 2) := by decide +kernel
theorem d_Md_say_13 : decode prog_14_method_7_code 13 = .ok (.ireturn, 1) := by decide +kernel
theorem d_Md_say_14 : decode prog_14_method_7_code 14 = .ok (.aload_n 0, 1) := by decide +kernel
theorem d_Md_say_15 : decode prog_14_method_7_code 15 = .ok (.getfield 53, 3) := by decide +kernel
theorem d_Md_say_18 : decode prog_14_method_7_code 18 = .ok (.bipush 60, 2) := by decide +kernel
theorem d_Md_say_20 : decode prog_14_method_7_code 20 = .ok (.if_icmp .ne 6, 3) := by decide +kernel
theorem d_Md_say_23 : decode prog_14_method_7_code 23 = .ok (.bipush (-4), 2) := by decide +kernel
theorem d_Md_say_25 : decode prog_14_method_7_code 25 = .ok (.ireturn, 1) := by decide +kernel
theorem d_Md_say_26 : decode prog_14_method_7_code 26 = .ok (.aload_n 0, 1) := by decide +kernel
theorem d_Md_say_27 : decode prog_14_method_7_code 27 = .ok (.getfield 19, 3) := by decide +kernel
theorem d_Md_say_30 : decode prog_14_method_7_code 30 = .ok (.aload_n 0, 1) := by decide +kernel
theorem d_Md_say_31 : decode prog_14_method_7_code 31 = .ok (.getfield 53, 3) := by decide +kernel
theorem d_Md_say_34 : decode prog_14_method_7_code 34 = .ok (.iload_n 1, 1) := by decide +kernel
theorem d_Md_say_35 : decode prog_14_method_7_code 35 = .ok (.iastore, 1) := by decide +kernel
theorem d_Md_say_36 : decode prog_14_method_7_code 36 = .ok (.aload_n 0, 1) := by decide +kernel
theorem d_Md_say_37 : decode prog_14_method_7_code 37 = .ok (.dup, 1) := by decide +kernel
theorem d_Md_say_38 : decode prog_14_method_7_code 38 = .ok (.getfield 53, 3) := by decide +kernel
theorem d_Md_say_41 : decode prog_14_method_7_code 41 = .ok (.iconst 1, 1) := by decide +kernel
theorem d_Md_say_42 : decode prog_14_method_7_code 42 = .ok (.iadd, 1) := by decide +kernel
theorem d_Md_say_43 : decode prog_14_method_7_code 43 = .ok (.putfield 53, 3) := by decide +kernel
theorem d_Md_say_46 : decode prog_14_method_7_code 46 = .ok (.aload_n 0, 1) := by decide +kernel
theorem d_Md_say_47 : decode prog_14_method_7_code 47 = .ok (.getfield 53, 3) := by decide +kernel
theorem d_Md_say_50 : decode prog_14_method_7_code 50 = .ok (.ireturn, 1) := by decide +kernel
theorem d_Md_wipe_0 : decode prog_14_method_8_code 0 = .ok (.aload_n 0, 1) := by decide +kernel
theorem d_Md_wipe_1 : decode prog_14_method_8_code 1 = .ok (.getfield 53, 3) := by decide +kernel
theorem d_Md_wipe_4 : decode prog_14_method_8_code 4 = .ok (.istore_n 1, 1) := by decide +kernel
theorem d_Md_wipe_5 : decode prog_14_method_8_code 5 = .ok (.aload_n 0, 1) := by decide +kernel
theorem d_Md_wipe_6 : decode prog_14_method_8_code 6 = .ok (.iconst 0, 1) := by decide +kernel
theorem d_Md_wipe_7 : decode prog_14_method_8_code 7 = .ok (.putfield 53, 3) := by decide +kernel
theorem d_Md_wipe_10 : decode prog_14_method_8_code 10 = .ok (.iload_n 1, 1) := by decide +kernel
theorem d_Md_wipe_11 : decode prog_14_method_8_code 11 = .ok (.ireturn, 1) := by decide +kernel
theorem d_Md_step_0 : decode prog_14_method_9_code 0 = .ok (.iload_n 1, 1) := by decide +kernel
theorem d_Md_step_1 : decode prog_14_method_9_code 1 = .ok (.bipush 97, 2) := by decide +kernel
theorem d_Md_step_3 : decode prog_14_method_9_code 3 = .ok (.bipush 108, 2) := by decide +kernel
theorem d_Md_step_5 : decode prog_14_method_9_code 5 = .ok (.invokestatic 42, 3) := by decide +kernel
theorem d_Md_step_8 : decode prog_14_method_9_code 8 = .ok (.istore_n 2, 1) := by decide +kernel
theorem d_Md_step_9 : decode prog_14_method_9_code 9 = .ok (.iload_n 0, 1) := by decide +kernel
theorem d_Md_step_10 : decode prog_14_method_9_code 10 = .ok (.tableswitch 109 0 2 #[26, 74, 91], 26) := by decide +kernel
theorem d_Md_step_36 : decode prog_14_method_9_code 36 = .ok (.iload_n 1, 1) := by decide +kernel
theorem d_Md_step_37 : decode prog_14_method_9_code 37 = .ok (.bipush 65, 2) := by decide +kernel
theorem d_Md_step_39 : decode prog_14_method_9_code 39 = .ok (.bipush 70, 2) := by decide +kernel
theorem d_Md_step_41 : decode prog_14_method_9_code 41 = .ok (.invokestatic 42, 3) := by decide +kernel
theorem d_Md_step_44 : decode prog_14_method_9_code 44 = .ok (.ifCond .eq 7, 3) := by decide +kernel
theorem d_Md_step_47 : decode prog_14_method_9_code 47 = .ok (.iconst 1, 1) := by decide +kernel
theorem d_Md_step_48 : decode prog_14_method_9_code 48 = .ok (.goto 35, 3) := by decide +kernel
theorem d_Md_step_51 : decode prog_14_method_9_code 51 = .ok (.iload_n 1, 1) := by decide +kernel
theorem d_Md_step_52 : decode prog_14_method_9_code 52 = .ok (.bipush 100, 2) := by decide +kernel
theorem d_Md_step_54 : decode prog_14_method_9_code 54 = .ok (.if_icmp .ne 7, 3) := by decide +kernel
theorem d_Md_step_57 : decode prog_14_method_9_code 57 = .ok (.iconst 2, 1) := by decide +kernel
theorem d_Md_step_58 : decode prog_14_method_9_code 58 = .ok (.goto 25, 3) := by decide +kernel
theorem d_Md_step_61 : decode prog_14_method_9_code 61 = .ok (.iload_n 1, 1) := by decide +kernel
theorem d_Md_step_62 : decode prog_14_method_9_code 62 = .ok (.bipush 98, 2) := by decide +kernel
theorem d_Md_step_64 : decode prog_14_method_9_code 64 = .ok (.if_icmp .ne 7, 3) := by decide +kernel
theorem d_Md_step_67 : decode prog_14_method_9_code 67 = .ok (.iconst 3, 1) := by decide +kernel
theorem d_Md_step_68 : decode prog_14_method_9_code 68 = .ok (.goto 15, 3) := by decide +kernel
theorem d_Md_step_71 : decode prog_14_method_9_code 71 = .ok (.iload_n 1, 1) := by decide +kernel
theorem d_Md_step_72 : decode prog_14_method_9_code 72 = .ok (.bipush 46, 2) := by decide +kernel
theorem d_Md_step_74 : decode prog_14_method_9_code 74 = .ok (.if_icmp .ne 7, 3) := by decide +kernel
theorem d_Md_step_77 : decode prog_14_method_9_code 77 = .ok (.iconst 0, 1) := by decide +kernel
theorem d_Md_step_78 : decode prog_14_method_9_code 78 = .ok (.goto 5, 3) := by decide +kernel
theorem d_Md_step_81 : decode prog_14_method_9_code 81 = .ok (.bipush (-6), 2) := by decide +kernel
theorem d_Md_step_83 : decode prog_14_method_9_code 83 = .ok (.ireturn, 1) := by decide +kernel
theorem d_Md_step_84 : decode prog_14_method_9_code 84 = .ok (.iload_n 2, 1) := by decide +kernel
theorem d_Md_step_85 : decode prog_14_method_9_code 85 = .ok (.ifCond .ne 9, 3) := by decide +kernel
theorem d_Md_step_88 : decode prog_14_method_9_code 88 = .ok (.iload_n 1, 1) := by decide +kernel
theorem d_Md_step_89 : decode prog_14_method_9_code 89 = .ok (.bipush 95, 2) := by decide +kernel
theorem d_Md_step_91 : decode prog_14_method_9_code 91 = .ok (.if_icmp .ne 7, 3) := by decide +kernel
theorem d_Md_step_94 : decode prog_14_method_9_code 94 = .ok (.iconst 0, 1) := by decide +kernel
theorem d_Md_step_95 : decode prog_14_method_9_code 95 = .ok (.goto 5, 3) := by decide +kernel
theorem d_Md_step_98 : decode prog_14_method_9_code 98 = .ok (.bipush (-6), 2) := by decide +kernel
theorem d_Md_step_100 : decode prog_14_method_9_code 100 = .ok (.ireturn, 1) := by decide +kernel
theorem d_Md_step_101 : decode prog_14_method_9_code 101 = .ok (.iload_n 1, 1) := by decide +kernel
theorem d_Md_step_102 : decode prog_14_method_9_code 102 = .ok (.bipush 49, 2) := by decide +kernel
theorem d_Md_step_104 : decode prog_14_method_9_code 104 = .ok (.bipush 57, 2) := by decide +kernel
theorem d_Md_step_106 : decode prog_14_method_9_code 106 = .ok (.invokestatic 42, 3) := by decide +kernel
theorem d_Md_step_109 : decode prog_14_method_9_code 109 = .ok (.ifCond .eq 7, 3) := by decide +kernel
theorem d_Md_step_112 : decode prog_14_method_9_code 112 = .ok (.iconst 0, 1) := by decide +kernel
theorem d_Md_step_113 : decode prog_14_method_9_code 113 = .ok (.goto 5, 3) := by decide +kernel
theorem d_Md_step_116 : decode prog_14_method_9_code 116 = .ok (.bipush (-6), 2) := by decide +kernel
theorem d_Md_step_118 : decode prog_14_method_9_code 118 = .ok (.ireturn, 1) := by decide +kernel
theorem d_Md_step_119 : decode prog_14_method_9_code 119 = .ok (.iload_n 2, 1) := by decide +kernel
theorem d_Md_step_120 : decode prog_14_method_9_code 120 = .ok (.ifCond .ne 8, 3) := by decide +kernel
theorem d_Md_step_123 : decode prog_14_method_9_code 123 = .ok (.bipush (-6), 2) := by decide +kernel
theorem d_Md_step_125 : decode prog_14_method_9_code 125 = .ok (.goto 13, 3) := by decide +kernel
theorem d_Md_step_128 : decode prog_14_method_9_code 128 = .ok (.iload_n 0, 1) := by decide +kernel
theorem d_Md_step_129 : decode prog_14_method_9_code 129 = .ok (.iconst 3, 1) := by decide +kernel
theorem d_Md_step_130 : decode prog_14_method_9_code 130 = .ok (.if_icmp .ne 7, 3) := by decide +kernel
theorem d_Md_step_133 : decode prog_14_method_9_code 133 = .ok (.iconst 4, 1) := by decide +kernel
theorem d_Md_step_134 : decode prog_14_method_9_code 134 = .ok (.goto 4, 3) := by decide +kernel
theorem d_Md_step_137 : decode prog_14_method_9_code 137 = .ok (.iconst 0, 1) := by decide +kernel
theorem d_Md_step_138 : decode prog_14_method_9_code 138 = .ok (.ireturn, 1) := by decide +kernel
theorem d_Md_faultOf_0 : decode prog_14_method_10_code 0 = .ok (.iconst 0, 1) := by decide +kernel
theorem d_Md_faultOf_1 : decode prog_14_method_10_code 1 = .ok (.istore_n 1, 1) := by decide +kernel
theorem d_Md_faultOf_2 : decode prog_14_method_10_code 2 = .ok (.iconst 0, 1) := by decide +kernel
theorem d_Md_faultOf_3 : decode prog_14_method_10_code 3 = .ok (.istore_n 2, 1) := by decide +kernel
theorem d_Md_faultOf_4 : decode prog_14_method_10_code 4 = .ok (.iload_n 2, 1) := by decide +kernel
theorem d_Md_faultOf_5 : decode prog_14_method_10_code 5 = .ok (.aload_n 0, 1) := by decide +kernel
theorem d_Md_faultOf_6 : decode prog_14_method_10_code 6 = .ok (.getfield 53, 3) := by decide +kernel
theorem d_Md_faultOf_9 : decode prog_14_method_10_code 9 = .ok (.if_icmp .ge 26, 3) := by decide +kernel
theorem d_Md_faultOf_12 : decode prog_14_method_10_code 12 = .ok (.iload_n 1, 1) := by decide +kernel
theorem d_Md_faultOf_13 : decode prog_14_method_10_code 13 = .ok (.aload_n 0, 1) := by decide +kernel
theorem d_Md_faultOf_14 : decode prog_14_method_10_code 14 = .ok (.getfield 19, 3) := by decide +kernel
theorem d_Md_faultOf_17 : decode prog_14_method_10_code 17 = .ok (.iload_n 2, 1) := by decide +kernel
theorem d_Md_faultOf_18 : decode prog_14_method_10_code 18 = .ok (.iaload, 1) := by decide +kernel
theorem d_Md_faultOf_19 : decode prog_14_method_10_code 19 = .ok (.invokestatic 57, 3) := by decide +kernel
theorem d_Md_faultOf_22 : decode prog_14_method_10_code 22 = .ok (.istore_n 1, 1) := by decide +kernel
theorem d_Md_faultOf_23 : decode prog_14_method_10_code 23 = .ok (.iload_n 1, 1) := by decide +kernel
theorem d_Md_faultOf_24 : decode prog_14_method_10_code 24 = .ok (.ifCond .ge 5, 3) := by decide +kernel
theorem d_Md_faultOf_27 : decode prog_14_method_10_code 27 = .ok (.iload_n 2, 1) := by decide +kernel
theorem d_Md_faultOf_28 : decode prog_14_method_10_code 28 = .ok (.ireturn, 1) := by decide +kernel
theorem d_Md_faultOf_29 : decode prog_14_method_10_code 29 = .ok (.iinc 2 1, 3) := by decide +kernel
theorem d_Md_faultOf_32 : decode prog_14_method_10_code 32 = .ok (.goto (-28), 3) := by decide +kernel
theorem d_Md_faultOf_35 : decode prog_14_method_10_code 35 = .ok (.iload_n 1, 1) := by decide +kernel
theorem d_Md_faultOf_36 : decode prog_14_method_10_code 36 = .ok (.ifCond .ne 8, 3) := by decide +kernel
theorem d_Md_faultOf_39 : decode prog_14_method_10_code 39 = .ok (.bipush (-6), 2) := by decide +kernel
theorem d_Md_faultOf_41 : decode prog_14_method_10_code 41 = .ok (.goto 7, 3) := by decide +kernel
theorem d_Md_faultOf_44 : decode prog_14_method_10_code 44 = .ok (.aload_n 0, 1) := by decide +kernel
theorem d_Md_faultOf_45 : decode prog_14_method_10_code 45 = .ok (.getfield 53, 3) := by decide +kernel
theorem d_Md_faultOf_48 : decode prog_14_method_10_code 48 = .ok (.ireturn, 1) := by decide +kernel
theorem d_Md_fault_0 : decode prog_14_method_11_code 0 = .ok (.aload_n 0, 1) := by decide +kernel
theorem d_Md_fault_1 : decode prog_14_method_11_code 1 = .ok (.invokevirtual 61, 3) := by decide +kernel
theorem d_Md_fault_4 : decode prog_14_method_11_code 4 = .ok (.ireturn, 1) := by decide +kernel
theorem d_Md_asNow_0 : decode prog_14_method_12_code 0 = .ok (.iconst 0, 1) := by decide +kernel
theorem d_Md_asNow_1 : decode prog_14_method_12_code 1 = .ok (.istore_n 1, 1) := by decide +kernel
theorem d_Md_asNow_2 : decode prog_14_method_12_code 2 = .ok (.iload_n 1, 1) := by decide +kernel
theorem d_Md_asNow_3 : decode prog_14_method_12_code 3 = .ok (.bipush 26, 2) := by decide +kernel
theorem d_Md_asNow_5 : decode prog_14_method_12_code 5 = .ok (.if_icmp .ge 21, 3) := by decide +kernel
theorem d_Md_asNow_8 : decode prog_14_method_12_code 8 = .ok (.aload_n 0, 1) := by decide +kernel
theorem d_Md_asNow_9 : decode prog_14_method_12_code 9 = .ok (.getfield 13, 3) := by decide +kernel
theorem d_Md_asNow_12 : decode prog_14_method_12_code 12 = .ok (.iload_n 1, 1) := by decide +kernel
theorem d_Md_asNow_13 : decode prog_14_method_12_code 13 = .ok (.aload_n 0, 1) := by decide +kernel
theorem d_Md_asNow_14 : decode prog_14_method_12_code 14 = .ok (.getfield 7, 3) := by decide +kernel
theorem d_Md_asNow_17 : decode prog_14_method_12_code 17 = .ok (.iload_n 1, 1) := by decide +kernel
theorem d_Md_asNow_18 : decode prog_14_method_12_code 18 = .ok (.iaload, 1) := by decide +kernel
theorem d_Md_asNow_19 : decode prog_14_method_12_code 19 = .ok (.iastore, 1) := by decide +kernel
theorem d_Md_asNow_20 : decode prog_14_method_12_code 20 = .ok (.iinc 1 1, 3) := by decide +kernel
theorem d_Md_asNow_23 : decode prog_14_method_12_code 23 = .ok (.goto (-21), 3) := by decide +kernel
theorem d_Md_asNow_26 : decode prog_14_method_12_code 26 = .ok (.aload_n 0, 1) := by decide +kernel
theorem d_Md_asNow_27 : decode prog_14_method_12_code 27 = .ok (.iconst 0, 1) := by decide +kernel
theorem d_Md_asNow_28 : decode prog_14_method_12_code 28 = .ok (.putfield 65, 3) := by decide +kernel
theorem d_Md_asNow_31 : decode prog_14_method_12_code 31 = .ok (.aload_n 0, 1) := by decide +kernel
theorem d_Md_asNow_32 : decode prog_14_method_12_code 32 = .ok (.bipush (-6), 2) := by decide +kernel
theorem d_Md_asNow_34 : decode prog_14_method_12_code 34 = .ok (.putfield 68, 3) := by decide +kernel
theorem d_Md_asNow_37 : decode prog_14_method_12_code 37 = .ok (.aload_n 0, 1) := by decide +kernel
theorem d_Md_asNow_38 : decode prog_14_method_12_code 38 = .ok (.bipush (-6), 2) := by decide +kernel
theorem d_Md_asNow_40 : decode prog_14_method_12_code 40 = .ok (.putfield 71, 3) := by decide +kernel
theorem d_Md_asNow_43 : decode prog_14_method_12_code 43 = .ok (.return_, 1) := by decide +kernel
theorem d_Md_ballOn_0 : decode prog_14_method_13_code 0 = .ok (.iconst 0, 1) := by decide +kernel
theorem d_Md_ballOn_1 : decode prog_14_method_13_code 1 = .ok (.istore_n 2, 1) := by decide +kernel
theorem d_Md_ballOn_2 : decode prog_14_method_13_code 2 = .ok (.iload_n 2, 1) := by decide +kernel
theorem d_Md_ballOn_3 : decode prog_14_method_13_code 3 = .ok (.bipush 6, 2) := by decide +kernel
theorem d_Md_ballOn_5 : decode prog_14_method_13_code 5 = .ok (.if_icmp .ge 24, 3) := by decide +kernel
theorem d_Md_ballOn_8 : decode prog_14_method_13_code 8 = .ok (.aload_n 0, 1) := by decide +kernel
theorem d_Md_ballOn_9 : decode prog_14_method_13_code 9 = .ok (.getfield 13, 3) := by decide +kernel
theorem d_Md_ballOn_12 : decode prog_14_method_13_code 12 = .ok (.bipush 12, 2) := by decide +kernel
theorem d_Md_ballOn_14 : decode prog_14_method_13_code 14 = .ok (.iload_n 2, 1) := by decide +kernel
theorem d_Md_ballOn_15 : decode prog_14_method_13_code 15 = .ok (.iadd, 1) := by decide +kernel
theorem d_Md_ballOn_16 : decode prog_14_method_13_code 16 = .ok (.iaload, 1) := by decide +kernel
theorem d_Md_ballOn_17 : decode prog_14_method_13_code 17 = .ok (.iload_n 1, 1) := by decide +kernel
theorem d_Md_ballOn_18 : decode prog_14_method_13_code 18 = .ok (.if_icmp .ne 5, 3) := by decide +kernel
theorem d_Md_ballOn_21 : decode prog_14_method_13_code 21 = .ok (.iload_n 2, 1) := by decide +kernel
theorem d_Md_ballOn_22 : decode prog_14_method_13_code 22 = .ok (.ireturn, 1) := by decide +kernel
theorem d_Md_ballOn_23 : decode prog_14_method_13_code 23 = .ok (.iinc 2 1, 3) := by decide +kernel
theorem d_Md_ballOn_26 : decode prog_14_method_13_code 26 = .ok (.goto (-24), 3) := by decide +kernel
theorem d_Md_ballOn_29 : decode prog_14_method_13_code 29 = .ok (.bipush (-6), 2) := by decide +kernel
theorem d_Md_ballOn_31 : decode prog_14_method_13_code 31 = .ok (.ireturn, 1) := by decide +kernel
theorem d_Md_hanging_0 : decode prog_14_method_14_code 0 = .ok (.iconst 0, 1) := by decide +kernel
theorem d_Md_hanging_1 : decode prog_14_method_14_code 1 = .ok (.istore_n 1, 1) := by decide +kernel
theorem d_Md_hanging_2 : decode prog_14_method_14_code 2 = .ok (.iconst 0, 1) := by decide +kernel
theorem d_Md_hanging_3 : decode prog_14_method_14_code 3 = .ok (.istore_n 2, 1) := by decide +kernel
theorem d_Md_hanging_4 : decode prog_14_method_14_code 4 = .ok (.iload_n 2, 1) := by decide +kernel
theorem d_Md_hanging_5 : decode prog_14_method_14_code 5 = .ok (.bipush 6, 2) := by decide +kernel
theorem d_Md_hanging_7 : decode prog_14_method_14_code 7 = .ok (.if_icmp .ge 39, 3) := by decide +kernel
theorem d_Md_hanging_10 : decode prog_14_method_14_code 10 = .ok (.iload_n 1, 1) := by decide +kernel
theorem d_Md_hanging_11 : decode prog_14_method_14_code 11 = .ok (.aload_n 0, 1) := by decide +kernel
theorem d_Md_hanging_12 : decode prog_14_method_14_code 12 = .ok (.getfield 13, 3) := by decide +kernel
theorem d_Md_hanging_15 : decode prog_14_method_14_code 15 = .ok (.bipush 12, 2) := by decide +kernel
theorem d_Md_hanging_17 : decode prog_14_method_14_code 17 = .ok (.iload_n 2, 1) := by decide +kernel
theorem d_Md_hanging_18 : decode prog_14_method_14_code 18 = .ok (.iadd, 1) := by decide +kernel
theorem d_Md_hanging_19 : decode prog_14_method_14_code 19 = .ok (.iaload, 1) := by decide +kernel
theorem d_Md_hanging_20 : decode prog_14_method_14_code 20 = .ok (.ifCond .lt 17, 3) := by decide +kernel
theorem d_Md_hanging_23 : decode prog_14_method_14_code 23 = .ok (.iconst 1, 1) := by decide +kernel
theorem d_Md_hanging_24 : decode prog_14_method_14_code 24 = .ok (.aload_n 0, 1) := by decide +kernel
theorem d_Md_hanging_25 : decode prog_14_method_14_code 25 = .ok (.getfield 13, 3) := by decide +kernel
theorem d_Md_hanging_28 : decode prog_14_method_14_code 28 = .ok (.bipush 12, 2) := by decide +kernel
theorem d_Md_hanging_30 : decode prog_14_method_14_code 30 = .ok (.iload_n 2, 1) := by decide +kernel
theorem d_Md_hanging_31 : decode prog_14_method_14_code 31 = .ok (.iadd, 1) := by decide +kernel
theorem d_Md_hanging_32 : decode prog_14_method_14_code 32 = .ok (.iaload, 1) := by decide +kernel
theorem d_Md_hanging_33 : decode prog_14_method_14_code 33 = .ok (.ishl, 1) := by decide +kernel
theorem d_Md_hanging_34 : decode prog_14_method_14_code 34 = .ok (.goto 4, 3) := by decide +kernel
theorem d_Md_hanging_37 : decode prog_14_method_14_code 37 = .ok (.iconst 0, 1) := by decide +kernel
theorem d_Md_hanging_38 : decode prog_14_method_14_code 38 = .ok (.ior, 1) := by decide +kernel
theorem d_Md_hanging_39 : decode prog_14_method_14_code 39 = .ok (.istore_n 1, 1) := by decide +kernel
theorem d_Md_hanging_40 : decode prog_14_method_14_code 40 = .ok (.iinc 2 1, 3) := by decide +kernel
theorem d_Md_hanging_43 : decode prog_14_method_14_code 43 = .ok (.goto (-39), 3) := by decide +kernel
theorem d_Md_hanging_46 : decode prog_14_method_14_code 46 = .ok (.iload_n 1, 1) := by decide +kernel
theorem d_Md_hanging_47 : decode prog_14_method_14_code 47 = .ok (.ireturn, 1) := by decide +kernel
theorem d_Md_apartOf_0 : decode prog_14_method_15_code 0 = .ok (.iload_n 1, 1) := by decide +kernel
theorem d_Md_apartOf_1 : decode prog_14_method_15_code 1 = .ok (.istore_n 3, 1) := by decide +kernel
theorem d_Md_apartOf_2 : decode prog_14_method_15_code 2 = .ok (.iload_n 2, 1) := by decide +kernel
theorem d_Md_apartOf_3 : decode prog_14_method_15_code 3 = .ok (.istore 4, 2) := by decide +kernel
theorem d_Md_apartOf_5 : decode prog_14_method_15_code 5 = .ok (.iconst 0, 1) := by decide +kernel
theorem d_Md_apartOf_6 : decode prog_14_method_15_code 6 = .ok (.istore 5, 2) := by decide +kernel
theorem d_Md_apartOf_8 : decode prog_14_method_15_code 8 = .ok (.iload_n 3, 1) := by decide +kernel
theorem d_Md_apartOf_9 : decode prog_14_method_15_code 9 = .ok (.iload 4, 2) := by decide +kernel
theorem d_Md_apartOf_11 : decode prog_14_method_15_code 11 = .ok (.if_icmp .eq 34, 3) := by decide +kernel
theorem d_Md_apartOf_14 : decode prog_14_method_15_code 14 = .ok (.iload_n 3, 1) := by decide +kernel
theorem d_Md_apartOf_15 : decode prog_14_method_15_code 15 = .ok (.iload 4, 2) := by decide +kernel
theorem d_Md_apartOf_17 : decode prog_14_method_15_code 17 = .ok (.if_icmp .le 13, 3) := by decide +kernel
theorem d_Md_apartOf_20 : decode prog_14_method_15_code 20 = .ok (.aload_n 0, 1) := by decide +kernel
theorem d_Md_apartOf_21 : decode prog_14_method_15_code 21 = .ok (.getfield 13, 3) := by decide +kernel
theorem d_Md_apartOf_24 : decode prog_14_method_15_code 24 = .ok (.iload_n 3, 1) := by decide +kernel
theorem d_Md_apartOf_25 : decode prog_14_method_15_code 25 = .ok (.iaload, 1) := by decide +kernel
theorem d_Md_apartOf_26 : decode prog_14_method_15_code 26 = .ok (.istore_n 3, 1) := by decide +kernel
theorem d_Md_apartOf_27 : decode prog_14_method_15_code 27 = .ok (.goto 12, 3) := by decide +kernel
theorem d_Md_apartOf_30 : decode prog_14_method_15_code 30 = .ok (.aload_n 0, 1) := by decide +kernel
theorem d_Md_apartOf_31 : decode prog_14_method_15_code 31 = .ok (.getfield 13, 3) := by decide +kernel
theorem d_Md_apartOf_34 : decode prog_14_method_15_code 34 = .ok (.iload 4, 2) := by decide +kernel
theorem d_Md_apartOf_36 : decode prog_14_method_15_code 36 = .ok (.iaload, 1) := by decide +kernel
theorem d_Md_apartOf_37 : decode prog_14_method_15_code 37 = .ok (.istore 4, 2) := by decide +kernel
theorem d_Md_apartOf_39 : decode prog_14_method_15_code 39 = .ok (.iinc 5 1, 3) := by decide +kernel
theorem d_Md_apartOf_42 : decode prog_14_method_15_code 42 = .ok (.goto (-34), 3) := by decide +kernel
theorem d_Md_apartOf_45 : decode prog_14_method_15_code 45 = .ok (.iload 5, 2) := by decide +kernel
theorem d_Md_apartOf_47 : decode prog_14_method_15_code 47 = .ok (.ireturn, 1) := by decide +kernel
theorem d_Md_meetOf_0 : decode prog_14_method_16_code 0 = .ok (.iload_n 1, 1) := by decide +kernel
theorem d_Md_meetOf_1 : decode prog_14_method_16_code 1 = .ok (.istore_n 3, 1) := by decide +kernel
theorem d_Md_meetOf_2 : decode prog_14_method_16_code 2 = .ok (.iload_n 2, 1) := by decide +kernel
theorem d_Md_meetOf_3 : decode prog_14_method_16_code 3 = .ok (.istore 4, 2) := by decide +kernel
theorem d_Md_meetOf_5 : decode prog_14_method_16_code 5 = .ok (.iload_n 3, 1) := by decide +kernel
theorem d_Md_meetOf_6 : decode prog_14_method_16_code 6 = .ok (.iload 4, 2) := by decide +kernel
theorem d_Md_meetOf_8 : decode prog_14_method_16_code 8 = .ok (.if_icmp .eq 31, 3) := by decide +kernel
theorem d_Md_meetOf_11 : decode prog_14_method_16_code 11 = .ok (.iload_n 3, 1) := by decide +kernel
theorem d_Md_meetOf_12 : decode prog_14_method_16_code 12 = .ok (.iload 4, 2) := by decide +kernel
theorem d_Md_meetOf_14 : decode prog_14_method_16_code 14 = .ok (.if_icmp .le 13, 3) := by decide +kernel
theorem d_Md_meetOf_17 : decode prog_14_method_16_code 17 = .ok (.aload_n 0, 1) := by decide +kernel
theorem d_Md_meetOf_18 : decode prog_14_method_16_code 18 = .ok (.getfield 13, 3) := by decide +kernel
theorem d_Md_meetOf_21 : decode prog_14_method_16_code 21 = .ok (.iload_n 3, 1) := by decide +kernel
theorem d_Md_meetOf_22 : decode prog_14_method_16_code 22 = .ok (.iaload, 1) := by decide +kernel
theorem d_Md_meetOf_23 : decode prog_14_method_16_code 23 = .ok (.istore_n 3, 1) := by decide +kernel
theorem d_Md_meetOf_24 : decode prog_14_method_16_code 24 = .ok (.goto (-19), 3) := by decide +kernel
theorem d_Md_meetOf_27 : decode prog_14_method_16_code 27 = .ok (.aload_n 0, 1) := by decide +kernel
theorem d_Md_meetOf_28 : decode prog_14_method_16_code 28 = .ok (.getfield 13, 3) := by decide +kernel
theorem d_Md_meetOf_31 : decode prog_14_method_16_code 31 = .ok (.iload 4, 2) := by decide +kernel
theorem d_Md_meetOf_33 : decode prog_14_method_16_code 33 = .ok (.iaload, 1) := by decide +kernel
theorem d_Md_meetOf_34 : decode prog_14_method_16_code 34 = .ok (.istore 4, 2) := by decide +kernel
theorem d_Md_meetOf_36 : decode prog_14_method_16_code 36 = .ok (.goto (-31), 3) := by decide +kernel
theorem d_Md_meetOf_39 : decode prog_14_method_16_code 39 = .ok (.iload_n 3, 1) := by decide +kernel
theorem d_Md_meetOf_40 : decode prog_14_method_16_code 40 = .ok (.ireturn, 1) := by decide +kernel
theorem d_Md_hang_0 : decode prog_14_method_17_code 0 = .ok (.aload_n 0, 1) := by decide +kernel
theorem d_Md_hang_1 : decode prog_14_method_17_code 1 = .ok (.getfield 13, 3) := by decide +kernel
theorem d_Md_hang_4 : decode prog_14_method_17_code 4 = .ok (.bipush 24, 2) := by decide +kernel
theorem d_Md_hang_6 : decode prog_14_method_17_code 6 = .ok (.iaload, 1) := by decide +kernel
theorem d_Md_hang_7 : decode prog_14_method_17_code 7 = .ok (.iload_n 1, 1) := by decide +kernel
theorem d_Md_hang_8 : decode prog_14_method_17_code 8 = .ok (.invokestatic 74, 3) := by decide +kernel
theorem d_Md_hang_11 : decode prog_14_method_17_code 11 = .ok (.ifCond .eq 5, 3) := by decide +kernel
theorem d_Md_hang_14 : decode prog_14_method_17_code 14 = .ok (.iconst 1, 1) := by decide +kernel
theorem d_Md_hang_15 : decode prog_14_method_17_code 15 = .ok (.ireturn, 1) := by decide +kernel
theorem d_Md_hang_16 : decode prog_14_method_17_code 16 = .ok (.aload_n 0, 1) := by decide +kernel
theorem d_Md_hang_17 : decode prog_14_method_17_code 17 = .ok (.iload_n 2, 1) := by decide +kernel
theorem d_Md_hang_18 : decode prog_14_method_17_code 18 = .ok (.invokevirtual 49, 3) := by decide +kernel
theorem d_Md_hang_21 : decode prog_14_method_17_code 21 = .ok (.istore_n 3, 1) := by decide +kernel
theorem d_Md_hang_22 : decode prog_14_method_17_code 22 = .ok (.iload_n 3, 1) := by decide +kernel
theorem d_Md_hang_23 : decode prog_14_method_17_code 23 = .ok (.ifCond .lt 14, 3) := by decide +kernel
theorem d_Md_hang_26 : decode prog_14_method_17_code 26 = .ok (.iload_n 3, 1) := by decide +kernel
theorem d_Md_hang_27 : decode prog_14_method_17_code 27 = .ok (.iload_n 1, 1) := by decide +kernel
theorem d_Md_hang_28 : decode prog_14_method_17_code 28 = .ok (.if_icmp .ne 7, 3) := by decide +kernel
theorem d_Md_hang_31 : decode prog_14_method_17_code 31 = .ok (.iconst 3, 1) := by decide +kernel
theorem d_Md_hang_32 : decode prog_14_method_17_code 32 = .ok (.goto 4, 3) := by decide +kernel
theorem d_Md_hang_35 : decode prog_14_method_17_code 35 = .ok (.iconst 2, 1) := by decide +kernel
theorem d_Md_hang_36 : decode prog_14_method_17_code 36 = .ok (.ireturn, 1) := by decide +kernel
theorem d_Md_hang_37 : decode prog_14_method_17_code 37 = .ok (.aload_n 0, 1) := by decide +kernel
theorem d_Md_hang_38 : decode prog_14_method_17_code 38 = .ok (.getfield 13, 3) := by decide +kernel
theorem d_Md_hang_41 : decode prog_14_method_17_code 41 = .ok (.bipush 12, 2) := by decide +kernel
theorem d_Md_hang_43 : decode prog_14_method_17_code 43 = .ok (.iload_n 1, 1) := by decide +kernel
theorem d_Md_hang_44 : decode prog_14_method_17_code 44 = .ok (.iadd, 1) := by decide +kernel
theorem d_Md_hang_45 : decode prog_14_method_17_code 45 = .ok (.iload_n 2, 1) := by decide +kernel
theorem d_Md_hang_46 : decode prog_14_method_17_code 46 = .ok (.iastore, 1) := by decide +kernel
theorem d_Md_hang_47 : decode prog_14_method_17_code 47 = .ok (.iconst 0, 1) := by decide +kernel
theorem d_Md_hang_48 : decode prog_14_method_17_code 48 = .ok (.ireturn, 1) := by decide +kernel
theorem d_Md_pack_0 : decode prog_14_method_18_code 0 = .ok (.aload_n 0, 1) := by decide +kernel
theorem d_Md_pack_1 : decode prog_14_method_18_code 1 = .ok (.getfield 13, 3) := by decide +kernel
theorem d_Md_pack_4 : decode prog_14_method_18_code 4 = .ok (.bipush 24, 2) := by decide +kernel
theorem d_Md_pack_6 : decode prog_14_method_18_code 6 = .ok (.iaload, 1) := by decide +kernel
theorem d_Md_pack_7 : decode prog_14_method_18_code 7 = .ok (.iload_n 1, 1) := by decide +kernel
theorem d_Md_pack_8 : decode prog_14_method_18_code 8 = .ok (.invokestatic 74, 3) := by decide +kernel
theorem d_Md_pack_11 : decode prog_14_method_18_code 11 = .ok (.ifCond .eq 5, 3) := by decide +kernel
theorem d_Md_pack_14 : decode prog_14_method_18_code 14 = .ok (.iconst 1, 1) := by decide +kernel
theorem d_Md_pack_15 : decode prog_14_method_18_code 15 = .ok (.ireturn, 1) := by decide +kernel
theorem d_Md_pack_16 : decode prog_14_method_18_code 16 = .ok (.aload_n 0, 1) := by decide +kernel
theorem d_Md_pack_17 : decode prog_14_method_18_code 17 = .ok (.getfield 13, 3) := by decide +kernel
theorem d_Md_pack_20 : decode prog_14_method_18_code 20 = .ok (.bipush 12, 2) := by decide +kernel
theorem d_Md_pack_22 : decode prog_14_method_18_code 22 = .ok (.iload_n 1, 1) := by decide +kernel
theorem d_Md_pack_23 : decode prog_14_method_18_code 23 = .ok (.iadd, 1) := by decide +kernel
theorem d_Md_pack_24 : decode prog_14_method_18_code 24 = .ok (.iaload, 1) := by decide +kernel
theorem d_Md_pack_25 : decode prog_14_method_18_code 25 = .ok (.ifCond .ge 5, 3) := by decide +kernel
theorem d_Md_pack_28 : decode prog_14_method_18_code 28 = .ok (.iconst 3, 1) := by decide +kernel
theorem d_Md_pack_29 : decode prog_14_method_18_code 29 = .ok (.ireturn, 1) := by decide +kernel
theorem d_Md_pack_30 : decode prog_14_method_18_code 30 = .ok (.aload_n 0, 1) := by decide +kernel
theorem d_Md_pack_31 : decode prog_14_method_18_code 31 = .ok (.getfield 13, 3) := by decide +kernel
theorem d_Md_pack_34 : decode prog_14_method_18_code 34 = .ok (.bipush 12, 2) := by decide +kernel
theorem d_Md_pack_36 : decode prog_14_method_18_code 36 = .ok (.iload_n 1, 1) := by decide +kernel
theorem d_Md_pack_37 : decode prog_14_method_18_code 37 = .ok (.iadd, 1) := by decide +kernel
theorem d_Md_pack_38 : decode prog_14_method_18_code 38 = .ok (.bipush (-6), 2) := by decide +kernel
theorem d_Md_pack_40 : decode prog_14_method_18_code 40 = .ok (.iastore, 1) := by decide +kernel
theorem d_Md_pack_41 : decode prog_14_method_18_code 41 = .ok (.iconst 0, 1) := by decide +kernel
theorem d_Md_pack_42 : decode prog_14_method_18_code 42 = .ok (.ireturn, 1) := by decide +kernel
theorem d_Md_blow_0 : decode prog_14_method_19_code 0 = .ok (.aload_n 0, 1) := by decide +kernel
theorem d_Md_blow_1 : decode prog_14_method_19_code 1 = .ok (.invokevirtual 78, 3) := by decide +kernel
theorem d_Md_blow_4 : decode prog_14_method_19_code 4 = .ok (.invokestatic 81, 3) := by decide +kernel
theorem d_Md_blow_7 : decode prog_14_method_19_code 7 = .ok (.iconst 2, 1) := by decide +kernel
theorem d_Md_blow_8 : decode prog_14_method_19_code 8 = .ok (.if_icmp .ge 5, 3) := by decide +kernel
theorem d_Md_blow_11 : decode prog_14_method_19_code 11 = .ok (.iconst 4, 1) := by decide +kernel
theorem d_Md_blow_12 : decode prog_14_method_19_code 12 = .ok (.ireturn, 1) := by decide +kernel
theorem d_Md_blow_13 : decode prog_14_method_19_code 13 = .ok (.iconst 0, 1) := by decide +kernel
theorem d_Md_blow_14 : decode prog_14_method_19_code 14 = .ok (.istore_n 2, 1) := by decide +kernel
theorem d_Md_blow_15 : decode prog_14_method_19_code 15 = .ok (.iload_n 2, 1) := by decide +kernel
theorem d_Md_blow_16 : decode prog_14_method_19_code 16 = .ok (.bipush 6, 2) := by decide +kernel
theorem d_Md_blow_18 : decode prog_14_method_19_code 18 = .ok (.if_icmp .ge 111, 3) := by decide +kernel
theorem d_Md_blow_21 : decode prog_14_method_19_code 21 = .ok (.aload_n 0, 1) := by decide +kernel
theorem d_Md_blow_22 : decode prog_14_method_19_code 22 = .ok (.getfield 22, 3) := by decide +kernel
theorem d_Md_blow_25 : decode prog_14_method_19_code 25 = .ok (.iload_n 2, 1) := by decide +kernel
theorem d_Md_blow_26 : decode prog_14_method_19_code 26 = .ok (.iconst 0, 1) := by decide +kernel
theorem d_Md_blow_27 : decode prog_14_method_19_code 27 = .ok (.iastore, 1) := by decide +kernel
theorem d_Md_blow_28 : decode prog_14_method_19_code 28 = .ok (.iconst 0, 1) := by decide +kernel
theorem d_Md_blow_29 : decode prog_14_method_19_code 29 = .ok (.istore_n 3, 1) := by decide +kernel
theorem d_Md_blow_30 : decode prog_14_method_19_code 30 = .ok (.iload_n 3, 1) := by decide +kernel
theorem d_Md_blow_31 : decode prog_14_method_19_code 31 = .ok (.bipush 6, 2) := by decide +kernel
theorem d_Md_blow_33 : decode prog_14_method_19_code 33 = .ok (.if_icmp .ge 90, 3) := by decide +kernel
theorem d_Md_blow_36 : decode prog_14_method_19_code 36 = .ok (.iload_n 3, 1) := by decide +kernel
theorem d_Md_blow_37 : decode prog_14_method_19_code 37 = .ok (.iload_n 2, 1) := by decide +kernel
theorem d_Md_blow_38 : decode prog_14_method_19_code 38 = .ok (.if_icmp .eq 31, 3) := by decide +kernel
theorem d_Md_blow_41 : decode prog_14_method_19_code 41 = .ok (.aload_n 0, 1) := by decide +kernel
theorem d_Md_blow_42 : decode prog_14_method_19_code 42 = .ok (.getfield 13, 3) := by decide +kernel
theorem d_Md_blow_45 : decode prog_14_method_19_code 45 = .ok (.bipush 12, 2) := by decide +kernel
theorem d_Md_blow_47 : decode prog_14_method_19_code 47 = .ok (.iload_n 2, 1) := by decide +kernel
theorem d_Md_blow_48 : decode prog_14_method_19_code 48 = .ok (.iadd, 1) := by decide +kernel
theorem d_Md_blow_49 : decode prog_14_method_19_code 49 = .ok (.iaload, 1) := by decide +kernel
theorem d_Md_blow_50 : decode prog_14_method_19_code 50 = .ok (.ifCond .lt 19, 3) := by decide +kernel
theorem d_Md_blow_53 : decode prog_14_method_19_code 53 = .ok (.aload_n 0, 1) := by decide +kernel
theorem d_Md_blow_54 : decode prog_14_method_19_code 54 = .ok (.getfield 13, 3) := by decide +kernel
theorem d_Md_blow_57 : decode prog_14_method_19_code 57 = .ok (.bipush 12, 2) := by decide +kernel
theorem d_Md_blow_59 : decode prog_14_method_19_code 59 = .ok (.iload_n 3, 1) := by decide +kernel
theorem d_Md_blow_60 : decode prog_14_method_19_code 60 = .ok (.iadd, 1) := by decide +kernel
theorem d_Md_blow_61 : decode prog_14_method_19_code 61 = .ok (.iaload, 1) := by decide +kernel
theorem d_Md_blow_62 : decode prog_14_method_19_code 62 = .ok (.ifCond .lt 7, 3) := by decide +kernel
theorem d_Md_blow_65 : decode prog_14_method_19_code 65 = .ok (.iconst 1, 1) := by decide +kernel
theorem d_Md_blow_66 : decode prog_14_method_19_code 66 = .ok (.goto 4, 3) := by decide +kernel
theorem d_Md_blow_69 : decode prog_14_method_19_code 69 = .ok (.iconst 0, 1) := by decide +kernel
theorem d_Md_blow_70 : decode prog_14_method_19_code 70 = .ok (.istore 4, 2) := by decide +kernel
theorem d_Md_blow_72 : decode prog_14_method_19_code 72 = .ok (.aload_n 0, 1) := by decide +kernel
theorem d_Md_blow_73 : decode prog_14_method_19_code 73 = .ok (.getfield 22, 3) := by decide +kernel
theorem d_Md_blow_76 : decode prog_14_method_19_code 76 = .ok (.iload_n 2, 1) := by decide +kernel
theorem d_Md_blow_77 : decode prog_14_method_19_code 77 = .ok (.dup2, 1) := by decide +kernel
theorem d_Md_blow_78 : decode prog_14_method_19_code 78 = .ok (.iaload, 1) := by decide +kernel
theorem d_Md_blow_79 : decode prog_14_method_19_code 79 = .ok (.iload 4, 2) := by decide +kernel
theorem d_Md_blow_81 : decode prog_14_method_19_code 81 = .ok (.ifCond .eq 33, 3) := by decide +kernel
theorem d_Md_blow_84 : decode prog_14_method_19_code 84 = .ok (.aload_n 0, 1) := by decide +kernel
theorem d_Md_blow_85 : decode prog_14_method_19_code 85 = .ok (.aload_n 0, 1) := by decide +kernel
theorem d_Md_blow_86 : decode prog_14_method_19_code 86 = .ok (.getfield 13, 3) := by decide +kernel
theorem d_Md_blow_89 : decode prog_14_method_19_code 89 = .ok (.bipush 12, 2) := by decide +kernel
theorem d_Md_blow_91 : decode prog_14_method_19_code 91 = .ok (.iload_n 2, 1) := by decide +kernel
theorem d_Md_blow_92 : decode prog_14_method_19_code 92 = .ok (.iadd, 1) := by decide +kernel
theorem d_Md_blow_93 : decode prog_14_method_19_code 93 = .ok (.iaload, 1) := by decide +kernel
theorem d_Md_blow_94 : decode prog_14_method_19_code 94 = .ok (.aload_n 0, 1) := by decide +kernel
theorem d_Md_blow_95 : decode prog_14_method_19_code 95 = .ok (.getfield 13, 3) := by decide +kernel
theorem d_Md_blow_98 : decode prog_14_method_19_code 98 = .ok (.bipush 12, 2) := by decide +kernel
theorem d_Md_blow_100 : decode prog_14_method_19_code 100 = .ok (.iload_n 3, 1) := by decide +kernel
theorem d_Md_blow_101 : decode prog_14_method_19_code 101 = .ok (.iadd, 1) := by decide +kernel
theorem d_Md_blow_102 : decode prog_14_method_19_code 102 = .ok (.iaload, 1) := by decide +kernel
theorem d_Md_blow_103 : decode prog_14_method_19_code 103 = .ok (.invokevirtual 84, 3) := by decide +kernel
theorem d_Md_blow_106 : decode prog_14_method_19_code 106 = .ok (.iload_n 1, 1) := by decide +kernel
theorem d_Md_blow_107 : decode prog_14_method_19_code 107 = .ok (.if_icmp .gt 7, 3) := by decide +kernel
theorem d_Md_blow_110 : decode prog_14_method_19_code 110 = .ok (.iconst 1, 1) := by decide +kernel
theorem d_Md_blow_111 : decode prog_14_method_19_code 111 = .ok (.goto 4, 3) := by decide +kernel
theorem d_Md_blow_114 : decode prog_14_method_19_code 114 = .ok (.iconst 0, 1) := by decide +kernel
theorem d_Md_blow_115 : decode prog_14_method_19_code 115 = .ok (.iadd, 1) := by decide +kernel
theorem d_Md_blow_116 : decode prog_14_method_19_code 116 = .ok (.iastore, 1) := by decide +kernel
theorem d_Md_blow_117 : decode prog_14_method_19_code 117 = .ok (.iinc 3 1, 3) := by decide +kernel
theorem d_Md_blow_120 : decode prog_14_method_19_code 120 = .ok (.goto (-90), 3) := by decide +kernel
theorem d_Md_blow_123 : decode prog_14_method_19_code 123 = .ok (.iinc 2 1, 3) := by decide +kernel
theorem d_Md_blow_126 : decode prog_14_method_19_code 126 = .ok (.goto (-111), 3) := by decide +kernel
theorem d_Md_blow_129 : decode prog_14_method_19_code 129 = .ok (.iconst 0, 1) := by decide +kernel
theorem d_Md_blow_130 : decode prog_14_method_19_code 130 = .ok (.istore_n 2, 1) := by decide +kernel
theorem d_Md_blow_131 : decode prog_14_method_19_code 131 = .ok (.iload_n 2, 1) := by decide +kernel
theorem d_Md_blow_132 : decode prog_14_method_19_code 132 = .ok (.bipush 6, 2) := by decide +kernel
theorem d_Md_blow_134 : decode prog_14_method_19_code 134 = .ok (.if_icmp .ge 121, 3) := by decide +kernel
theorem d_Md_blow_137 : decode prog_14_method_19_code 137 = .ok (.aload_n 0, 1) := by decide +kernel
theorem d_Md_blow_138 : decode prog_14_method_19_code 138 = .ok (.getfield 13, 3) := by decide +kernel
theorem d_Md_blow_141 : decode prog_14_method_19_code 141 = .ok (.bipush 18, 2) := by decide +kernel
theorem d_Md_blow_143 : decode prog_14_method_19_code 143 = .ok (.iload_n 2, 1) := by decide +kernel
theorem d_Md_blow_144 : decode prog_14_method_19_code 144 = .ok (.iadd, 1) := by decide +kernel
theorem d_Md_blow_145 : decode prog_14_method_19_code 145 = .ok (.iaload, 1) := by decide +kernel
theorem d_Md_blow_146 : decode prog_14_method_19_code 146 = .ok (.aload_n 0, 1) := by decide +kernel
theorem d_Md_blow_147 : decode prog_14_method_19_code 147 = .ok (.getfield 22, 3) := by decide +kernel
theorem d_Md_blow_150 : decode prog_14_method_19_code 150 = .ok (.iload_n 2, 1) := by decide +kernel
theorem d_Md_blow_151 : decode prog_14_method_19_code 151 = .ok (.iaload, 1) := by decide +kernel
theorem d_Md_blow_152 : decode prog_14_method_19_code 152 = .ok (.iadd, 1) := by decide +kernel
theorem d_Md_blow_153 : decode prog_14_method_19_code 153 = .ok (.bipush 9, 2) := by decide +kernel
theorem d_Md_blow_155 : decode prog_14_method_19_code 155 = .ok (.if_icmp .le 8, 3) := by decide +kernel
theorem d_Md_blow_158 : decode prog_14_method_19_code 158 = .ok (.bipush 9, 2) := by decide +kernel
theorem d_Md_blow_160 : decode prog_14_method_19_code 160 = .ok (.goto 19, 3) := by decide +kernel
theorem d_Md_blow_163 : decode prog_14_method_19_code 163 = .ok (.aload_n 0, 1) := by decide +kernel
theorem d_Md_blow_164 : decode prog_14_method_19_code 164 = .ok (.getfield 13, 3) := by decide +kernel
theorem d_Md_blow_167 : decode prog_14_method_19_code 167 = .ok (.bipush 18, 2) := by decide +kernel
theorem d_Md_blow_169 : decode prog_14_method_19_code 169 = .ok (.iload_n 2, 1) := by decide +kernel
theorem d_Md_blow_170 : decode prog_14_method_19_code 170 = .ok (.iadd, 1) := by decide +kernel
theorem d_Md_blow_171 : decode prog_14_method_19_code 171 = .ok (.iaload, 1) := by decide +kernel
theorem d_Md_blow_172 : decode prog_14_method_19_code 172 = .ok (.aload_n 0, 1) := by decide +kernel
theorem d_Md_blow_173 : decode prog_14_method_19_code 173 = .ok (.getfield 22, 3) := by decide +kernel
theorem d_Md_blow_176 : decode prog_14_method_19_code 176 = .ok (.iload_n 2, 1) := by decide +kernel
theorem d_Md_blow_177 : decode prog_14_method_19_code 177 = .ok (.iaload, 1) := by decide +kernel
theorem d_Md_blow_178 : decode prog_14_method_19_code 178 = .ok (.iadd, 1) := by decide +kernel
theorem d_Md_blow_179 : decode prog_14_method_19_code 179 = .ok (.istore_n 3, 1) := by decide +kernel
theorem d_Md_blow_180 : decode prog_14_method_19_code 180 = .ok (.aload_n 0, 1) := by decide +kernel
theorem d_Md_blow_181 : decode prog_14_method_19_code 181 = .ok (.dup, 1) := by decide +kernel
theorem d_Md_blow_182 : decode prog_14_method_19_code 182 = .ok (.getfield 65, 3) := by decide +kernel
theorem d_Md_blow_185 : decode prog_14_method_19_code 185 = .ok (.iload_n 3, 1) := by decide +kernel
theorem d_Md_blow_186 : decode prog_14_method_19_code 186 = .ok (.aload_n 0, 1) := by decide +kernel
theorem d_Md_blow_187 : decode prog_14_method_19_code 187 = .ok (.getfield 13, 3) := by decide +kernel
theorem d_Md_blow_190 : decode prog_14_method_19_code 190 = .ok (.bipush 18, 2) := by decide +kernel
theorem d_Md_blow_192 : decode prog_14_method_19_code 192 = .ok (.iload_n 2, 1) := by decide +kernel
theorem d_Md_blow_193 : decode prog_14_method_19_code 193 = .ok (.iadd, 1) := by decide +kernel
theorem d_Md_blow_194 : decode prog_14_method_19_code 194 = .ok (.iaload, 1) := by decide +kernel
theorem d_Md_blow_195 : decode prog_14_method_19_code 195 = .ok (.isub, 1) := by decide +kernel
theorem d_Md_blow_196 : decode prog_14_method_19_code 196 = .ok (.iadd, 1) := by decide +kernel
theorem d_Md_blow_197 : decode prog_14_method_19_code 197 = .ok (.putfield 65, 3) := by decide +kernel
theorem d_Md_blow_200 : decode prog_14_method_19_code 200 = .ok (.aload_n 0, 1) := by decide +kernel
theorem d_Md_blow_201 : decode prog_14_method_19_code 201 = .ok (.getfield 13, 3) := by decide +kernel
theorem d_Md_blow_204 : decode prog_14_method_19_code 204 = .ok (.bipush 18, 2) := by decide +kernel
theorem d_Md_blow_206 : decode prog_14_method_19_code 206 = .ok (.iload_n 2, 1) := by decide +kernel
theorem d_Md_blow_207 : decode prog_14_method_19_code 207 = .ok (.iadd, 1) := by decide +kernel
theorem d_Md_blow_208 : decode prog_14_method_19_code 208 = .ok (.iload_n 3, 1) := by decide +kernel
theorem d_Md_blow_209 : decode prog_14_method_19_code 209 = .ok (.iastore, 1) := by decide +kernel
theorem d_Md_blow_210 : decode prog_14_method_19_code 210 = .ok (.aload_n 0, 1) := by decide +kernel
theorem d_Md_blow_211 : decode prog_14_method_19_code 211 = .ok (.getfield 22, 3) := by decide +kernel
theorem d_Md_blow_214 : decode prog_14_method_19_code 214 = .ok (.iload_n 2, 1) := by decide +kernel
theorem d_Md_blow_215 : decode prog_14_method_19_code 215 = .ok (.iaload, 1) := by decide +kernel
theorem d_Md_blow_216 : decode prog_14_method_19_code 216 = .ok (.ifCond .le 33, 3) := by decide +kernel
theorem d_Md_blow_219 : decode prog_14_method_19_code 219 = .ok (.iload_n 3, 1) := by decide +kernel
theorem d_Md_blow_220 : decode prog_14_method_19_code 220 = .ok (.bipush 9, 2) := by decide +kernel
theorem d_Md_blow_222 : decode prog_14_method_19_code 222 = .ok (.if_icmp .ne 27, 3) := by decide +kernel
theorem d_Md_blow_225 : decode prog_14_method_19_code 225 = .ok (.aload_n 0, 1) := by decide +kernel
theorem d_Md_blow_226 : decode prog_14_method_19_code 226 = .ok (.getfield 13, 3) := by decide +kernel
theorem d_Md_blow_229 : decode prog_14_method_19_code 229 = .ok (.bipush 24, 2) := by decide +kernel
theorem d_Md_blow_231 : decode prog_14_method_19_code 231 = .ok (.dup2, 1) := by decide +kernel
theorem d_Md_blow_232 : decode prog_14_method_19_code 232 = .ok (.iaload, 1) := by decide +kernel
theorem d_Md_blow_233 : decode prog_14_method_19_code 233 = .ok (.iconst 1, 1) := by decide +kernel
theorem d_Md_blow_234 : decode prog_14_method_19_code 234 = .ok (.iload_n 2, 1) := by decide +kernel
theorem d_Md_blow_235 : decode prog_14_method_19_code 235 = .ok (.ishl, 1) := by decide +kernel
theorem d_Md_blow_236 : decode prog_14_method_19_code 236 = .ok (.ior, 1) := by decide +kernel
theorem d_Md_blow_237 : decode prog_14_method_19_code 237 = .ok (.iastore, 1) := by decide +kernel
theorem d_Md_blow_238 : decode prog_14_method_19_code 238 = .ok (.aload_n 0, 1) := by decide +kernel
theorem d_Md_blow_239 : decode prog_14_method_19_code 239 = .ok (.getfield 13, 3) := by decide +kernel
theorem d_Md_blow_242 : decode prog_14_method_19_code 242 = .ok (.bipush 12, 2) := by decide +kernel
theorem d_Md_blow_244 : decode prog_14_method_19_code 244 = .ok (.iload_n 2, 1) := by decide +kernel
theorem d_Md_blow_245 : decode prog_14_method_19_code 245 = .ok (.iadd, 1) := by decide +kernel
theorem d_Md_blow_246 : decode prog_14_method_19_code 246 = .ok (.bipush (-6), 2) := by decide +kernel
theorem d_Md_blow_248 : decode prog_14_method_19_code 248 = .ok (.iastore, 1) := by decide +kernel
theorem d_Md_blow_249 : decode prog_14_method_19_code 249 = .ok (.iinc 2 1, 3) := by decide +kernel
theorem d_Md_blow_252 : decode prog_14_method_19_code 252 = .ok (.goto (-121), 3) := by decide +kernel
theorem d_Md_blow_255 : decode prog_14_method_19_code 255 = .ok (.iconst 0, 1) := by decide +kernel
theorem d_Md_blow_256 : decode prog_14_method_19_code 256 = .ok (.ireturn, 1) := by decide +kernel
theorem d_Md_bend_0 : decode prog_14_method_20_code 0 = .ok (.iload_n 2, 1) := by decide +kernel
theorem d_Md_bend_1 : decode prog_14_method_20_code 1 = .ok (.iload_n 1, 1) := by decide +kernel
theorem d_Md_bend_2 : decode prog_14_method_20_code 2 = .ok (.if_icmp .ge 13, 3) := by decide +kernel
theorem d_Md_bend_5 : decode prog_14_method_20_code 5 = .ok (.aload_n 0, 1) := by decide +kernel
theorem d_Md_bend_6 : decode prog_14_method_20_code 6 = .ok (.getfield 13, 3) := by decide +kernel
theorem d_Md_bend_9 : decode prog_14_method_20_code 9 = .ok (.iload_n 1, 1) := by decide +kernel
theorem d_Md_bend_10 : decode prog_14_method_20_code 10 = .ok (.iaload, 1) := by decide +kernel
theorem d_Md_bend_11 : decode prog_14_method_20_code 11 = .ok (.iload_n 2, 1) := by decide +kernel
theorem d_Md_bend_12 : decode prog_14_method_20_code 12 = .ok (.if_icmp .ne 5, 3) := by decide +kernel
theorem d_Md_bend_15 : decode prog_14_method_20_code 15 = .ok (.iconst 5, 1) := by decide +kernel
theorem d_Md_bend_16 : decode prog_14_method_20_code 16 = .ok (.ireturn, 1) := by decide +kernel
theorem d_Md_bend_17 : decode prog_14_method_20_code 17 = .ok (.aload_n 0, 1) := by decide +kernel
theorem d_Md_bend_18 : decode prog_14_method_20_code 18 = .ok (.getfield 13, 3) := by decide +kernel
theorem d_Md_bend_21 : decode prog_14_method_20_code 21 = .ok (.iload_n 1, 1) := by decide +kernel
theorem d_Md_bend_22 : decode prog_14_method_20_code 22 = .ok (.iload_n 2, 1) := by decide +kernel
theorem d_Md_bend_23 : decode prog_14_method_20_code 23 = .ok (.iastore, 1) := by decide +kernel
theorem d_Md_bend_24 : decode prog_14_method_20_code 24 = .ok (.iconst 0, 1) := by decide +kernel
theorem d_Md_bend_25 : decode prog_14_method_20_code 25 = .ok (.ireturn, 1) := by decide +kernel
theorem d_Md_endWinter_0 : decode prog_14_method_21_code 0 = .ok (.aload_n 0, 1) := by decide +kernel
theorem d_Md_endWinter_1 : decode prog_14_method_21_code 1 = .ok (.getfield 13, 3) := by decide +kernel
theorem d_Md_endWinter_4 : decode prog_14_method_21_code 4 = .ok (.bipush 25, 2) := by decide +kernel
theorem d_Md_endWinter_6 : decode prog_14_method_21_code 6 = .ok (.iaload, 1) := by decide +kernel
theorem d_Md_endWinter_7 : decode prog_14_method_21_code 7 = .ok (.bipush 99, 2) := by decide +kernel
theorem d_Md_endWinter_9 : decode prog_14_method_21_code 9 = .ok (.if_icmp .ne 6, 3) := by decide +kernel
theorem d_Md_endWinter_12 : decode prog_14_method_21_code 12 = .ok (.bipush 6, 2) := by decide +kernel
theorem d_Md_endWinter_14 : decode prog_14_method_21_code 14 = .ok (.ireturn, 1) := by decide +kernel
theorem d_Md_endWinter_15 : decode prog_14_method_21_code 15 = .ok (.aload_n 0, 1) := by decide +kernel
theorem d_Md_endWinter_16 : decode prog_14_method_21_code 16 = .ok (.getfield 13, 3) := by decide +kernel
theorem d_Md_endWinter_19 : decode prog_14_method_21_code 19 = .ok (.bipush 25, 2) := by decide +kernel
theorem d_Md_endWinter_21 : decode prog_14_method_21_code 21 = .ok (.dup2, 1) := by decide +kernel
theorem d_Md_endWinter_22 : decode prog_14_method_21_code 22 = .ok (.iaload, 1) := by decide +kernel
theorem d_Md_endWinter_23 : decode prog_14_method_21_code 23 = .ok (.iconst 1, 1) := by decide +kernel
theorem d_Md_endWinter_24 : decode prog_14_method_21_code 24 = .ok (.iadd, 1) := by decide +kernel
theorem d_Md_endWinter_25 : decode prog_14_method_21_code 25 = .ok (.iastore, 1) := by decide +kernel
theorem d_Md_endWinter_26 : decode prog_14_method_21_code 26 = .ok (.iconst 0, 1) := by decide +kernel
theorem d_Md_endWinter_27 : decode prog_14_method_21_code 27 = .ok (.istore_n 1, 1) := by decide +kernel
theorem d_Md_endWinter_28 : decode prog_14_method_21_code 28 = .ok (.iload_n 1, 1) := by decide +kernel
theorem d_Md_endWinter_29 : decode prog_14_method_21_code 29 = .ok (.bipush 6, 2) := by decide +kernel
theorem d_Md_endWinter_31 : decode prog_14_method_21_code 31 = .ok (.if_icmp .ge 20, 3) := by decide +kernel
theorem d_Md_endWinter_34 : decode prog_14_method_21_code 34 = .ok (.aload_n 0, 1) := by decide +kernel
theorem d_Md_endWinter_35 : decode prog_14_method_21_code 35 = .ok (.getfield 13, 3) := by decide +kernel
theorem d_Md_endWinter_38 : decode prog_14_method_21_code 38 = .ok (.bipush 12, 2) := by decide +kernel
theorem d_Md_endWinter_40 : decode prog_14_method_21_code 40 = .ok (.iload_n 1, 1) := by decide +kernel
theorem d_Md_endWinter_41 : decode prog_14_method_21_code 41 = .ok (.iadd, 1) := by decide +kernel
theorem d_Md_endWinter_42 : decode prog_14_method_21_code 42 = .ok (.bipush (-6), 2) := by decide +kernel
theorem d_Md_endWinter_44 : decode prog_14_method_21_code 44 = .ok (.iastore, 1) := by decide +kernel
theorem d_Md_endWinter_45 : decode prog_14_method_21_code 45 = .ok (.iinc 1 1, 3) := by decide +kernel
theorem d_Md_endWinter_48 : decode prog_14_method_21_code 48 = .ok (.goto (-20), 3) := by decide +kernel
theorem d_Md_endWinter_51 : decode prog_14_method_21_code 51 = .ok (.iconst 0, 1) := by decide +kernel
theorem d_Md_endWinter_52 : decode prog_14_method_21_code 52 = .ok (.ireturn, 1) := by decide +kernel
theorem d_Md_goWinters_0 : decode prog_14_method_22_code 0 = .ok (.aload_n 0, 1) := by decide +kernel
theorem d_Md_goWinters_1 : decode prog_14_method_22_code 1 = .ok (.invokevirtual 46, 3) := by decide +kernel
theorem d_Md_goWinters_4 : decode prog_14_method_22_code 4 = .ok (.aload_n 0, 1) := by decide +kernel
theorem d_Md_goWinters_5 : decode prog_14_method_22_code 5 = .ok (.iconst 0, 1) := by decide +kernel
theorem d_Md_goWinters_6 : decode prog_14_method_22_code 6 = .ok (.putfield 87, 3) := by decide +kernel
theorem d_Md_goWinters_9 : decode prog_14_method_22_code 9 = .ok (.iconst 0, 1) := by decide +kernel
theorem d_Md_goWinters_10 : decode prog_14_method_22_code 10 = .ok (.istore_n 1, 1) := by decide +kernel
theorem d_Md_goWinters_11 : decode prog_14_method_22_code 11 = .ok (.iload_n 1, 1) := by decide +kernel
theorem d_Md_goWinters_12 : decode prog_14_method_22_code 12 = .ok (.aload_n 0, 1) := by decide +kernel
theorem d_Md_goWinters_13 : decode prog_14_method_22_code 13 = .ok (.getfield 53, 3) := by decide +kernel
theorem d_Md_goWinters_16 : decode prog_14_method_22_code 16 = .ok (.if_icmp .ge 231, 3) := by decide +kernel
theorem d_Md_goWinters_19 : decode prog_14_method_22_code 19 = .ok (.aload_n 0, 1) := by decide +kernel
theorem d_Md_goWinters_20 : decode prog_14_method_22_code 20 = .ok (.getfield 19, 3) := by decide +kernel
theorem d_Md_goWinters_23 : decode prog_14_method_22_code 23 = .ok (.iload_n 1, 1) := by decide +kernel
theorem d_Md_goWinters_24 : decode prog_14_method_22_code 24 = .ok (.iaload, 1) := by decide +kernel
theorem d_Md_goWinters_25 : decode prog_14_method_22_code 25 = .ok (.istore_n 2, 1) := by decide +kernel
theorem d_Md_goWinters_26 : decode prog_14_method_22_code 26 = .ok (.aload_n 0, 1) := by decide +kernel
theorem d_Md_goWinters_27 : decode prog_14_method_22_code 27 = .ok (.getfield 13, 3) := by decide +kernel
theorem d_Md_goWinters_30 : decode prog_14_method_22_code 30 = .ok (.bipush 24, 2) := by decide +kernel
theorem d_Md_goWinters_32 : decode prog_14_method_22_code 32 = .ok (.iaload, 1) := by decide +kernel
theorem d_Md_goWinters_33 : decode prog_14_method_22_code 33 = .ok (.istore_n 3, 1) := by decide +kernel
theorem d_Md_goWinters_34 : decode prog_14_method_22_code 34 = .ok (.iload_n 2, 1) := by decide +kernel
theorem d_Md_goWinters_35 : decode prog_14_method_22_code 35 = .ok (.bipush 46, 2) := by decide +kernel
theorem d_Md_goWinters_37 : decode prog_14_method_22_code 37 = .ok (.if_icmp .ne 17, 3) := by decide +kernel
theorem d_Md_goWinters_40 : decode prog_14_method_22_code 40 = .ok (.aload_n 0, 1) := by decide +kernel
theorem d_Md_goWinters_41 : decode prog_14_method_22_code 41 = .ok (.aload_n 0, 1) := by decide +kernel
theorem d_Md_goWinters_42 : decode prog_14_method_22_code 42 = .ok (.invokevirtual 90, 3) := by decide +kernel
theorem d_Md_goWinters_45 : decode prog_14_method_22_code 45 = .ok (.putfield 93, 3) := by decide +kernel
theorem d_Md_goWinters_48 : decode prog_14_method_22_code 48 = .ok (.iinc 1 1, 3) := by decide +kernel
theorem d_Md_goWinters_51 : decode prog_14_method_22_code 51 = .ok (.goto 111, 3) := by decide +kernel
theorem d_Md_goWinters_54 : decode prog_14_method_22_code 54 = .ok (.iload_n 2, 1) := by decide +kernel
theorem d_Md_goWinters_55 : decode prog_14_method_22_code 55 = .ok (.bipush 98, 2) := by decide +kernel
theorem d_Md_goWinters_57 : decode prog_14_method_22_code 57 = .ok (.if_icmp .ne 39, 3) := by decide +kernel
theorem d_Md_goWinters_60 : decode prog_14_method_22_code 60 = .ok (.aload_n 0, 1) := by decide +kernel
theorem d_Md_goWinters_61 : decode prog_14_method_22_code 61 = .ok (.aload_n 0, 1) := by decide +kernel
theorem d_Md_goWinters_62 : decode prog_14_method_22_code 62 = .ok (.aload_n 0, 1) := by decide +kernel
theorem d_Md_goWinters_63 : decode prog_14_method_22_code 63 = .ok (.getfield 19, 3) := by decide +kernel
theorem d_Md_goWinters_66 : decode prog_14_method_22_code 66 = .ok (.iload_n 1, 1) := by decide +kernel
theorem d_Md_goWinters_67 : decode prog_14_method_22_code 67 = .ok (.iconst 1, 1) := by decide +kernel
theorem d_Md_goWinters_68 : decode prog_14_method_22_code 68 = .ok (.iadd, 1) := by decide +kernel
theorem d_Md_goWinters_69 : decode prog_14_method_22_code 69 = .ok (.iaload, 1) := by decide +kernel
theorem d_Md_goWinters_70 : decode prog_14_method_22_code 70 = .ok (.bipush 97, 2) := by decide +kernel
theorem d_Md_goWinters_72 : decode prog_14_method_22_code 72 = .ok (.isub, 1) := by decide +kernel
theorem d_Md_goWinters_73 : decode prog_14_method_22_code 73 = .ok (.aload_n 0, 1) := by decide +kernel
theorem d_Md_goWinters_74 : decode prog_14_method_22_code 74 = .ok (.getfield 19, 3) := by decide +kernel
theorem d_Md_goWinters_77 : decode prog_14_method_22_code 77 = .ok (.iload_n 1, 1) := by decide +kernel
theorem d_Md_goWinters_78 : decode prog_14_method_22_code 78 = .ok (.iconst 2, 1) := by decide +kernel
theorem d_Md_goWinters_79 : decode prog_14_method_22_code 79 = .ok (.iadd, 1) := by decide +kernel
theorem d_Md_goWinters_80 : decode prog_14_method_22_code 80 = .ok (.iaload, 1) := by decide +kernel
theorem d_Md_goWinters_81 : decode prog_14_method_22_code 81 = .ok (.bipush 97, 2) := by decide +kernel
theorem d_Md_goWinters_83 : decode prog_14_method_22_code 83 = .ok (.isub, 1) := by decide +kernel
theorem d_Md_goWinters_84 : decode prog_14_method_22_code 84 = .ok (.invokevirtual 96, 3) := by decide +kernel
theorem d_Md_goWinters_87 : decode prog_14_method_22_code 87 = .ok (.putfield 93, 3) := by decide +kernel
theorem d_Md_goWinters_90 : decode prog_14_method_22_code 90 = .ok (.iinc 1 3, 3) := by decide +kernel
theorem d_Md_goWinters_93 : decode prog_14_method_22_code 93 = .ok (.goto 69, 3) := by decide +kernel
theorem d_Md_goWinters_96 : decode prog_14_method_22_code 96 = .ok (.aload_n 0, 1) := by decide +kernel
theorem d_Md_goWinters_97 : decode prog_14_method_22_code 97 = .ok (.getfield 19, 3) := by decide +kernel
theorem d_Md_goWinters_100 : decode prog_14_method_22_code 100 = .ok (.iload_n 1, 1) := by decide +kernel
theorem d_Md_goWinters_101 : decode prog_14_method_22_code 101 = .ok (.iconst 1, 1) := by decide +kernel
theorem d_Md_goWinters_102 : decode prog_14_method_22_code 102 = .ok (.iadd, 1) := by decide +kernel
theorem d_Md_goWinters_103 : decode prog_14_method_22_code 103 = .ok (.iaload, 1) := by decide +kernel
theorem d_Md_goWinters_104 : decode prog_14_method_22_code 104 = .ok (.istore 4, 2) := by decide +kernel
theorem d_Md_goWinters_106 : decode prog_14_method_22_code 106 = .ok (.aload_n 0, 1) := by decide +kernel
theorem d_Md_goWinters_107 : decode prog_14_method_22_code 107 = .ok (.iload_n 2, 1) := by decide +kernel
theorem d_Md_goWinters_108 : decode prog_14_method_22_code 108 = .ok (.bipush 100, 2) := by decide +kernel
theorem d_Md_goWinters_110 : decode prog_14_method_22_code 110 = .ok (.if_icmp .ne 15, 3) := by decide +kernel
theorem d_Md_goWinters_113 : decode prog_14_method_22_code 113 = .ok (.aload_n 0, 1) := by decide +kernel
theorem d_Md_goWinters_114 : decode prog_14_method_22_code 114 = .ok (.iload 4, 2) := by decide +kernel
theorem d_Md_goWinters_116 : decode prog_14_method_22_code 116 = .ok (.bipush 48, 2) := by decide +kernel
theorem d_Md_goWinters_118 : decode prog_14_method_22_code 118 = .ok (.isub, 1) := by decide +kernel
theorem d_Md_goWinters_119 : decode prog_14_method_22_code 119 = .ok (.invokevirtual 99, 3) := by decide +kernel
theorem d_Md_goWinters_122 : decode prog_14_method_22_code 122 = .ok (.goto 34, 3) := by decide +kernel
theorem d_Md_goWinters_125 : decode prog_14_method_22_code 125 = .ok (.iload 4, 2) := by decide +kernel
theorem d_Md_goWinters_127 : decode prog_14_method_22_code 127 = .ok (.bipush 95, 2) := by decide +kernel
theorem d_Md_goWinters_129 : decode prog_14_method_22_code 129 = .ok (.if_icmp .ne 14, 3) := by decide +kernel
theorem d_Md_goWinters_132 : decode prog_14_method_22_code 132 = .ok (.aload_n 0, 1) := by decide +kernel
theorem d_Md_goWinters_133 : decode prog_14_method_22_code 133 = .ok (.iload_n 2, 1) := by decide +kernel
theorem d_Md_goWinters_134 : decode prog_14_method_22_code 134 = .ok (.bipush 65, 2) := by decide +kernel
theorem d_Md_goWinters_136 : decode prog_14_method_22_code 136 = .ok (.isub, 1) := by decide +kernel
theorem d_Md_goWinters_137 : decode prog_14_method_22_code 137 = .ok (.invokevirtual 102, 3) := by decide +kernel
theorem d_Md_goWinters_140 : decode prog_14_method_22_code 140 = .ok (.goto 16, 3) := by decide +kernel
theorem d_Md_goWinters_143 : decode prog_14_method_22_code 143 = .ok (.aload_n 0, 1) := by decide +kernel
theorem d_Md_goWinters_144 : decode prog_14_method_22_code 144 = .ok (.iload_n 2, 1) := by decide +kernel
theorem d_Md_goWinters_145 : decode prog_14_method_22_code 145 = .ok (.bipush 65, 2) := by decide +kernel
theorem d_Md_goWinters_147 : decode prog_14_method_22_code 147 = .ok (.isub, 1) := by decide +kernel
theorem d_Md_goWinters_148 : decode prog_14_method_22_code 148 = .ok (.iload 4, 2) := by decide +kernel
theorem d_Md_goWinters_150 : decode prog_14_method_22_code 150 = .ok (.bipush 97, 2) := by decide +kernel
theorem d_Md_goWinters_152 : decode prog_14_method_22_code 152 = .ok (.isub, 1) := by decide +kernel
theorem d_Md_goWinters_153 : decode prog_14_method_22_code 153 = .ok (.invokevirtual 105, 3) := by decide +kernel
theorem d_Md_goWinters_156 : decode prog_14_method_22_code 156 = .ok (.putfield 93, 3) := by decide +kernel
theorem d_Md_goWinters_159 : decode prog_14_method_22_code 159 = .ok (.iinc 1 2, 3) := by decide +kernel
theorem d_Md_goWinters_162 : decode prog_14_method_22_code 162 = .ok (.aload_n 0, 1) := by decide +kernel
theorem d_Md_goWinters_163 : decode prog_14_method_22_code 163 = .ok (.getfield 93, 3) := by decide +kernel
theorem d_Md_goWinters_166 : decode prog_14_method_22_code 166 = .ok (.ifCond .le 8, 3) := by decide +kernel
theorem d_Md_goWinters_169 : decode prog_14_method_22_code 169 = .ok (.aload_n 0, 1) := by decide +kernel
theorem d_Md_goWinters_170 : decode prog_14_method_22_code 170 = .ok (.getfield 87, 3) := by decide +kernel
theorem d_Md_goWinters_173 : decode prog_14_method_22_code 173 = .ok (.ireturn, 1) := by decide +kernel
theorem d_Md_goWinters_174 : decode prog_14_method_22_code 174 = .ok (.aload_n 0, 1) := by decide +kernel
theorem d_Md_goWinters_175 : decode prog_14_method_22_code 175 = .ok (.getfield 13, 3) := by decide +kernel
theorem d_Md_goWinters_178 : decode prog_14_method_22_code 178 = .ok (.bipush 24, 2) := by decide +kernel
theorem d_Md_goWinters_180 : decode prog_14_method_22_code 180 = .ok (.iaload, 1) := by decide +kernel
theorem d_Md_goWinters_181 : decode prog_14_method_22_code 181 = .ok (.iload_n 3, 1) := by decide +kernel
theorem d_Md_goWinters_182 : decode prog_14_method_22_code 182 = .ok (.iconst (-1), 1) := by decide +kernel
theorem d_Md_goWinters_183 : decode prog_14_method_22_code 183 = .ok (.ixor, 1) := by decide +kernel
theorem d_Md_goWinters_184 : decode prog_14_method_22_code 184 = .ok (.iand, 1) := by decide +kernel
theorem d_Md_goWinters_185 : decode prog_14_method_22_code 185 = .ok (.istore 4, 2) := by decide +kernel
theorem d_Md_goWinters_187 : decode prog_14_method_22_code 187 = .ok (.iconst 0, 1) := by decide +kernel
theorem d_Md_goWinters_188 : decode prog_14_method_22_code 188 = .ok (.istore 5, 2) := by decide +kernel
theorem d_Md_goWinters_190 : decode prog_14_method_22_code 190 = .ok (.iload 5, 2) := by decide +kernel
theorem d_Md_goWinters_192 : decode prog_14_method_22_code 192 = .ok (.bipush 6, 2) := by decide +kernel
theorem d_Md_goWinters_194 : decode prog_14_method_22_code 194 = .ok (.if_icmp .ge 40, 3) := by decide +kernel
theorem d_Md_goWinters_197 : decode prog_14_method_22_code 197 = .ok (.aload_n 0, 1) := by decide +kernel
theorem d_Md_goWinters_198 : decode prog_14_method_22_code 198 = .ok (.getfield 68, 3) := by decide +kernel
theorem d_Md_goWinters_201 : decode prog_14_method_22_code 201 = .ok (.ifCond .ge 33, 3) := by decide +kernel
theorem d_Md_goWinters_204 : decode prog_14_method_22_code 204 = .ok (.iload 4, 2) := by decide +kernel
theorem d_Md_goWinters_206 : decode prog_14_method_22_code 206 = .ok (.iload 5, 2) := by decide +kernel
theorem d_Md_goWinters_208 : decode prog_14_method_22_code 208 = .ok (.invokestatic 74, 3) := by decide +kernel
theorem d_Md_goWinters_211 : decode prog_14_method_22_code 211 = .ok (.ifCond .eq 17, 3) := by decide +kernel
theorem d_Md_goWinters_214 : decode prog_14_method_22_code 214 = .ok (.aload_n 0, 1) := by decide +kernel
theorem d_Md_goWinters_215 : decode prog_14_method_22_code 215 = .ok (.aload_n 0, 1) := by decide +kernel
theorem d_Md_goWinters_216 : decode prog_14_method_22_code 216 = .ok (.getfield 87, 3) := by decide +kernel
theorem d_Md_goWinters_219 : decode prog_14_method_22_code 219 = .ok (.putfield 68, 3) := by decide +kernel
theorem d_Md_goWinters_222 : decode prog_14_method_22_code 222 = .ok (.aload_n 0, 1) := by decide +kernel
theorem d_Md_goWinters_223 : decode prog_14_method_22_code 223 = .ok (.iload 5, 2) := by decide +kernel
theorem d_Md_goWinters_225 : decode prog_14_method_22_code 225 = .ok (.putfield 71, 3) := by decide +kernel
theorem d_Md_goWinters_228 : decode prog_14_method_22_code 228 = .ok (.iinc 5 1, 3) := by decide +kernel
theorem d_Md_goWinters_231 : decode prog_14_method_22_code 231 = .ok (.goto (-41), 3) := by decide +kernel
theorem d_Md_goWinters_234 : decode prog_14_method_22_code 234 = .ok (.aload_n 0, 1) := by decide +kernel
theorem d_Md_goWinters_235 : decode prog_14_method_22_code 235 = .ok (.dup, 1) := by decide +kernel
theorem d_Md_goWinters_236 : decode prog_14_method_22_code 236 = .ok (.getfield 87, 3) := by decide +kernel
theorem d_Md_goWinters_239 : decode prog_14_method_22_code 239 = .ok (.iconst 1, 1) := by decide +kernel
theorem d_Md_goWinters_240 : decode prog_14_method_22_code 240 = .ok (.iadd, 1) := by decide +kernel
theorem d_Md_goWinters_241 : decode prog_14_method_22_code 241 = .ok (.putfield 87, 3) := by decide +kernel
theorem d_Md_goWinters_244 : decode prog_14_method_22_code 244 = .ok (.goto (-233), 3) := by decide +kernel
theorem d_Md_goWinters_247 : decode prog_14_method_22_code 247 = .ok (.bipush (-6), 2) := by decide +kernel
theorem d_Md_goWinters_249 : decode prog_14_method_22_code 249 = .ok (.ireturn, 1) := by decide +kernel
theorem d_Md_judge_0 : decode prog_14_method_23_code 0 = .ok (.iload_n 1, 1) := by decide +kernel
theorem d_Md_judge_1 : decode prog_14_method_23_code 1 = .ok (.iconst 0, 1) := by decide +kernel
theorem d_Md_judge_2 : decode prog_14_method_23_code 2 = .ok (.iconst 1, 1) := by decide +kernel
theorem d_Md_judge_3 : decode prog_14_method_23_code 3 = .ok (.invokestatic 42, 3) := by decide +kernel
theorem d_Md_judge_6 : decode prog_14_method_23_code 6 = .ok (.ifCond .ne 6, 3) := by decide +kernel
theorem d_Md_judge_9 : decode prog_14_method_23_code 9 = .ok (.bipush (-2), 2) := by decide +kernel
theorem d_Md_judge_11 : decode prog_14_method_23_code 11 = .ok (.ireturn, 1) := by decide +kernel
theorem d_Md_judge_12 : decode prog_14_method_23_code 12 = .ok (.aload_n 0, 1) := by decide +kernel
theorem d_Md_judge_13 : decode prog_14_method_23_code 13 = .ok (.invokevirtual 61, 3) := by decide +kernel
theorem d_Md_judge_16 : decode prog_14_method_23_code 16 = .ok (.ifCond .lt 6, 3) := by decide +kernel
theorem d_Md_judge_19 : decode prog_14_method_23_code 19 = .ok (.bipush (-5), 2) := by decide +kernel
theorem d_Md_judge_21 : decode prog_14_method_23_code 21 = .ok (.ireturn, 1) := by decide +kernel
theorem d_Md_judge_22 : decode prog_14_method_23_code 22 = .ok (.aload_n 0, 1) := by decide +kernel
theorem d_Md_judge_23 : decode prog_14_method_23_code 23 = .ok (.invokevirtual 108, 3) := by decide +kernel
theorem d_Md_judge_26 : decode prog_14_method_23_code 26 = .ok (.istore_n 2, 1) := by decide +kernel
theorem d_Md_judge_27 : decode prog_14_method_23_code 27 = .ok (.iload_n 2, 1) := by decide +kernel
theorem d_Md_judge_28 : decode prog_14_method_23_code 28 = .ok (.ifCond .lt 7, 3) := by decide +kernel
theorem d_Md_judge_31 : decode prog_14_method_23_code 31 = .ok (.iload_n 1, 1) := by decide +kernel
theorem d_Md_judge_32 : decode prog_14_method_23_code 32 = .ok (.ifCond .ne 7, 3) := by decide +kernel
theorem d_Md_judge_35 : decode prog_14_method_23_code 35 = .ok (.iload_n 2, 1) := by decide +kernel
theorem d_Md_judge_36 : decode prog_14_method_23_code 36 = .ok (.goto 7, 3) := by decide +kernel
theorem d_Md_judge_39 : decode prog_14_method_23_code 39 = .ok (.aload_n 0, 1) := by decide +kernel
theorem d_Md_judge_40 : decode prog_14_method_23_code 40 = .ok (.getfield 93, 3) := by decide +kernel
theorem d_Md_judge_43 : decode prog_14_method_23_code 43 = .ok (.ireturn, 1) := by decide +kernel
theorem d_Md_barOfWinters_0 : decode prog_14_method_24_code 0 = .ok (.aload_n 0, 1) := by decide +kernel
theorem d_Md_barOfWinters_1 : decode prog_14_method_24_code 1 = .ok (.invokevirtual 61, 3) := by decide +kernel
theorem d_Md_barOfWinters_4 : decode prog_14_method_24_code 4 = .ok (.ifCond .ge 10, 3) := by decide +kernel
theorem d_Md_barOfWinters_7 : decode prog_14_method_24_code 7 = .ok (.aload_n 0, 1) := by decide +kernel
theorem d_Md_barOfWinters_8 : decode prog_14_method_24_code 8 = .ok (.invokevirtual 108, 3) := by decide +kernel
theorem d_Md_barOfWinters_11 : decode prog_14_method_24_code 11 = .ok (.ifCond .lt 8, 3) := by decide +kernel
theorem d_Md_barOfWinters_14 : decode prog_14_method_24_code 14 = .ok (.bipush (-5), 2) := by decide +kernel
theorem d_Md_barOfWinters_16 : decode prog_14_method_24_code 16 = .ok (.goto 4, 3) := by decide +kernel
theorem d_Md_barOfWinters_19 : decode prog_14_method_24_code 19 = .ok (.iconst 0, 1) := by decide +kernel
theorem d_Md_barOfWinters_20 : decode prog_14_method_24_code 20 = .ok (.ireturn, 1) := by decide +kernel
theorem d_Md_done_0 : decode prog_14_method_25_code 0 = .ok (.aload_n 0, 1) := by decide +kernel
theorem d_Md_done_1 : decode prog_14_method_25_code 1 = .ok (.invokevirtual 111, 3) := by decide +kernel
theorem d_Md_done_4 : decode prog_14_method_25_code 4 = .ok (.ifCond .ge 6, 3) := by decide +kernel
theorem d_Md_done_7 : decode prog_14_method_25_code 7 = .ok (.bipush (-5), 2) := by decide +kernel
theorem d_Md_done_9 : decode prog_14_method_25_code 9 = .ok (.ireturn, 1) := by decide +kernel
theorem d_Md_done_10 : decode prog_14_method_25_code 10 = .ok (.iconst 0, 1) := by decide +kernel
theorem d_Md_done_11 : decode prog_14_method_25_code 11 = .ok (.istore_n 1, 1) := by decide +kernel
theorem d_Md_done_12 : decode prog_14_method_25_code 12 = .ok (.iload_n 1, 1) := by decide +kernel
theorem d_Md_done_13 : decode prog_14_method_25_code 13 = .ok (.bipush 26, 2) := by decide +kernel
theorem d_Md_done_15 : decode prog_14_method_25_code 15 = .ok (.if_icmp .ge 21, 3) := by decide +kernel
theorem d_Md_done_18 : decode prog_14_method_25_code 18 = .ok (.aload_n 0, 1) := by decide +kernel
theorem d_Md_done_19 : decode prog_14_method_25_code 19 = .ok (.getfield 7, 3) := by decide +kernel
theorem d_Md_done_22 : decode prog_14_method_25_code 22 = .ok (.iload_n 1, 1) := by decide +kernel
theorem d_Md_done_23 : decode prog_14_method_25_code 23 = .ok (.aload_n 0, 1) := by decide +kernel
theorem d_Md_done_24 : decode prog_14_method_25_code 24 = .ok (.getfield 13, 3) := by decide +kernel
theorem d_Md_done_27 : decode prog_14_method_25_code 27 = .ok (.iload_n 1, 1) := by decide +kernel
theorem d_Md_done_28 : decode prog_14_method_25_code 28 = .ok (.iaload, 1) := by decide +kernel
theorem d_Md_done_29 : decode prog_14_method_25_code 29 = .ok (.iastore, 1) := by decide +kernel
theorem d_Md_done_30 : decode prog_14_method_25_code 30 = .ok (.iinc 1 1, 3) := by decide +kernel
theorem d_Md_done_33 : decode prog_14_method_25_code 33 = .ok (.goto (-21), 3) := by decide +kernel
theorem d_Md_done_36 : decode prog_14_method_25_code 36 = .ok (.aload_n 0, 1) := by decide +kernel
theorem d_Md_done_37 : decode prog_14_method_25_code 37 = .ok (.iconst 0, 1) := by decide +kernel
theorem d_Md_done_38 : decode prog_14_method_25_code 38 = .ok (.putfield 53, 3) := by decide +kernel
theorem d_Md_done_41 : decode prog_14_method_25_code 41 = .ok (.aload_n 0, 1) := by decide +kernel
theorem d_Md_done_42 : decode prog_14_method_25_code 42 = .ok (.getfield 87, 3) := by decide +kernel
theorem d_Md_done_45 : decode prog_14_method_25_code 45 = .ok (.ireturn, 1) := by decide +kernel
theorem d_Md_behind_0 : decode prog_14_method_26_code 0 = .ok (.iload_n 1, 1) := by decide +kernel
theorem d_Md_behind_1 : decode prog_14_method_26_code 1 = .ok (.iconst 0, 1) := by decide +kernel
theorem d_Md_behind_2 : decode prog_14_method_26_code 2 = .ok (.iconst 5, 1) := by decide +kernel
theorem d_Md_behind_3 : decode prog_14_method_26_code 3 = .ok (.invokestatic 42, 3) := by decide +kernel
theorem d_Md_behind_6 : decode prog_14_method_26_code 6 = .ok (.ifCond .ne 5, 3) := by decide +kernel
theorem d_Md_behind_9 : decode prog_14_method_26_code 9 = .ok (.iconst (-1), 1) := by decide +kernel
theorem d_Md_behind_10 : decode prog_14_method_26_code 10 = .ok (.ireturn, 1) := by decide +kernel
theorem d_Md_behind_11 : decode prog_14_method_26_code 11 = .ok (.iload_n 2, 1) := by decide +kernel
theorem d_Md_behind_12 : decode prog_14_method_26_code 12 = .ok (.iconst 0, 1) := by decide +kernel
theorem d_Md_behind_13 : decode prog_14_method_26_code 13 = .ok (.iconst 2, 1) := by decide +kernel
theorem d_Md_behind_14 : decode prog_14_method_26_code 14 = .ok (.invokestatic 42, 3) := by decide +kernel
theorem d_Md_behind_17 : decode prog_14_method_26_code 17 = .ok (.ifCond .ne 6, 3) := by decide +kernel
theorem d_Md_behind_20 : decode prog_14_method_26_code 20 = .ok (.bipush (-2), 2) := by decide +kernel
theorem d_Md_behind_22 : decode prog_14_method_26_code 22 = .ok (.ireturn, 1) := by decide +kernel
theorem d_Md_behind_23 : decode prog_14_method_26_code 23 = .ok (.aload_n 0, 1) := by decide +kernel
theorem d_Md_behind_24 : decode prog_14_method_26_code 24 = .ok (.invokevirtual 111, 3) := by decide +kernel
theorem d_Md_behind_27 : decode prog_14_method_26_code 27 = .ok (.ifCond .ge 6, 3) := by decide +kernel
theorem d_Md_behind_30 : decode prog_14_method_26_code 30 = .ok (.bipush (-5), 2) := by decide +kernel
theorem d_Md_behind_32 : decode prog_14_method_26_code 32 = .ok (.ireturn, 1) := by decide +kernel
theorem d_Md_behind_33 : decode prog_14_method_26_code 33 = .ok (.iload_n 2, 1) := by decide +kernel
theorem d_Md_behind_34 : decode prog_14_method_26_code 34 = .ok (.iconst 2, 1) := by decide +kernel
theorem d_Md_behind_35 : decode prog_14_method_26_code 35 = .ok (.if_icmp .ne 17, 3) := by decide +kernel
theorem d_Md_behind_38 : decode prog_14_method_26_code 38 = .ok (.aload_n 0, 1) := by decide +kernel
theorem d_Md_behind_39 : decode prog_14_method_26_code 39 = .ok (.getfield 13, 3) := by decide +kernel
theorem d_Md_behind_42 : decode prog_14_method_26_code 42 = .ok (.bipush 24, 2) := by decide +kernel
theorem d_Md_behind_44 : decode prog_14_method_26_code 44 = .ok (.iaload, 1) := by decide +kernel
theorem d_Md_behind_45 : decode prog_14_method_26_code 45 = .ok (.iload_n 1, 1) := by decide +kernel
theorem d_Md_behind_46 : decode prog_14_method_26_code 46 = .ok (.ishr, 1) := by decide +kernel
theorem d_Md_behind_47 : decode prog_14_method_26_code 47 = .ok (.iconst 1, 1) := by decide +kernel
theorem d_Md_behind_48 : decode prog_14_method_26_code 48 = .ok (.iand, 1) := by decide +kernel
theorem d_Md_behind_49 : decode prog_14_method_26_code 49 = .ok (.goto 17, 3) := by decide +kernel
theorem d_Md_behind_52 : decode prog_14_method_26_code 52 = .ok (.aload_n 0, 1) := by decide +kernel
theorem d_Md_behind_53 : decode prog_14_method_26_code 53 = .ok (.getfield 13, 3) := by decide +kernel
theorem d_Md_behind_56 : decode prog_14_method_26_code 56 = .ok (.bipush 12, 2) := by decide +kernel
theorem d_Md_behind_58 : decode prog_14_method_26_code 58 = .ok (.bipush 6, 2) := by decide +kernel
theorem d_Md_behind_60 : decode prog_14_method_26_code 60 = .ok (.iload_n 2, 1) := by decide +kernel
theorem d_Md_behind_61 : decode prog_14_method_26_code 61 = .ok (.imul, 1) := by decide +kernel
theorem d_Md_behind_62 : decode prog_14_method_26_code 62 = .ok (.iadd, 1) := by decide +kernel
theorem d_Md_behind_63 : decode prog_14_method_26_code 63 = .ok (.iload_n 1, 1) := by decide +kernel
theorem d_Md_behind_64 : decode prog_14_method_26_code 64 = .ok (.iadd, 1) := by decide +kernel
theorem d_Md_behind_65 : decode prog_14_method_26_code 65 = .ok (.iaload, 1) := by decide +kernel
theorem d_Md_behind_66 : decode prog_14_method_26_code 66 = .ok (.ireturn, 1) := by decide +kernel
theorem d_Md_then_0 : decode prog_14_method_27_code 0 = .ok (.iload_n 1, 1) := by decide +kernel
theorem d_Md_then_1 : decode prog_14_method_27_code 1 = .ok (.iconst 0, 1) := by decide +kernel
theorem d_Md_then_2 : decode prog_14_method_27_code 2 = .ok (.iconst 5, 1) := by decide +kernel
theorem d_Md_then_3 : decode prog_14_method_27_code 3 = .ok (.invokestatic 42, 3) := by decide +kernel
theorem d_Md_then_6 : decode prog_14_method_27_code 6 = .ok (.ifCond .ne 6, 3) := by decide +kernel
theorem d_Md_then_9 : decode prog_14_method_27_code 9 = .ok (.bipush (-2), 2) := by decide +kernel
theorem d_Md_then_11 : decode prog_14_method_27_code 11 = .ok (.ireturn, 1) := by decide +kernel
theorem d_Md_then_12 : decode prog_14_method_27_code 12 = .ok (.aload_n 0, 1) := by decide +kernel
theorem d_Md_then_13 : decode prog_14_method_27_code 13 = .ok (.invokevirtual 111, 3) := by decide +kernel
theorem d_Md_then_16 : decode prog_14_method_27_code 16 = .ok (.ifCond .ge 6, 3) := by decide +kernel
theorem d_Md_then_19 : decode prog_14_method_27_code 19 = .ok (.bipush (-5), 2) := by decide +kernel
theorem d_Md_then_21 : decode prog_14_method_27_code 21 = .ok (.ireturn, 1) := by decide +kernel
theorem d_Md_then_22 : decode prog_14_method_27_code 22 = .ok (.iload_n 1, 1) := by decide +kernel
theorem d_Md_then_23 : decode prog_14_method_27_code 23 = .ok (.tableswitch 55 0 3 #[29, 34, 42, 47], 29) := by decide +kernel
theorem d_Md_then_52 : decode prog_14_method_27_code 52 = .ok (.aload_n 0, 1) := by decide +kernel
theorem d_Md_then_53 : decode prog_14_method_27_code 53 = .ok (.invokevirtual 78, 3) := by decide +kernel
theorem d_Md_then_56 : decode prog_14_method_27_code 56 = .ok (.ireturn, 1) := by decide +kernel
theorem d_Md_then_57 : decode prog_14_method_27_code 57 = .ok (.aload_n 0, 1) := by decide +kernel
theorem d_Md_then_58 : decode prog_14_method_27_code 58 = .ok (.getfield 13, 3) := by decide +kernel
theorem d_Md_then_61 : decode prog_14_method_27_code 61 = .ok (.bipush 24, 2) := by decide +kernel
theorem d_Md_then_63 : decode prog_14_method_27_code 63 = .ok (.iaload, 1) := by decide +kernel
theorem d_Md_then_64 : decode prog_14_method_27_code 64 = .ok (.ireturn, 1) := by decide +kernel
theorem d_Md_then_65 : decode prog_14_method_27_code 65 = .ok (.aload_n 0, 1) := by decide +kernel
theorem d_Md_then_66 : decode prog_14_method_27_code 66 = .ok (.getfield 65, 3) := by decide +kernel
theorem d_Md_then_69 : decode prog_14_method_27_code 69 = .ok (.ireturn, 1) := by decide +kernel
theorem d_Md_then_70 : decode prog_14_method_27_code 70 = .ok (.aload_n 0, 1) := by decide +kernel
theorem d_Md_then_71 : decode prog_14_method_27_code 71 = .ok (.getfield 13, 3) := by decide +kernel
theorem d_Md_then_74 : decode prog_14_method_27_code 74 = .ok (.bipush 25, 2) := by decide +kernel
theorem d_Md_then_76 : decode prog_14_method_27_code 76 = .ok (.iaload, 1) := by decide +kernel
theorem d_Md_then_77 : decode prog_14_method_27_code 77 = .ok (.ireturn, 1) := by decide +kernel
theorem d_Md_then_78 : decode prog_14_method_27_code 78 = .ok (.iload_n 1, 1) := by decide +kernel
theorem d_Md_then_79 : decode prog_14_method_27_code 79 = .ok (.iconst 4, 1) := by decide +kernel
theorem d_Md_then_80 : decode prog_14_method_27_code 80 = .ok (.if_icmp .ne 10, 3) := by decide +kernel
theorem d_Md_then_83 : decode prog_14_method_27_code 83 = .ok (.aload_n 0, 1) := by decide +kernel
theorem d_Md_then_84 : decode prog_14_method_27_code 84 = .ok (.getfield 68, 3) := by decide +kernel
theorem d_Md_then_87 : decode prog_14_method_27_code 87 = .ok (.goto 7, 3) := by decide +kernel
theorem d_Md_then_90 : decode prog_14_method_27_code 90 = .ok (.aload_n 0, 1) := by decide +kernel
theorem d_Md_then_91 : decode prog_14_method_27_code 91 = .ok (.getfield 71, 3) := by decide +kernel
theorem d_Md_then_94 : decode prog_14_method_27_code 94 = .ok (.ireturn, 1) := by decide +kernel
theorem d_Md_areLoops_0 : decode prog_14_method_28_code 0 = .ok (.iload_n 0, 1) := by decide +kernel
theorem d_Md_areLoops_1 : decode prog_14_method_28_code 1 = .ok (.iconst 0, 1) := by decide +kernel
theorem d_Md_areLoops_2 : decode prog_14_method_28_code 2 = .ok (.bipush 11, 2) := by decide +kernel
theorem d_Md_areLoops_4 : decode prog_14_method_28_code 4 = .ok (.invokestatic 42, 3) := by decide +kernel
theorem d_Md_areLoops_7 : decode prog_14_method_28_code 7 = .ok (.ifCond .eq 17, 3) := by decide +kernel
theorem d_Md_areLoops_10 : decode prog_14_method_28_code 10 = .ok (.iload_n 1, 1) := by decide +kernel
theorem d_Md_areLoops_11 : decode prog_14_method_28_code 11 = .ok (.iconst 0, 1) := by decide +kernel
theorem d_Md_areLoops_12 : decode prog_14_method_28_code 12 = .ok (.bipush 11, 2) := by decide +kernel
theorem d_Md_areLoops_14 : decode prog_14_method_28_code 14 = .ok (.invokestatic 42, 3) := by decide +kernel
theorem d_Md_areLoops_17 : decode prog_14_method_28_code 17 = .ok (.ifCond .eq 7, 3) := by decide +kernel
theorem d_Md_areLoops_20 : decode prog_14_method_28_code 20 = .ok (.iconst 1, 1) := by decide +kernel
theorem d_Md_areLoops_21 : decode prog_14_method_28_code 21 = .ok (.goto 4, 3) := by decide +kernel
theorem d_Md_areLoops_24 : decode prog_14_method_28_code 24 = .ok (.iconst 0, 1) := by decide +kernel
theorem d_Md_areLoops_25 : decode prog_14_method_28_code 25 = .ok (.ireturn, 1) := by decide +kernel
theorem d_Md_apart_0 : decode prog_14_method_29_code 0 = .ok (.aload_n 0, 1) := by decide +kernel
theorem d_Md_apart_1 : decode prog_14_method_29_code 1 = .ok (.invokevirtual 46, 3) := by decide +kernel
theorem d_Md_apart_4 : decode prog_14_method_29_code 4 = .ok (.iload_n 1, 1) := by decide +kernel
theorem d_Md_apart_5 : decode prog_14_method_29_code 5 = .ok (.iload_n 2, 1) := by decide +kernel
theorem d_Md_apart_6 : decode prog_14_method_29_code 6 = .ok (.invokestatic 114, 3) := by decide +kernel
theorem d_Md_apart_9 : decode prog_14_method_29_code 9 = .ok (.ifCond .eq 12, 3) := by decide +kernel
theorem d_Md_apart_12 : decode prog_14_method_29_code 12 = .ok (.aload_n 0, 1) := by decide +kernel
theorem d_Md_apart_13 : decode prog_14_method_29_code 13 = .ok (.iload_n 1, 1) := by decide +kernel
theorem d_Md_apart_14 : decode prog_14_method_29_code 14 = .ok (.iload_n 2, 1) := by decide +kernel
theorem d_Md_apart_15 : decode prog_14_method_29_code 15 = .ok (.invokevirtual 84, 3) := by decide +kernel
theorem d_Md_apart_18 : decode prog_14_method_29_code 18 = .ok (.goto 4, 3) := by decide +kernel
theorem d_Md_apart_21 : decode prog_14_method_29_code 21 = .ok (.iconst (-1), 1) := by decide +kernel
theorem d_Md_apart_22 : decode prog_14_method_29_code 22 = .ok (.ireturn, 1) := by decide +kernel
theorem d_Md_meets_0 : decode prog_14_method_30_code 0 = .ok (.aload_n 0, 1) := by decide +kernel
theorem d_Md_meets_1 : decode prog_14_method_30_code 1 = .ok (.invokevirtual 46, 3) := by decide +kernel
theorem d_Md_meets_4 : decode prog_14_method_30_code 4 = .ok (.iload_n 1, 1) := by decide +kernel
theorem d_Md_meets_5 : decode prog_14_method_30_code 5 = .ok (.iload_n 2, 1) := by decide +kernel
theorem d_Md_meets_6 : decode prog_14_method_30_code 6 = .ok (.invokestatic 114, 3) := by decide +kernel
theorem d_Md_meets_9 : decode prog_14_method_30_code 9 = .ok (.ifCond .eq 12, 3) := by decide +kernel
theorem d_Md_meets_12 : decode prog_14_method_30_code 12 = .ok (.aload_n 0, 1) := by decide +kernel
theorem d_Md_meets_13 : decode prog_14_method_30_code 13 = .ok (.iload_n 1, 1) := by decide +kernel
theorem d_Md_meets_14 : decode prog_14_method_30_code 14 = .ok (.iload_n 2, 1) := by decide +kernel
theorem d_Md_meets_15 : decode prog_14_method_30_code 15 = .ok (.invokevirtual 117, 3) := by decide +kernel
theorem d_Md_meets_18 : decode prog_14_method_30_code 18 = .ok (.goto 4, 3) := by decide +kernel
theorem d_Md_meets_21 : decode prog_14_method_30_code 21 = .ok (.iconst (-1), 1) := by decide +kernel
theorem d_Md_meets_22 : decode prog_14_method_30_code 22 = .ok (.ireturn, 1) := by decide +kernel
theorem d_Md_sees_0 : decode prog_14_method_31_code 0 = .ok (.iload_n 1, 1) := by decide +kernel
theorem d_Md_sees_1 : decode prog_14_method_31_code 1 = .ok (.iconst 0, 1) := by decide +kernel
theorem d_Md_sees_2 : decode prog_14_method_31_code 2 = .ok (.iconst 5, 1) := by decide +kernel
theorem d_Md_sees_3 : decode prog_14_method_31_code 3 = .ok (.invokestatic 42, 3) := by decide +kernel
theorem d_Md_sees_6 : decode prog_14_method_31_code 6 = .ok (.ifCond .ne 5, 3) := by decide +kernel
theorem d_Md_sees_9 : decode prog_14_method_31_code 9 = .ok (.iconst (-1), 1) := by decide +kernel
theorem d_Md_sees_10 : decode prog_14_method_31_code 10 = .ok (.ireturn, 1) := by decide +kernel
theorem d_Md_sees_11 : decode prog_14_method_31_code 11 = .ok (.aload_n 0, 1) := by decide +kernel
theorem d_Md_sees_12 : decode prog_14_method_31_code 12 = .ok (.getfield 7, 3) := by decide +kernel
theorem d_Md_sees_15 : decode prog_14_method_31_code 15 = .ok (.bipush 12, 2) := by decide +kernel
theorem d_Md_sees_17 : decode prog_14_method_31_code 17 = .ok (.iload_n 1, 1) := by decide +kernel
theorem d_Md_sees_18 : decode prog_14_method_31_code 18 = .ok (.iadd, 1) := by decide +kernel
theorem d_Md_sees_19 : decode prog_14_method_31_code 19 = .ok (.iaload, 1) := by decide +kernel
theorem d_Md_sees_20 : decode prog_14_method_31_code 20 = .ok (.ifCond .ge 6, 3) := by decide +kernel
theorem d_Md_sees_23 : decode prog_14_method_31_code 23 = .ok (.bipush (-3), 2) := by decide +kernel
theorem d_Md_sees_25 : decode prog_14_method_31_code 25 = .ok (.ireturn, 1) := by decide +kernel
theorem d_Md_sees_26 : decode prog_14_method_31_code 26 = .ok (.aload_n 0, 1) := by decide +kernel
theorem d_Md_sees_27 : decode prog_14_method_31_code 27 = .ok (.invokevirtual 46, 3) := by decide +kernel
theorem d_Md_sees_30 : decode prog_14_method_31_code 30 = .ok (.iconst 0, 1) := by decide +kernel
theorem d_Md_sees_31 : decode prog_14_method_31_code 31 = .ok (.istore_n 2, 1) := by decide +kernel
theorem d_Md_sees_32 : decode prog_14_method_31_code 32 = .ok (.aload_n 0, 1) := by decide +kernel
theorem d_Md_sees_33 : decode prog_14_method_31_code 33 = .ok (.getfield 13, 3) := by decide +kernel
theorem d_Md_sees_36 : decode prog_14_method_31_code 36 = .ok (.bipush 12, 2) := by decide +kernel
theorem d_Md_sees_38 : decode prog_14_method_31_code 38 = .ok (.iload_n 1, 1) := by decide +kernel
theorem d_Md_sees_39 : decode prog_14_method_31_code 39 = .ok (.iadd, 1) := by decide +kernel
theorem d_Md_sees_40 : decode prog_14_method_31_code 40 = .ok (.iaload, 1) := by decide +kernel
theorem d_Md_sees_41 : decode prog_14_method_31_code 41 = .ok (.istore_n 3, 1) := by decide +kernel
theorem d_Md_sees_42 : decode prog_14_method_31_code 42 = .ok (.iconst 0, 1) := by decide +kernel
theorem d_Md_sees_43 : decode prog_14_method_31_code 43 = .ok (.istore 4, 2) := by decide +kernel
theorem d_Md_sees_45 : decode prog_14_method_31_code 45 = .ok (.iload 4, 2) := by decide +kernel
theorem d_Md_sees_47 : decode prog_14_method_31_code 47 = .ok (.bipush 6, 2) := by decide +kernel
theorem d_Md_sees_49 : decode prog_14_method_31_code 49 = .ok (.if_icmp .ge 139, 3) := by decide +kernel
theorem d_Md_sees_52 : decode prog_14_method_31_code 52 = .ok (.aload_n 0, 1) := by decide +kernel
theorem d_Md_sees_53 : decode prog_14_method_31_code 53 = .ok (.getfield 13, 3) := by decide +kernel
theorem d_Md_sees_56 : decode prog_14_method_31_code 56 = .ok (.bipush 12, 2) := by decide +kernel
theorem d_Md_sees_58 : decode prog_14_method_31_code 58 = .ok (.iload 4, 2) := by decide +kernel
theorem d_Md_sees_60 : decode prog_14_method_31_code 60 = .ok (.iadd, 1) := by decide +kernel
theorem d_Md_sees_61 : decode prog_14_method_31_code 61 = .ok (.iaload, 1) := by decide +kernel
theorem d_Md_sees_62 : decode prog_14_method_31_code 62 = .ok (.istore 5, 2) := by decide +kernel
theorem d_Md_sees_64 : decode prog_14_method_31_code 64 = .ok (.iload 4, 2) := by decide +kernel
theorem d_Md_sees_66 : decode prog_14_method_31_code 66 = .ok (.iload_n 1, 1) := by decide +kernel
theorem d_Md_sees_67 : decode prog_14_method_31_code 67 = .ok (.if_icmp .eq 12, 3) := by decide +kernel
theorem d_Md_sees_70 : decode prog_14_method_31_code 70 = .ok (.iload 5, 2) := by decide +kernel
theorem d_Md_sees_72 : decode prog_14_method_31_code 72 = .ok (.ifCond .lt 7, 3) := by decide +kernel
theorem d_Md_sees_75 : decode prog_14_method_31_code 75 = .ok (.iconst 1, 1) := by decide +kernel
theorem d_Md_sees_76 : decode prog_14_method_31_code 76 = .ok (.goto 4, 3) := by decide +kernel
theorem d_Md_sees_79 : decode prog_14_method_31_code 79 = .ok (.iconst 0, 1) := by decide +kernel
theorem d_Md_sees_80 : decode prog_14_method_31_code 80 = .ok (.istore 6, 2) := by decide +kernel
theorem d_Md_sees_82 : decode prog_14_method_31_code 82 = .ok (.iconst 0, 1) := by decide +kernel
theorem d_Md_sees_83 : decode prog_14_method_31_code 83 = .ok (.istore 7, 2) := by decide +kernel
theorem d_Md_sees_85 : decode prog_14_method_31_code 85 = .ok (.iload 7, 2) := by decide +kernel
theorem d_Md_sees_87 : decode prog_14_method_31_code 87 = .ok (.bipush 6, 2) := by decide +kernel
theorem d_Md_sees_89 : decode prog_14_method_31_code 89 = .ok (.if_icmp .ge 77, 3) := by decide +kernel
theorem d_Md_sees_92 : decode prog_14_method_31_code 92 = .ok (.iload 6, 2) := by decide +kernel
theorem d_Md_sees_94 : decode prog_14_method_31_code 94 = .ok (.ifCond .eq 72, 3) := by decide +kernel
theorem d_Md_sees_97 : decode prog_14_method_31_code 97 = .ok (.aload_n 0, 1) := by decide +kernel
theorem d_Md_sees_98 : decode prog_14_method_31_code 98 = .ok (.getfield 13, 3) := by decide +kernel
theorem d_Md_sees_101 : decode prog_14_method_31_code 101 = .ok (.bipush 12, 2) := by decide +kernel
theorem d_Md_sees_103 : decode prog_14_method_31_code 103 = .ok (.iload 7, 2) := by decide +kernel
theorem d_Md_sees_105 : decode prog_14_method_31_code 105 = .ok (.iadd, 1) := by decide +kernel
theorem d_Md_sees_106 : decode prog_14_method_31_code 106 = .ok (.iaload, 1) := by decide +kernel
theorem d_Md_sees_107 : decode prog_14_method_31_code 107 = .ok (.istore 8, 2) := by decide +kernel
theorem d_Md_sees_109 : decode prog_14_method_31_code 109 = .ok (.iload 7, 2) := by decide +kernel
theorem d_Md_sees_111 : decode prog_14_method_31_code 111 = .ok (.iload_n 1, 1) := by decide +kernel
theorem d_Md_sees_112 : decode prog_14_method_31_code 112 = .ok (.if_icmp .eq 41, 3) := by decide +kernel
theorem d_Md_sees_115 : decode prog_14_method_31_code 115 = .ok (.iload 7, 2) := by decide +kernel
theorem d_Md_sees_117 : decode prog_14_method_31_code 117 = .ok (.iload 4, 2) := by decide +kernel
theorem d_Md_sees_119 : decode prog_14_method_31_code 119 = .ok (.if_icmp .eq 34, 3) := by decide +kernel
theorem d_Md_sees_122 : decode prog_14_method_31_code 122 = .ok (.iload 8, 2) := by decide +kernel
theorem d_Md_sees_124 : decode prog_14_method_31_code 124 = .ok (.ifCond .lt 29, 3) := by decide +kernel
theorem d_Md_sees_127 : decode prog_14_method_31_code 127 = .ok (.aload_n 0, 1) := by decide +kernel
theorem d_Md_sees_128 : decode prog_14_method_31_code 128 = .ok (.iload_n 3, 1) := by decide +kernel
theorem d_Md_sees_129 : decode prog_14_method_31_code 129 = .ok (.iload 8, 2) := by decide +kernel
theorem d_Md_sees_131 : decode prog_14_method_31_code 131 = .ok (.invokevirtual 84, 3) := by decide +kernel
theorem d_Md_sees_134 : decode prog_14_method_31_code 134 = .ok (.aload_n 0, 1) := by decide +kernel
theorem d_Md_sees_135 : decode prog_14_method_31_code 135 = .ok (.iload 8, 2) := by decide +kernel
theorem d_Md_sees_137 : decode prog_14_method_31_code 137 = .ok (.iload 5, 2) := by decide +kernel
theorem d_Md_sees_139 : decode prog_14_method_31_code 139 = .ok (.invokevirtual 84, 3) := by decide +kernel
theorem d_Md_sees_142 : decode prog_14_method_31_code 142 = .ok (.iadd, 1) := by decide +kernel
theorem d_Md_sees_143 : decode prog_14_method_31_code 143 = .ok (.aload_n 0, 1) := by decide +kernel
theorem d_Md_sees_144 : decode prog_14_method_31_code 144 = .ok (.iload_n 3, 1) := by decide +kernel
theorem d_Md_sees_145 : decode prog_14_method_31_code 145 = .ok (.iload 5, 2) := by decide +kernel
theorem d_Md_sees_147 : decode prog_14_method_31_code 147 = .ok (.invokevirtual 84, 3) := by decide +kernel
theorem d_Md_sees_150 : decode prog_14_method_31_code 150 = .ok (.if_icmp .le 7, 3) := by decide +kernel
theorem d_Md_sees_153 : decode prog_14_method_31_code 153 = .ok (.iconst 1, 1) := by decide +kernel
theorem d_Md_sees_154 : decode prog_14_method_31_code 154 = .ok (.goto 4, 3) := by decide +kernel
theorem d_Md_sees_157 : decode prog_14_method_31_code 157 = .ok (.iconst 0, 1) := by decide +kernel
theorem d_Md_sees_158 : decode prog_14_method_31_code 158 = .ok (.istore 6, 2) := by decide +kernel
theorem d_Md_sees_160 : decode prog_14_method_31_code 160 = .ok (.iinc 7 1, 3) := by decide +kernel
theorem d_Md_sees_163 : decode prog_14_method_31_code 163 = .ok (.goto (-78), 3) := by decide +kernel
theorem d_Md_sees_166 : decode prog_14_method_31_code 166 = .ok (.iload_n 2, 1) := by decide +kernel
theorem d_Md_sees_167 : decode prog_14_method_31_code 167 = .ok (.iload 6, 2) := by decide +kernel
theorem d_Md_sees_169 : decode prog_14_method_31_code 169 = .ok (.ifCond .eq 10, 3) := by decide +kernel
theorem d_Md_sees_172 : decode prog_14_method_31_code 172 = .ok (.iconst 1, 1) := by decide +kernel
theorem d_Md_sees_173 : decode prog_14_method_31_code 173 = .ok (.iload 4, 2) := by decide +kernel
theorem d_Md_sees_175 : decode prog_14_method_31_code 175 = .ok (.ishl, 1) := by decide +kernel
theorem d_Md_sees_176 : decode prog_14_method_31_code 176 = .ok (.goto 4, 3) := by decide +kernel
theorem d_Md_sees_179 : decode prog_14_method_31_code 179 = .ok (.iconst 0, 1) := by decide +kernel
theorem d_Md_sees_180 : decode prog_14_method_31_code 180 = .ok (.ior, 1) := by decide +kernel
theorem d_Md_sees_181 : decode prog_14_method_31_code 181 = .ok (.istore_n 2, 1) := by decide +kernel
theorem d_Md_sees_182 : decode prog_14_method_31_code 182 = .ok (.iinc 4 1, 3) := by decide +kernel
theorem d_Md_sees_185 : decode prog_14_method_31_code 185 = .ok (.goto (-140), 3) := by decide +kernel
theorem d_Md_sees_188 : decode prog_14_method_31_code 188 = .ok (.iload_n 2, 1) := by decide +kernel
theorem d_Md_sees_189 : decode prog_14_method_31_code 189 = .ok (.ireturn, 1) := by decide +kernel
theorem d_Md_near_0 : decode prog_14_method_32_code 0 = .ok (.iload_n 1, 1) := by decide +kernel
theorem d_Md_near_1 : decode prog_14_method_32_code 1 = .ok (.iconst 0, 1) := by decide +kernel
theorem d_Md_near_2 : decode prog_14_method_32_code 2 = .ok (.iconst 3, 1) := by decide +kernel
theorem d_Md_near_3 : decode prog_14_method_32_code 3 = .ok (.invokestatic 42, 3) := by decide +kernel
theorem d_Md_near_6 : decode prog_14_method_32_code 6 = .ok (.ifCond .ne 6, 3) := by decide +kernel
theorem d_Md_near_9 : decode prog_14_method_32_code 9 = .ok (.bipush (-2), 2) := by decide +kernel
theorem d_Md_near_11 : decode prog_14_method_32_code 11 = .ok (.ireturn, 1) := by decide +kernel
theorem d_Md_near_12 : decode prog_14_method_32_code 12 = .ok (.aload_n 0, 1) := by decide +kernel
theorem d_Md_near_13 : decode prog_14_method_32_code 13 = .ok (.invokevirtual 46, 3) := by decide +kernel
theorem d_Md_near_16 : decode prog_14_method_32_code 16 = .ok (.ldc 120, 2) := by decide +kernel
theorem d_Md_near_18 : decode prog_14_method_32_code 18 = .ok (.istore_n 2, 1) := by decide +kernel
theorem d_Md_near_19 : decode prog_14_method_32_code 19 = .ok (.bipush (-6), 2) := by decide +kernel
theorem d_Md_near_21 : decode prog_14_method_32_code 21 = .ok (.istore_n 3, 1) := by decide +kernel
theorem d_Md_near_22 : decode prog_14_method_32_code 22 = .ok (.iconst 0, 1) := by decide +kernel
theorem d_Md_near_23 : decode prog_14_method_32_code 23 = .ok (.istore 4, 2) := by decide +kernel
theorem d_Md_near_25 : decode prog_14_method_32_code 25 = .ok (.iload 4, 2) := by decide +kernel
theorem d_Md_near_27 : decode prog_14_method_32_code 27 = .ok (.bipush 12, 2) := by decide +kernel
theorem d_Md_near_29 : decode prog_14_method_32_code 29 = .ok (.if_icmp .ge 136, 3) := by decide +kernel
theorem d_Md_near_32 : decode prog_14_method_32_code 32 = .ok (.aload_n 0, 1) := by decide +kernel
theorem d_Md_near_33 : decode prog_14_method_32_code 33 = .ok (.invokevirtual 78, 3) := by decide +kernel
theorem d_Md_near_36 : decode prog_14_method_32_code 36 = .ok (.ifCond .eq 129, 3) := by decide +kernel
theorem d_Md_near_39 : decode prog_14_method_32_code 39 = .ok (.iconst 0, 1) := by decide +kernel
theorem d_Md_near_40 : decode prog_14_method_32_code 40 = .ok (.istore 5, 2) := by decide +kernel
theorem d_Md_near_42 : decode prog_14_method_32_code 42 = .ok (.iconst 0, 1) := by decide +kernel
theorem d_Md_near_43 : decode prog_14_method_32_code 43 = .ok (.istore 6, 2) := by decide +kernel
theorem d_Md_near_45 : decode prog_14_method_32_code 45 = .ok (.iconst 0, 1) := by decide +kernel
theorem d_Md_near_46 : decode prog_14_method_32_code 46 = .ok (.istore 7, 2) := by decide +kernel
theorem d_Md_near_48 : decode prog_14_method_32_code 48 = .ok (.iload 7, 2) := by decide +kernel
theorem d_Md_near_50 : decode prog_14_method_32_code 50 = .ok (.bipush 6, 2) := by decide +kernel
theorem d_Md_near_52 : decode prog_14_method_32_code 52 = .ok (.if_icmp .ge 67, 3) := by decide +kernel
theorem d_Md_near_55 : decode prog_14_method_32_code 55 = .ok (.aload_n 0, 1) := by decide +kernel
theorem d_Md_near_56 : decode prog_14_method_32_code 56 = .ok (.getfield 13, 3) := by decide +kernel
theorem d_Md_near_59 : decode prog_14_method_32_code 59 = .ok (.bipush 12, 2) := by decide +kernel
theorem d_Md_near_61 : decode prog_14_method_32_code 61 = .ok (.iload 7, 2) := by decide +kernel
theorem d_Md_near_63 : decode prog_14_method_32_code 63 = .ok (.iadd, 1) := by decide +kernel
theorem d_Md_near_64 : decode prog_14_method_32_code 64 = .ok (.iaload, 1) := by decide +kernel
theorem d_Md_near_65 : decode prog_14_method_32_code 65 = .ok (.ifCond .ge 7, 3) := by decide +kernel
theorem d_Md_near_68 : decode prog_14_method_32_code 68 = .ok (.iconst 0, 1) := by decide +kernel
theorem d_Md_near_69 : decode prog_14_method_32_code 69 = .ok (.goto 19, 3) := by decide +kernel
theorem d_Md_near_72 : decode prog_14_method_32_code 72 = .ok (.aload_n 0, 1) := by decide +kernel
theorem d_Md_near_73 : decode prog_14_method_32_code 73 = .ok (.iload 4, 2) := by decide +kernel
theorem d_Md_near_75 : decode prog_14_method_32_code 75 = .ok (.aload_n 0, 1) := by decide +kernel
theorem d_Md_near_76 : decode prog_14_method_32_code 76 = .ok (.getfield 13, 3) := by decide +kernel
theorem d_Md_near_79 : decode prog_14_method_32_code 79 = .ok (.bipush 12, 2) := by decide +kernel
theorem d_Md_near_81 : decode prog_14_method_32_code 81 = .ok (.iload 7, 2) := by decide +kernel
theorem d_Md_near_83 : decode prog_14_method_32_code 83 = .ok (.iadd, 1) := by decide +kernel
theorem d_Md_near_84 : decode prog_14_method_32_code 84 = .ok (.iaload, 1) := by decide +kernel
theorem d_Md_near_85 : decode prog_14_method_32_code 85 = .ok (.invokevirtual 84, 3) := by decide +kernel
theorem d_Md_near_88 : decode prog_14_method_32_code 88 = .ok (.istore 8, 2) := by decide +kernel
theorem d_Md_near_90 : decode prog_14_method_32_code 90 = .ok (.iload 5, 2) := by decide +kernel
theorem d_Md_near_92 : decode prog_14_method_32_code 92 = .ok (.iload 8, 2) := by decide +kernel
theorem d_Md_near_94 : decode prog_14_method_32_code 94 = .ok (.iadd, 1) := by decide +kernel
theorem d_Md_near_95 : decode prog_14_method_32_code 95 = .ok (.istore 5, 2) := by decide +kernel
theorem d_Md_near_97 : decode prog_14_method_32_code 97 = .ok (.iload 8, 2) := by decide +kernel
theorem d_Md_near_99 : decode prog_14_method_32_code 99 = .ok (.iload 6, 2) := by decide +kernel
theorem d_Md_near_101 : decode prog_14_method_32_code 101 = .ok (.if_icmp .le 8, 3) := by decide +kernel
theorem d_Md_near_104 : decode prog_14_method_32_code 104 = .ok (.iload 8, 2) := by decide +kernel
theorem d_Md_near_106 : decode prog_14_method_32_code 106 = .ok (.goto 5, 3) := by decide +kernel
theorem d_Md_near_109 : decode prog_14_method_32_code 109 = .ok (.iload 6, 2) := by decide +kernel
theorem d_Md_near_111 : decode prog_14_method_32_code 111 = .ok (.istore 6, 2) := by decide +kernel
theorem d_Md_near_113 : decode prog_14_method_32_code 113 = .ok (.iinc 7 1, 3) := by decide +kernel
theorem d_Md_near_116 : decode prog_14_method_32_code 116 = .ok (.goto (-68), 3) := by decide +kernel
theorem d_Md_near_119 : decode prog_14_method_32_code 119 = .ok (.iload_n 1, 1) := by decide +kernel
theorem d_Md_near_120 : decode prog_14_method_32_code 120 = .ok (.iconst 2, 1) := by decide +kernel
theorem d_Md_near_121 : decode prog_14_method_32_code 121 = .ok (.if_icmp .ge 8, 3) := by decide +kernel
theorem d_Md_near_124 : decode prog_14_method_32_code 124 = .ok (.iload 5, 2) := by decide +kernel
theorem d_Md_near_126 : decode prog_14_method_32_code 126 = .ok (.goto 5, 3) := by decide +kernel
theorem d_Md_near_129 : decode prog_14_method_32_code 129 = .ok (.iload 6, 2) := by decide +kernel
theorem d_Md_near_131 : decode prog_14_method_32_code 131 = .ok (.istore 7, 2) := by decide +kernel
theorem d_Md_near_133 : decode prog_14_method_32_code 133 = .ok (.iload 7, 2) := by decide +kernel
theorem d_Md_near_135 : decode prog_14_method_32_code 135 = .ok (.iload_n 2, 1) := by decide +kernel
theorem d_Md_near_136 : decode prog_14_method_32_code 136 = .ok (.if_icmp .ge 8, 3) := by decide +kernel
theorem d_Md_near_139 : decode prog_14_method_32_code 139 = .ok (.iload 4, 2) := by decide +kernel
theorem d_Md_near_141 : decode prog_14_method_32_code 141 = .ok (.goto 4, 3) := by decide +kernel
theorem d_Md_near_144 : decode prog_14_method_32_code 144 = .ok (.iload_n 3, 1) := by decide +kernel
theorem d_Md_near_145 : decode prog_14_method_32_code 145 = .ok (.istore_n 3, 1) := by decide +kernel
theorem d_Md_near_146 : decode prog_14_method_32_code 146 = .ok (.iload 7, 2) := by decide +kernel
theorem d_Md_near_148 : decode prog_14_method_32_code 148 = .ok (.iload_n 2, 1) := by decide +kernel
theorem d_Md_near_149 : decode prog_14_method_32_code 149 = .ok (.if_icmp .ge 8, 3) := by decide +kernel
theorem d_Md_near_152 : decode prog_14_method_32_code 152 = .ok (.iload 7, 2) := by decide +kernel
theorem d_Md_near_154 : decode prog_14_method_32_code 154 = .ok (.goto 4, 3) := by decide +kernel
theorem d_Md_near_157 : decode prog_14_method_32_code 157 = .ok (.iload_n 2, 1) := by decide +kernel
theorem d_Md_near_158 : decode prog_14_method_32_code 158 = .ok (.istore_n 2, 1) := by decide +kernel
theorem d_Md_near_159 : decode prog_14_method_32_code 159 = .ok (.iinc 4 1, 3) := by decide +kernel
theorem d_Md_near_162 : decode prog_14_method_32_code 162 = .ok (.goto (-137), 3) := by decide +kernel
theorem d_Md_near_165 : decode prog_14_method_32_code 165 = .ok (.iload_n 3, 1) := by decide +kernel
theorem d_Md_near_166 : decode prog_14_method_32_code 166 = .ok (.ifCond .lt 9, 3) := by decide +kernel
theorem d_Md_near_169 : decode prog_14_method_32_code 169 = .ok (.iload_n 1, 1) := by decide +kernel
theorem d_Md_near_170 : decode prog_14_method_32_code 170 = .ok (.iconst 2, 1) := by decide +kernel
theorem d_Md_near_171 : decode prog_14_method_32_code 171 = .ok (.irem, 1) := by decide +kernel
theorem d_Md_near_172 : decode prog_14_method_32_code 172 = .ok (.ifCond .ne 7, 3) := by decide +kernel
theorem d_Md_near_175 : decode prog_14_method_32_code 175 = .ok (.iload_n 3, 1) := by decide +kernel
theorem d_Md_near_176 : decode prog_14_method_32_code 176 = .ok (.goto 4, 3) := by decide +kernel
theorem d_Md_near_179 : decode prog_14_method_32_code 179 = .ok (.iload_n 2, 1) := by decide +kernel
theorem d_Md_near_180 : decode prog_14_method_32_code 180 = .ok (.ireturn, 1) := by decide +kernel
theorem d_Md_room_0 : decode prog_14_method_33_code 0 = .ok (.iload_n 1, 1) := by decide +kernel
theorem d_Md_room_1 : decode prog_14_method_33_code 1 = .ok (.iconst 0, 1) := by decide +kernel
theorem d_Md_room_2 : decode prog_14_method_33_code 2 = .ok (.bipush 11, 2) := by decide +kernel
theorem d_Md_room_4 : decode prog_14_method_33_code 4 = .ok (.invokestatic 42, 3) := by decide +kernel
theorem d_Md_room_7 : decode prog_14_method_33_code 7 = .ok (.ifCond .eq 12, 3) := by decide +kernel
theorem d_Md_room_10 : decode prog_14_method_33_code 10 = .ok (.iload_n 2, 1) := by decide +kernel
theorem d_Md_room_11 : decode prog_14_method_33_code 11 = .ok (.iconst 0, 1) := by decide +kernel
theorem d_Md_room_12 : decode prog_14_method_33_code 12 = .ok (.iconst 1, 1) := by decide +kernel
theorem d_Md_room_13 : decode prog_14_method_33_code 13 = .ok (.invokestatic 42, 3) := by decide +kernel
theorem d_Md_room_16 : decode prog_14_method_33_code 16 = .ok (.ifCond .ne 6, 3) := by decide +kernel
theorem d_Md_room_19 : decode prog_14_method_33_code 19 = .ok (.bipush (-2), 2) := by decide +kernel
theorem d_Md_room_21 : decode prog_14_method_33_code 21 = .ok (.ireturn, 1) := by decide +kernel
theorem d_Md_room_22 : decode prog_14_method_33_code 22 = .ok (.aload_n 0, 1) := by decide +kernel
theorem d_Md_room_23 : decode prog_14_method_33_code 23 = .ok (.invokevirtual 46, 3) := by decide +kernel
theorem d_Md_room_26 : decode prog_14_method_33_code 26 = .ok (.iconst 0, 1) := by decide +kernel
theorem d_Md_room_27 : decode prog_14_method_33_code 27 = .ok (.istore_n 3, 1) := by decide +kernel
theorem d_Md_room_28 : decode prog_14_method_33_code 28 = .ok (.iconst 1, 1) := by decide +kernel
theorem d_Md_room_29 : decode prog_14_method_33_code 29 = .ok (.istore 4, 2) := by decide +kernel
theorem d_Md_room_31 : decode prog_14_method_33_code 31 = .ok (.iload 4, 2) := by decide +kernel
theorem d_Md_room_33 : decode prog_14_method_33_code 33 = .ok (.sipush 4096, 3) := by decide +kernel
theorem d_Md_room_36 : decode prog_14_method_33_code 36 = .ok (.if_icmp .ge 121, 3) := by decide +kernel
theorem d_Md_room_39 : decode prog_14_method_33_code 39 = .ok (.iload 4, 2) := by decide +kernel
theorem d_Md_room_41 : decode prog_14_method_33_code 41 = .ok (.invokestatic 81, 3) := by decide +kernel
theorem d_Md_room_44 : decode prog_14_method_33_code 44 = .ok (.iload_n 3, 1) := by decide +kernel
theorem d_Md_room_45 : decode prog_14_method_33_code 45 = .ok (.invokestatic 81, 3) := by decide +kernel
theorem d_Md_room_48 : decode prog_14_method_33_code 48 = .ok (.if_icmp .le 7, 3) := by decide +kernel
theorem d_Md_room_51 : decode prog_14_method_33_code 51 = .ok (.iconst 1, 1) := by decide +kernel
theorem d_Md_room_52 : decode prog_14_method_33_code 52 = .ok (.goto 4, 3) := by decide +kernel
theorem d_Md_room_55 : decode prog_14_method_33_code 55 = .ok (.iconst 0, 1) := by decide +kernel
theorem d_Md_room_56 : decode prog_14_method_33_code 56 = .ok (.istore 5, 2) := by decide +kernel
theorem d_Md_room_58 : decode prog_14_method_33_code 58 = .ok (.iconst 0, 1) := by decide +kernel
theorem d_Md_room_59 : decode prog_14_method_33_code 59 = .ok (.istore 6, 2) := by decide +kernel
theorem d_Md_room_61 : decode prog_14_method_33_code 61 = .ok (.iload 6, 2) := by decide +kernel
theorem d_Md_room_63 : decode prog_14_method_33_code 63 = .ok (.bipush 12, 2) := by decide +kernel
theorem d_Md_room_65 : decode prog_14_method_33_code 65 = .ok (.if_icmp .ge 74, 3) := by decide +kernel
theorem d_Md_room_68 : decode prog_14_method_33_code 68 = .ok (.iload 5, 2) := by decide +kernel
theorem d_Md_room_70 : decode prog_14_method_33_code 70 = .ok (.ifCond .eq 69, 3) := by decide +kernel
theorem d_Md_room_73 : decode prog_14_method_33_code 73 = .ok (.iconst 0, 1) := by decide +kernel
theorem d_Md_room_74 : decode prog_14_method_33_code 74 = .ok (.istore 7, 2) := by decide +kernel
theorem d_Md_room_76 : decode prog_14_method_33_code 76 = .ok (.iload 7, 2) := by decide +kernel
theorem d_Md_room_78 : decode prog_14_method_33_code 78 = .ok (.iload 6, 2) := by decide +kernel
theorem d_Md_room_80 : decode prog_14_method_33_code 80 = .ok (.if_icmp .ge 53, 3) := by decide +kernel
theorem d_Md_room_83 : decode prog_14_method_33_code 83 = .ok (.iload 4, 2) := by decide +kernel
theorem d_Md_room_85 : decode prog_14_method_33_code 85 = .ok (.iload 6, 2) := by decide +kernel
theorem d_Md_room_87 : decode prog_14_method_33_code 87 = .ok (.invokestatic 74, 3) := by decide +kernel
theorem d_Md_room_90 : decode prog_14_method_33_code 90 = .ok (.ifCond .eq 43, 3) := by decide +kernel
theorem d_Md_room_93 : decode prog_14_method_33_code 93 = .ok (.iload 5, 2) := by decide +kernel
theorem d_Md_room_95 : decode prog_14_method_33_code 95 = .ok (.ifCond .eq 29, 3) := by decide +kernel
theorem d_Md_room_98 : decode prog_14_method_33_code 98 = .ok (.iload 4, 2) := by decide +kernel
theorem d_Md_room_100 : decode prog_14_method_33_code 100 = .ok (.iload 7, 2) := by decide +kernel
theorem d_Md_room_102 : decode prog_14_method_33_code 102 = .ok (.invokestatic 74, 3) := by decide +kernel
theorem d_Md_room_105 : decode prog_14_method_33_code 105 = .ok (.ifCond .eq 15, 3) := by decide +kernel
theorem d_Md_room_108 : decode prog_14_method_33_code 108 = .ok (.aload_n 0, 1) := by decide +kernel
theorem d_Md_room_109 : decode prog_14_method_33_code 109 = .ok (.iload 6, 2) := by decide +kernel
theorem d_Md_room_111 : decode prog_14_method_33_code 111 = .ok (.iload 7, 2) := by decide +kernel
theorem d_Md_room_113 : decode prog_14_method_33_code 113 = .ok (.invokevirtual 84, 3) := by decide +kernel
theorem d_Md_room_116 : decode prog_14_method_33_code 116 = .ok (.iload_n 1, 1) := by decide +kernel
theorem d_Md_room_117 : decode prog_14_method_33_code 117 = .ok (.if_icmp .le 7, 3) := by decide +kernel
theorem d_Md_room_120 : decode prog_14_method_33_code 120 = .ok (.iconst 1, 1) := by decide +kernel
theorem d_Md_room_121 : decode prog_14_method_33_code 121 = .ok (.goto 4, 3) := by decide +kernel
theorem d_Md_room_124 : decode prog_14_method_33_code 124 = .ok (.iconst 0, 1) := by decide +kernel
theorem d_Md_room_125 : decode prog_14_method_33_code 125 = .ok (.istore 5, 2) := by decide +kernel
theorem d_Md_room_127 : decode prog_14_method_33_code 127 = .ok (.iinc 7 1, 3) := by decide +kernel
theorem d_Md_room_130 : decode prog_14_method_33_code 130 = .ok (.goto (-54), 3) := by decide +kernel
theorem d_Md_room_133 : decode prog_14_method_33_code 133 = .ok (.iinc 6 1, 3) := by decide +kernel
theorem d_Md_room_136 : decode prog_14_method_33_code 136 = .ok (.goto (-75), 3) := by decide +kernel
theorem d_Md_room_139 : decode prog_14_method_33_code 139 = .ok (.iload 5, 2) := by decide +kernel
theorem d_Md_room_141 : decode prog_14_method_33_code 141 = .ok (.ifCond .eq 8, 3) := by decide +kernel
theorem d_Md_room_144 : decode prog_14_method_33_code 144 = .ok (.iload 4, 2) := by decide +kernel
theorem d_Md_room_146 : decode prog_14_method_33_code 146 = .ok (.goto 4, 3) := by decide +kernel
theorem d_Md_room_149 : decode prog_14_method_33_code 149 = .ok (.iload_n 3, 1) := by decide +kernel
theorem d_Md_room_150 : decode prog_14_method_33_code 150 = .ok (.istore_n 3, 1) := by decide +kernel
theorem d_Md_room_151 : decode prog_14_method_33_code 151 = .ok (.iinc 4 1, 3) := by decide +kernel
theorem d_Md_room_154 : decode prog_14_method_33_code 154 = .ok (.goto (-123), 3) := by decide +kernel
theorem d_Md_room_157 : decode prog_14_method_33_code 157 = .ok (.iload_n 2, 1) := by decide +kernel
theorem d_Md_room_158 : decode prog_14_method_33_code 158 = .ok (.ifCond .ne 10, 3) := by decide +kernel
theorem d_Md_room_161 : decode prog_14_method_33_code 161 = .ok (.iload_n 3, 1) := by decide +kernel
theorem d_Md_room_162 : decode prog_14_method_33_code 162 = .ok (.invokestatic 81, 3) := by decide +kernel
theorem d_Md_room_165 : decode prog_14_method_33_code 165 = .ok (.goto 4, 3) := by decide +kernel
theorem d_Md_room_168 : decode prog_14_method_33_code 168 = .ok (.iload_n 3, 1) := by decide +kernel
theorem d_Md_room_169 : decode prog_14_method_33_code 169 = .ok (.ireturn, 1) := by decide +kernel
theorem d_Md_candles_0 : decode prog_14_method_34_code 0 = .ok (.iload_n 1, 1) := by decide +kernel
theorem d_Md_candles_1 : decode prog_14_method_34_code 1 = .ok (.iconst 0, 1) := by decide +kernel
theorem d_Md_candles_2 : decode prog_14_method_34_code 2 = .ok (.bipush 11, 2) := by decide +kernel
theorem d_Md_candles_4 : decode prog_14_method_34_code 4 = .ok (.invokestatic 42, 3) := by decide +kernel
theorem d_Md_candles_7 : decode prog_14_method_34_code 7 = .ok (.ifCond .eq 12, 3) := by decide +kernel
theorem d_Md_candles_10 : decode prog_14_method_34_code 10 = .ok (.iload_n 2, 1) := by decide +kernel
theorem d_Md_candles_11 : decode prog_14_method_34_code 11 = .ok (.iconst 0, 1) := by decide +kernel
theorem d_Md_candles_12 : decode prog_14_method_34_code 12 = .ok (.iconst 1, 1) := by decide +kernel
theorem d_Md_candles_13 : decode prog_14_method_34_code 13 = .ok (.invokestatic 42, 3) := by decide +kernel
theorem d_Md_candles_16 : decode prog_14_method_34_code 16 = .ok (.ifCond .ne 6, 3) := by decide +kernel
theorem d_Md_candles_19 : decode prog_14_method_34_code 19 = .ok (.bipush (-2), 2) := by decide +kernel
theorem d_Md_candles_21 : decode prog_14_method_34_code 21 = .ok (.ireturn, 1) := by decide +kernel
theorem d_Md_candles_22 : decode prog_14_method_34_code 22 = .ok (.aload_n 0, 1) := by decide +kernel
theorem d_Md_candles_23 : decode prog_14_method_34_code 23 = .ok (.invokevirtual 46, 3) := by decide +kernel
theorem d_Md_candles_26 : decode prog_14_method_34_code 26 = .ok (.sipush 4095, 3) := by decide +kernel
theorem d_Md_candles_29 : decode prog_14_method_34_code 29 = .ok (.istore_n 3, 1) := by decide +kernel
theorem d_Md_candles_30 : decode prog_14_method_34_code 30 = .ok (.iconst 1, 1) := by decide +kernel
theorem d_Md_candles_31 : decode prog_14_method_34_code 31 = .ok (.istore 4, 2) := by decide +kernel
theorem d_Md_candles_33 : decode prog_14_method_34_code 33 = .ok (.iload 4, 2) := by decide +kernel
theorem d_Md_candles_35 : decode prog_14_method_34_code 35 = .ok (.sipush 4095, 3) := by decide +kernel
theorem d_Md_candles_38 : decode prog_14_method_34_code 38 = .ok (.if_icmp .ge 118, 3) := by decide +kernel
theorem d_Md_candles_41 : decode prog_14_method_34_code 41 = .ok (.iload 4, 2) := by decide +kernel
theorem d_Md_candles_43 : decode prog_14_method_34_code 43 = .ok (.invokestatic 81, 3) := by decide +kernel
theorem d_Md_candles_46 : decode prog_14_method_34_code 46 = .ok (.iload_n 3, 1) := by decide +kernel
theorem d_Md_candles_47 : decode prog_14_method_34_code 47 = .ok (.invokestatic 81, 3) := by decide +kernel
theorem d_Md_candles_50 : decode prog_14_method_34_code 50 = .ok (.if_icmp .ge 7, 3) := by decide +kernel
theorem d_Md_candles_53 : decode prog_14_method_34_code 53 = .ok (.iconst 1, 1) := by decide +kernel
theorem d_Md_candles_54 : decode prog_14_method_34_code 54 = .ok (.goto 4, 3) := by decide +kernel
theorem d_Md_candles_57 : decode prog_14_method_34_code 57 = .ok (.iconst 0, 1) := by decide +kernel
theorem d_Md_candles_58 : decode prog_14_method_34_code 58 = .ok (.istore 5, 2) := by decide +kernel
theorem d_Md_candles_60 : decode prog_14_method_34_code 60 = .ok (.iconst 0, 1) := by decide +kernel
theorem d_Md_candles_61 : decode prog_14_method_34_code 61 = .ok (.istore 6, 2) := by decide +kernel
theorem d_Md_candles_63 : decode prog_14_method_34_code 63 = .ok (.iload 6, 2) := by decide +kernel
theorem d_Md_candles_65 : decode prog_14_method_34_code 65 = .ok (.bipush 12, 2) := by decide +kernel
theorem d_Md_candles_67 : decode prog_14_method_34_code 67 = .ok (.if_icmp .ge 71, 3) := by decide +kernel
theorem d_Md_candles_70 : decode prog_14_method_34_code 70 = .ok (.iload 5, 2) := by decide +kernel
theorem d_Md_candles_72 : decode prog_14_method_34_code 72 = .ok (.ifCond .eq 66, 3) := by decide +kernel
theorem d_Md_candles_75 : decode prog_14_method_34_code 75 = .ok (.iconst 0, 1) := by decide +kernel
theorem d_Md_candles_76 : decode prog_14_method_34_code 76 = .ok (.istore 7, 2) := by decide +kernel
theorem d_Md_candles_78 : decode prog_14_method_34_code 78 = .ok (.iconst 0, 1) := by decide +kernel
theorem d_Md_candles_79 : decode prog_14_method_34_code 79 = .ok (.istore 8, 2) := by decide +kernel
theorem d_Md_candles_81 : decode prog_14_method_34_code 81 = .ok (.iload 8, 2) := by decide +kernel
theorem d_Md_candles_83 : decode prog_14_method_34_code 83 = .ok (.bipush 12, 2) := by decide +kernel
theorem d_Md_candles_85 : decode prog_14_method_34_code 85 = .ok (.if_icmp .ge 43, 3) := by decide +kernel
theorem d_Md_candles_88 : decode prog_14_method_34_code 88 = .ok (.iload 7, 2) := by decide +kernel
theorem d_Md_candles_90 : decode prog_14_method_34_code 90 = .ok (.ifCond .ne 25, 3) := by decide +kernel
theorem d_Md_candles_93 : decode prog_14_method_34_code 93 = .ok (.iload 4, 2) := by decide +kernel
theorem d_Md_candles_95 : decode prog_14_method_34_code 95 = .ok (.iload 8, 2) := by decide +kernel
theorem d_Md_candles_97 : decode prog_14_method_34_code 97 = .ok (.invokestatic 74, 3) := by decide +kernel
theorem d_Md_candles_100 : decode prog_14_method_34_code 100 = .ok (.ifCond .eq 19, 3) := by decide +kernel
theorem d_Md_candles_103 : decode prog_14_method_34_code 103 = .ok (.aload_n 0, 1) := by decide +kernel
theorem d_Md_candles_104 : decode prog_14_method_34_code 104 = .ok (.iload 6, 2) := by decide +kernel
theorem d_Md_candles_106 : decode prog_14_method_34_code 106 = .ok (.iload 8, 2) := by decide +kernel
theorem d_Md_candles_108 : decode prog_14_method_34_code 108 = .ok (.invokevirtual 84, 3) := by decide +kernel
theorem d_Md_candles_111 : decode prog_14_method_34_code 111 = .ok (.iload_n 1, 1) := by decide +kernel
theorem d_Md_candles_112 : decode prog_14_method_34_code 112 = .ok (.if_icmp .gt 7, 3) := by decide +kernel
theorem d_Md_candles_115 : decode prog_14_method_34_code 115 = .ok (.iconst 1, 1) := by decide +kernel
theorem d_Md_candles_116 : decode prog_14_method_34_code 116 = .ok (.goto 4, 3) := by decide +kernel
theorem d_Md_candles_119 : decode prog_14_method_34_code 119 = .ok (.iconst 0, 1) := by decide +kernel
theorem d_Md_candles_120 : decode prog_14_method_34_code 120 = .ok (.istore 7, 2) := by decide +kernel
theorem d_Md_candles_122 : decode prog_14_method_34_code 122 = .ok (.iinc 8 1, 3) := by decide +kernel
theorem d_Md_candles_125 : decode prog_14_method_34_code 125 = .ok (.goto (-44), 3) := by decide +kernel
theorem d_Md_candles_128 : decode prog_14_method_34_code 128 = .ok (.iload 7, 2) := by decide +kernel
theorem d_Md_candles_130 : decode prog_14_method_34_code 130 = .ok (.istore 5, 2) := by decide +kernel
theorem d_Md_candles_132 : decode prog_14_method_34_code 132 = .ok (.iinc 6 1, 3) := by decide +kernel
theorem d_Md_candles_135 : decode prog_14_method_34_code 135 = .ok (.goto (-72), 3) := by decide +kernel
theorem d_Md_candles_138 : decode prog_14_method_34_code 138 = .ok (.iload 5, 2) := by decide +kernel
theorem d_Md_candles_140 : decode prog_14_method_34_code 140 = .ok (.ifCond .eq 8, 3) := by decide +kernel
theorem d_Md_candles_143 : decode prog_14_method_34_code 143 = .ok (.iload 4, 2) := by decide +kernel
theorem d_Md_candles_145 : decode prog_14_method_34_code 145 = .ok (.goto 4, 3) := by decide +kernel
theorem d_Md_candles_148 : decode prog_14_method_34_code 148 = .ok (.iload_n 3, 1) := by decide +kernel
theorem d_Md_candles_149 : decode prog_14_method_34_code 149 = .ok (.istore_n 3, 1) := by decide +kernel
theorem d_Md_candles_150 : decode prog_14_method_34_code 150 = .ok (.iinc 4 1, 3) := by decide +kernel
theorem d_Md_candles_153 : decode prog_14_method_34_code 153 = .ok (.goto (-120), 3) := by decide +kernel
theorem d_Md_candles_156 : decode prog_14_method_34_code 156 = .ok (.iload_n 2, 1) := by decide +kernel
theorem d_Md_candles_157 : decode prog_14_method_34_code 157 = .ok (.ifCond .ne 10, 3) := by decide +kernel
theorem d_Md_candles_160 : decode prog_14_method_34_code 160 = .ok (.iload_n 3, 1) := by decide +kernel
theorem d_Md_candles_161 : decode prog_14_method_34_code 161 = .ok (.invokestatic 81, 3) := by decide +kernel
theorem d_Md_candles_164 : decode prog_14_method_34_code 164 = .ok (.goto 4, 3) := by decide +kernel
theorem d_Md_candles_167 : decode prog_14_method_34_code 167 = .ok (.iload_n 3, 1) := by decide +kernel
theorem d_Md_candles_168 : decode prog_14_method_34_code 168 = .ok (.ireturn, 1) := by decide +kernel
theorem d_Md_seen_0 : decode prog_14_method_35_code 0 = .ok (.iload_n 1, 1) := by decide +kernel
theorem d_Md_seen_1 : decode prog_14_method_35_code 1 = .ok (.iconst 0, 1) := by decide +kernel
theorem d_Md_seen_2 : decode prog_14_method_35_code 2 = .ok (.bipush 11, 2) := by decide +kernel
theorem d_Md_seen_4 : decode prog_14_method_35_code 4 = .ok (.invokestatic 42, 3) := by decide +kernel
theorem d_Md_seen_7 : decode prog_14_method_35_code 7 = .ok (.ifCond .ne 5, 3) := by decide +kernel
theorem d_Md_seen_10 : decode prog_14_method_35_code 10 = .ok (.iconst (-1), 1) := by decide +kernel
theorem d_Md_seen_11 : decode prog_14_method_35_code 11 = .ok (.ireturn, 1) := by decide +kernel
theorem d_Md_seen_12 : decode prog_14_method_35_code 12 = .ok (.iload_n 2, 1) := by decide +kernel
theorem d_Md_seen_13 : decode prog_14_method_35_code 13 = .ok (.iconst 0, 1) := by decide +kernel
theorem d_Md_seen_14 : decode prog_14_method_35_code 14 = .ok (.bipush 11, 2) := by decide +kernel
theorem d_Md_seen_16 : decode prog_14_method_35_code 16 = .ok (.invokestatic 42, 3) := by decide +kernel
theorem d_Md_seen_19 : decode prog_14_method_35_code 19 = .ok (.ifCond .ne 6, 3) := by decide +kernel
theorem d_Md_seen_22 : decode prog_14_method_35_code 22 = .ok (.bipush (-2), 2) := by decide +kernel
theorem d_Md_seen_24 : decode prog_14_method_35_code 24 = .ok (.ireturn, 1) := by decide +kernel
theorem d_Md_seen_25 : decode prog_14_method_35_code 25 = .ok (.aload_n 0, 1) := by decide +kernel
theorem d_Md_seen_26 : decode prog_14_method_35_code 26 = .ok (.getfield 121, 3) := by decide +kernel
theorem d_Md_seen_29 : decode prog_14_method_35_code 29 = .ok (.bipush 8, 2) := by decide +kernel
theorem d_Md_seen_31 : decode prog_14_method_35_code 31 = .ok (.if_icmp .ne 6, 3) := by decide +kernel
theorem d_Md_seen_34 : decode prog_14_method_35_code 34 = .ok (.bipush (-4), 2) := by decide +kernel
theorem d_Md_seen_36 : decode prog_14_method_35_code 36 = .ok (.ireturn, 1) := by decide +kernel
theorem d_Md_seen_37 : decode prog_14_method_35_code 37 = .ok (.aload_n 0, 1) := by decide +kernel
theorem d_Md_seen_38 : decode prog_14_method_35_code 38 = .ok (.getfield 16, 3) := by decide +kernel
theorem d_Md_seen_41 : decode prog_14_method_35_code 41 = .ok (.iconst 2, 1) := by decide +kernel
theorem d_Md_seen_42 : decode prog_14_method_35_code 42 = .ok (.aload_n 0, 1) := by decide +kernel
theorem d_Md_seen_43 : decode prog_14_method_35_code 43 = .ok (.getfield 121, 3) := by decide +kernel
theorem d_Md_seen_46 : decode prog_14_method_35_code 46 = .ok (.imul, 1) := by decide +kernel
theorem d_Md_seen_47 : decode prog_14_method_35_code 47 = .ok (.iload_n 1, 1) := by decide +kernel
theorem d_Md_seen_48 : decode prog_14_method_35_code 48 = .ok (.iastore, 1) := by decide +kernel
theorem d_Md_seen_49 : decode prog_14_method_35_code 49 = .ok (.aload_n 0, 1) := by decide +kernel
theorem d_Md_seen_50 : decode prog_14_method_35_code 50 = .ok (.getfield 16, 3) := by decide +kernel
theorem d_Md_seen_53 : decode prog_14_method_35_code 53 = .ok (.iconst 2, 1) := by decide +kernel
theorem d_Md_seen_54 : decode prog_14_method_35_code 54 = .ok (.aload_n 0, 1) := by decide +kernel
theorem d_Md_seen_55 : decode prog_14_method_35_code 55 = .ok (.getfield 121, 3) := by decide +kernel
theorem d_Md_seen_58 : decode prog_14_method_35_code 58 = .ok (.imul, 1) := by decide +kernel
theorem d_Md_seen_59 : decode prog_14_method_35_code 59 = .ok (.iconst 1, 1) := by decide +kernel
theorem d_Md_seen_60 : decode prog_14_method_35_code 60 = .ok (.iadd, 1) := by decide +kernel
theorem d_Md_seen_61 : decode prog_14_method_35_code 61 = .ok (.iload_n 2, 1) := by decide +kernel
theorem d_Md_seen_62 : decode prog_14_method_35_code 62 = .ok (.iastore, 1) := by decide +kernel
theorem d_Md_seen_63 : decode prog_14_method_35_code 63 = .ok (.aload_n 0, 1) := by decide +kernel
theorem d_Md_seen_64 : decode prog_14_method_35_code 64 = .ok (.dup, 1) := by decide +kernel
theorem d_Md_seen_65 : decode prog_14_method_35_code 65 = .ok (.getfield 121, 3) := by decide +kernel
theorem d_Md_seen_68 : decode prog_14_method_35_code 68 = .ok (.iconst 1, 1) := by decide +kernel
theorem d_Md_seen_69 : decode prog_14_method_35_code 69 = .ok (.iadd, 1) := by decide +kernel
theorem d_Md_seen_70 : decode prog_14_method_35_code 70 = .ok (.putfield 121, 3) := by decide +kernel
theorem d_Md_seen_73 : decode prog_14_method_35_code 73 = .ok (.aload_n 0, 1) := by decide +kernel
theorem d_Md_seen_74 : decode prog_14_method_35_code 74 = .ok (.getfield 121, 3) := by decide +kernel
theorem d_Md_seen_77 : decode prog_14_method_35_code 77 = .ok (.ireturn, 1) := by decide +kernel
theorem d_Md_forget_0 : decode prog_14_method_36_code 0 = .ok (.aload_n 0, 1) := by decide +kernel
theorem d_Md_forget_1 : decode prog_14_method_36_code 1 = .ok (.getfield 121, 3) := by decide +kernel
theorem d_Md_forget_4 : decode prog_14_method_36_code 4 = .ok (.istore_n 1, 1) := by decide +kernel
theorem d_Md_forget_5 : decode prog_14_method_36_code 5 = .ok (.aload_n 0, 1) := by decide +kernel
theorem d_Md_forget_6 : decode prog_14_method_36_code 6 = .ok (.iconst 0, 1) := by decide +kernel
theorem d_Md_forget_7 : decode prog_14_method_36_code 7 = .ok (.putfield 121, 3) := by decide +kernel
theorem d_Md_forget_10 : decode prog_14_method_36_code 10 = .ok (.iload_n 1, 1) := by decide +kernel
theorem d_Md_forget_11 : decode prog_14_method_36_code 11 = .ok (.ireturn, 1) := by decide +kernel
theorem d_Md_isFit_0 : decode prog_14_method_37_code 0 = .ok (.iconst 1, 1) := by decide +kernel
theorem d_Md_isFit_1 : decode prog_14_method_37_code 1 = .ok (.istore_n 2, 1) := by decide +kernel
theorem d_Md_isFit_2 : decode prog_14_method_37_code 2 = .ok (.iconst 0, 1) := by decide +kernel
theorem d_Md_isFit_3 : decode prog_14_method_37_code 3 = .ok (.istore_n 3, 1) := by decide +kernel
theorem d_Md_isFit_4 : decode prog_14_method_37_code 4 = .ok (.iload_n 3, 1) := by decide +kernel
theorem d_Md_isFit_5 : decode prog_14_method_37_code 5 = .ok (.aload_n 0, 1) := by decide +kernel
theorem d_Md_isFit_6 : decode prog_14_method_37_code 6 = .ok (.getfield 121, 3) := by decide +kernel
theorem d_Md_isFit_9 : decode prog_14_method_37_code 9 = .ok (.if_icmp .ge 45, 3) := by decide +kernel
theorem d_Md_isFit_12 : decode prog_14_method_37_code 12 = .ok (.iload_n 2, 1) := by decide +kernel
theorem d_Md_isFit_13 : decode prog_14_method_37_code 13 = .ok (.ifCond .eq 41, 3) := by decide +kernel
theorem d_Md_isFit_16 : decode prog_14_method_37_code 16 = .ok (.aload_n 0, 1) := by decide +kernel
theorem d_Md_isFit_17 : decode prog_14_method_37_code 17 = .ok (.iload_n 1, 1) := by decide +kernel
theorem d_Md_isFit_18 : decode prog_14_method_37_code 18 = .ok (.aload_n 0, 1) := by decide +kernel
theorem d_Md_isFit_19 : decode prog_14_method_37_code 19 = .ok (.getfield 16, 3) := by decide +kernel
theorem d_Md_isFit_22 : decode prog_14_method_37_code 22 = .ok (.iconst 2, 1) := by decide +kernel
theorem d_Md_isFit_23 : decode prog_14_method_37_code 23 = .ok (.iload_n 3, 1) := by decide +kernel
theorem d_Md_isFit_24 : decode prog_14_method_37_code 24 = .ok (.imul, 1) := by decide +kernel
theorem d_Md_isFit_25 : decode prog_14_method_37_code 25 = .ok (.iaload, 1) := by decide +kernel
theorem d_Md_isFit_26 : decode prog_14_method_37_code 26 = .ok (.invokevirtual 84, 3) := by decide +kernel
theorem d_Md_isFit_29 : decode prog_14_method_37_code 29 = .ok (.aload_n 0, 1) := by decide +kernel
theorem d_Md_isFit_30 : decode prog_14_method_37_code 30 = .ok (.getfield 16, 3) := by decide +kernel
theorem d_Md_isFit_33 : decode prog_14_method_37_code 33 = .ok (.iconst 2, 1) := by decide +kernel
theorem d_Md_isFit_34 : decode prog_14_method_37_code 34 = .ok (.iload_n 3, 1) := by decide +kernel
theorem d_Md_isFit_35 : decode prog_14_method_37_code 35 = .ok (.imul, 1) := by decide +kernel
theorem d_Md_isFit_36 : decode prog_14_method_37_code 36 = .ok (.iconst 1, 1) := by decide +kernel
theorem d_Md_isFit_37 : decode prog_14_method_37_code 37 = .ok (.iadd, 1) := by decide +kernel
theorem d_Md_isFit_38 : decode prog_14_method_37_code 38 = .ok (.iaload, 1) := by decide +kernel
theorem d_Md_isFit_39 : decode prog_14_method_37_code 39 = .ok (.if_icmp .ne 7, 3) := by decide +kernel
theorem d_Md_isFit_42 : decode prog_14_method_37_code 42 = .ok (.iconst 1, 1) := by decide +kernel
theorem d_Md_isFit_43 : decode prog_14_method_37_code 43 = .ok (.goto 4, 3) := by decide +kernel
theorem d_Md_isFit_46 : decode prog_14_method_37_code 46 = .ok (.iconst 0, 1) := by decide +kernel
theorem d_Md_isFit_47 : decode prog_14_method_37_code 47 = .ok (.istore_n 2, 1) := by decide +kernel
theorem d_Md_isFit_48 : decode prog_14_method_37_code 48 = .ok (.iinc 3 1, 3) := by decide +kernel
theorem d_Md_isFit_51 : decode prog_14_method_37_code 51 = .ok (.goto (-47), 3) := by decide +kernel
theorem d_Md_isFit_54 : decode prog_14_method_37_code 54 = .ok (.iload_n 2, 1) := by decide +kernel
theorem d_Md_isFit_55 : decode prog_14_method_37_code 55 = .ok (.ireturn, 1) := by decide +kernel
theorem d_Md_where_0 : decode prog_14_method_38_code 0 = .ok (.aload_n 0, 1) := by decide +kernel
theorem d_Md_where_1 : decode prog_14_method_38_code 1 = .ok (.invokevirtual 46, 3) := by decide +kernel
theorem d_Md_where_4 : decode prog_14_method_38_code 4 = .ok (.iconst 0, 1) := by decide +kernel
theorem d_Md_where_5 : decode prog_14_method_38_code 5 = .ok (.istore_n 2, 1) := by decide +kernel
theorem d_Md_where_6 : decode prog_14_method_38_code 6 = .ok (.iconst 0, 1) := by decide +kernel
theorem d_Md_where_7 : decode prog_14_method_38_code 7 = .ok (.istore_n 3, 1) := by decide +kernel
theorem d_Md_where_8 : decode prog_14_method_38_code 8 = .ok (.iload_n 3, 1) := by decide +kernel
theorem d_Md_where_9 : decode prog_14_method_38_code 9 = .ok (.bipush 12, 2) := by decide +kernel
theorem d_Md_where_11 : decode prog_14_method_38_code 11 = .ok (.if_icmp .ge 27, 3) := by decide +kernel
theorem d_Md_where_14 : decode prog_14_method_38_code 14 = .ok (.aload_n 0, 1) := by decide +kernel
theorem d_Md_where_15 : decode prog_14_method_38_code 15 = .ok (.iload_n 3, 1) := by decide +kernel
theorem d_Md_where_16 : decode prog_14_method_38_code 16 = .ok (.invokevirtual 124, 3) := by decide +kernel
theorem d_Md_where_19 : decode prog_14_method_38_code 19 = .ok (.ifCond .eq 13, 3) := by decide +kernel
theorem d_Md_where_22 : decode prog_14_method_38_code 22 = .ok (.iload_n 2, 1) := by decide +kernel
theorem d_Md_where_23 : decode prog_14_method_38_code 23 = .ok (.iload_n 1, 1) := by decide +kernel
theorem d_Md_where_24 : decode prog_14_method_38_code 24 = .ok (.if_icmp .ne 5, 3) := by decide +kernel
theorem d_Md_where_27 : decode prog_14_method_38_code 27 = .ok (.iload_n 3, 1) := by decide +kernel
theorem d_Md_where_28 : decode prog_14_method_38_code 28 = .ok (.ireturn, 1) := by decide +kernel
theorem d_Md_where_29 : decode prog_14_method_38_code 29 = .ok (.iinc 2 1, 3) := by decide +kernel
theorem d_Md_where_32 : decode prog_14_method_38_code 32 = .ok (.iinc 3 1, 3) := by decide +kernel
theorem d_Md_where_35 : decode prog_14_method_38_code 35 = .ok (.goto (-27), 3) := by decide +kernel
theorem d_Md_where_38 : decode prog_14_method_38_code 38 = .ok (.iload_n 1, 1) := by decide +kernel
theorem d_Md_where_39 : decode prog_14_method_38_code 39 = .ok (.iconst (-1), 1) := by decide +kernel
theorem d_Md_where_40 : decode prog_14_method_38_code 40 = .ok (.if_icmp .ne 7, 3) := by decide +kernel
theorem d_Md_where_43 : decode prog_14_method_38_code 43 = .ok (.iload_n 2, 1) := by decide +kernel
theorem d_Md_where_44 : decode prog_14_method_38_code 44 = .ok (.goto 5, 3) := by decide +kernel
theorem d_Md_where_47 : decode prog_14_method_38_code 47 = .ok (.bipush (-6), 2) := by decide +kernel
theorem d_Md_where_49 : decode prog_14_method_38_code 49 = .ok (.ireturn, 1) := by decide +kernel
theorem d_Md_ask_0 : decode prog_14_method_39_code 0 = .ok (.iload_n 1, 1) := by decide +kernel
theorem d_Md_ask_1 : decode prog_14_method_39_code 1 = .ok (.iconst 0, 1) := by decide +kernel
theorem d_Md_ask_2 : decode prog_14_method_39_code 2 = .ok (.iconst 1, 1) := by decide +kernel
theorem d_Md_ask_3 : decode prog_14_method_39_code 3 = .ok (.invokestatic 42, 3) := by decide +kernel
theorem d_Md_ask_6 : decode prog_14_method_39_code 6 = .ok (.ifCond .ne 6, 3) := by decide +kernel
theorem d_Md_ask_9 : decode prog_14_method_39_code 9 = .ok (.bipush (-2), 2) := by decide +kernel
theorem d_Md_ask_11 : decode prog_14_method_39_code 11 = .ok (.ireturn, 1) := by decide +kernel
theorem d_Md_ask_12 : decode prog_14_method_39_code 12 = .ok (.aload_n 0, 1) := by decide +kernel
theorem d_Md_ask_13 : decode prog_14_method_39_code 13 = .ok (.invokevirtual 46, 3) := by decide +kernel
theorem d_Md_ask_16 : decode prog_14_method_39_code 16 = .ok (.bipush (-6), 2) := by decide +kernel
theorem d_Md_ask_18 : decode prog_14_method_39_code 18 = .ok (.istore_n 2, 1) := by decide +kernel
theorem d_Md_ask_19 : decode prog_14_method_39_code 19 = .ok (.ldc 120, 2) := by decide +kernel
theorem d_Md_ask_21 : decode prog_14_method_39_code 21 = .ok (.istore_n 3, 1) := by decide +kernel
theorem d_Md_ask_22 : decode prog_14_method_39_code 22 = .ok (.iconst 0, 1) := by decide +kernel
theorem d_Md_ask_23 : decode prog_14_method_39_code 23 = .ok (.istore 4, 2) := by decide +kernel
theorem d_Md_ask_25 : decode prog_14_method_39_code 25 = .ok (.iload 4, 2) := by decide +kernel
theorem d_Md_ask_27 : decode prog_14_method_39_code 27 = .ok (.bipush 12, 2) := by decide +kernel
theorem d_Md_ask_29 : decode prog_14_method_39_code 29 = .ok (.if_icmp .ge 150, 3) := by decide +kernel
theorem d_Md_ask_32 : decode prog_14_method_39_code 32 = .ok (.iconst 0, 1) := by decide +kernel
theorem d_Md_ask_33 : decode prog_14_method_39_code 33 = .ok (.istore 5, 2) := by decide +kernel
theorem d_Md_ask_35 : decode prog_14_method_39_code 35 = .ok (.iconst 0, 1) := by decide +kernel
theorem d_Md_ask_36 : decode prog_14_method_39_code 36 = .ok (.istore 6, 2) := by decide +kernel
theorem d_Md_ask_38 : decode prog_14_method_39_code 38 = .ok (.iload 6, 2) := by decide +kernel
theorem d_Md_ask_40 : decode prog_14_method_39_code 40 = .ok (.bipush 12, 2) := by decide +kernel
theorem d_Md_ask_42 : decode prog_14_method_39_code 42 = .ok (.if_icmp .ge 17, 3) := by decide +kernel
theorem d_Md_ask_45 : decode prog_14_method_39_code 45 = .ok (.aload_n 0, 1) := by decide +kernel
theorem d_Md_ask_46 : decode prog_14_method_39_code 46 = .ok (.getfield 25, 3) := by decide +kernel
theorem d_Md_ask_49 : decode prog_14_method_39_code 49 = .ok (.iload 6, 2) := by decide +kernel
theorem d_Md_ask_51 : decode prog_14_method_39_code 51 = .ok (.iconst 0, 1) := by decide +kernel
theorem d_Md_ask_52 : decode prog_14_method_39_code 52 = .ok (.iastore, 1) := by decide +kernel
theorem d_Md_ask_53 : decode prog_14_method_39_code 53 = .ok (.iinc 6 1, 3) := by decide +kernel
theorem d_Md_ask_56 : decode prog_14_method_39_code 56 = .ok (.goto (-18), 3) := by decide +kernel
theorem d_Md_ask_59 : decode prog_14_method_39_code 59 = .ok (.iconst 0, 1) := by decide +kernel
theorem d_Md_ask_60 : decode prog_14_method_39_code 60 = .ok (.istore 6, 2) := by decide +kernel
theorem d_Md_ask_62 : decode prog_14_method_39_code 62 = .ok (.iload 6, 2) := by decide +kernel
theorem d_Md_ask_64 : decode prog_14_method_39_code 64 = .ok (.bipush 12, 2) := by decide +kernel
theorem d_Md_ask_66 : decode prog_14_method_39_code 66 = .ok (.if_icmp .ge 65, 3) := by decide +kernel
theorem d_Md_ask_69 : decode prog_14_method_39_code 69 = .ok (.aload_n 0, 1) := by decide +kernel
theorem d_Md_ask_70 : decode prog_14_method_39_code 70 = .ok (.iload 6, 2) := by decide +kernel
theorem d_Md_ask_72 : decode prog_14_method_39_code 72 = .ok (.invokevirtual 124, 3) := by decide +kernel
theorem d_Md_ask_75 : decode prog_14_method_39_code 75 = .ok (.ifCond .eq 50, 3) := by decide +kernel
theorem d_Md_ask_78 : decode prog_14_method_39_code 78 = .ok (.aload_n 0, 1) := by decide +kernel
theorem d_Md_ask_79 : decode prog_14_method_39_code 79 = .ok (.iload 4, 2) := by decide +kernel
theorem d_Md_ask_81 : decode prog_14_method_39_code 81 = .ok (.iload 6, 2) := by decide +kernel
theorem d_Md_ask_83 : decode prog_14_method_39_code 83 = .ok (.invokevirtual 84, 3) := by decide +kernel
theorem d_Md_ask_86 : decode prog_14_method_39_code 86 = .ok (.istore 7, 2) := by decide +kernel
theorem d_Md_ask_88 : decode prog_14_method_39_code 88 = .ok (.aload_n 0, 1) := by decide +kernel
theorem d_Md_ask_89 : decode prog_14_method_39_code 89 = .ok (.getfield 25, 3) := by decide +kernel
theorem d_Md_ask_92 : decode prog_14_method_39_code 92 = .ok (.iload 7, 2) := by decide +kernel
theorem d_Md_ask_94 : decode prog_14_method_39_code 94 = .ok (.dup2, 1) := by decide +kernel
theorem d_Md_ask_95 : decode prog_14_method_39_code 95 = .ok (.iaload, 1) := by decide +kernel
theorem d_Md_ask_96 : decode prog_14_method_39_code 96 = .ok (.iconst 1, 1) := by decide +kernel
theorem d_Md_ask_97 : decode prog_14_method_39_code 97 = .ok (.iadd, 1) := by decide +kernel
theorem d_Md_ask_98 : decode prog_14_method_39_code 98 = .ok (.iastore, 1) := by decide +kernel
theorem d_Md_ask_99 : decode prog_14_method_39_code 99 = .ok (.aload_n 0, 1) := by decide +kernel
theorem d_Md_ask_100 : decode prog_14_method_39_code 100 = .ok (.getfield 25, 3) := by decide +kernel
theorem d_Md_ask_103 : decode prog_14_method_39_code 103 = .ok (.iload 7, 2) := by decide +kernel
theorem d_Md_ask_105 : decode prog_14_method_39_code 105 = .ok (.iaload, 1) := by decide +kernel
theorem d_Md_ask_106 : decode prog_14_method_39_code 106 = .ok (.iload 5, 2) := by decide +kernel
theorem d_Md_ask_108 : decode prog_14_method_39_code 108 = .ok (.if_icmp .le 13, 3) := by decide +kernel
theorem d_Md_ask_111 : decode prog_14_method_39_code 111 = .ok (.aload_n 0, 1) := by decide +kernel
theorem d_Md_ask_112 : decode prog_14_method_39_code 112 = .ok (.getfield 25, 3) := by decide +kernel
theorem d_Md_ask_115 : decode prog_14_method_39_code 115 = .ok (.iload 7, 2) := by decide +kernel
theorem d_Md_ask_117 : decode prog_14_method_39_code 117 = .ok (.iaload, 1) := by decide +kernel
theorem d_Md_ask_118 : decode prog_14_method_39_code 118 = .ok (.goto 5, 3) := by decide +kernel
theorem d_Md_ask_121 : decode prog_14_method_39_code 121 = .ok (.iload 5, 2) := by decide +kernel
theorem d_Md_ask_123 : decode prog_14_method_39_code 123 = .ok (.istore 5, 2) := by decide +kernel
theorem d_Md_ask_125 : decode prog_14_method_39_code 125 = .ok (.iinc 6 1, 3) := by decide +kernel
theorem d_Md_ask_128 : decode prog_14_method_39_code 128 = .ok (.goto (-66), 3) := by decide +kernel
theorem d_Md_ask_131 : decode prog_14_method_39_code 131 = .ok (.iload 5, 2) := by decide +kernel
theorem d_Md_ask_133 : decode prog_14_method_39_code 133 = .ok (.ifCond .le 13, 3) := by decide +kernel
theorem d_Md_ask_136 : decode prog_14_method_39_code 136 = .ok (.iload 5, 2) := by decide +kernel
theorem d_Md_ask_138 : decode prog_14_method_39_code 138 = .ok (.iload_n 3, 1) := by decide +kernel
theorem d_Md_ask_139 : decode prog_14_method_39_code 139 = .ok (.if_icmp .ge 7, 3) := by decide +kernel
theorem d_Md_ask_142 : decode prog_14_method_39_code 142 = .ok (.iconst 1, 1) := by decide +kernel
theorem d_Md_ask_143 : decode prog_14_method_39_code 143 = .ok (.goto 4, 3) := by decide +kernel
theorem d_Md_ask_146 : decode prog_14_method_39_code 146 = .ok (.iconst 0, 1) := by decide +kernel
theorem d_Md_ask_147 : decode prog_14_method_39_code 147 = .ok (.istore 6, 2) := by decide +kernel
theorem d_Md_ask_149 : decode prog_14_method_39_code 149 = .ok (.iload 6, 2) := by decide +kernel
theorem d_Md_ask_151 : decode prog_14_method_39_code 151 = .ok (.ifCond .eq 8, 3) := by decide +kernel
theorem d_Md_ask_154 : decode prog_14_method_39_code 154 = .ok (.iload 4, 2) := by decide +kernel
theorem d_Md_ask_156 : decode prog_14_method_39_code 156 = .ok (.goto 4, 3) := by decide +kernel
theorem d_Md_ask_159 : decode prog_14_method_39_code 159 = .ok (.iload_n 2, 1) := by decide +kernel
theorem d_Md_ask_160 : decode prog_14_method_39_code 160 = .ok (.istore_n 2, 1) := by decide +kernel
theorem d_Md_ask_161 : decode prog_14_method_39_code 161 = .ok (.iload 6, 2) := by decide +kernel
theorem d_Md_ask_163 : decode prog_14_method_39_code 163 = .ok (.ifCond .eq 8, 3) := by decide +kernel
theorem d_Md_ask_166 : decode prog_14_method_39_code 166 = .ok (.iload 5, 2) := by decide +kernel
theorem d_Md_ask_168 : decode prog_14_method_39_code 168 = .ok (.goto 4, 3) := by decide +kernel
theorem d_Md_ask_171 : decode prog_14_method_39_code 171 = .ok (.iload_n 3, 1) := by decide +kernel
theorem d_Md_ask_172 : decode prog_14_method_39_code 172 = .ok (.istore_n 3, 1) := by decide +kernel
theorem d_Md_ask_173 : decode prog_14_method_39_code 173 = .ok (.iinc 4 1, 3) := by decide +kernel
theorem d_Md_ask_176 : decode prog_14_method_39_code 176 = .ok (.goto (-151), 3) := by decide +kernel
theorem d_Md_ask_179 : decode prog_14_method_39_code 179 = .ok (.iload_n 2, 1) := by decide +kernel
theorem d_Md_ask_180 : decode prog_14_method_39_code 180 = .ok (.ifCond .lt 7, 3) := by decide +kernel
theorem d_Md_ask_183 : decode prog_14_method_39_code 183 = .ok (.iload_n 1, 1) := by decide +kernel
theorem d_Md_ask_184 : decode prog_14_method_39_code 184 = .ok (.ifCond .ne 7, 3) := by decide +kernel
theorem d_Md_ask_187 : decode prog_14_method_39_code 187 = .ok (.iload_n 2, 1) := by decide +kernel
theorem d_Md_ask_188 : decode prog_14_method_39_code 188 = .ok (.goto 4, 3) := by decide +kernel
theorem d_Md_ask_191 : decode prog_14_method_39_code 191 = .ok (.iload_n 3, 1) := by decide +kernel
theorem d_Md_ask_192 : decode prog_14_method_39_code 192 = .ok (.ireturn, 1) := by decide +kernel
theorem d_Md_worthOf_0 : decode prog_14_method_40_code 0 = .ok (.iconst 0, 1) := by decide +kernel
theorem d_Md_worthOf_1 : decode prog_14_method_40_code 1 = .ok (.istore_n 2, 1) := by decide +kernel
theorem d_Md_worthOf_2 : decode prog_14_method_40_code 2 = .ok (.iload_n 2, 1) := by decide +kernel
theorem d_Md_worthOf_3 : decode prog_14_method_40_code 3 = .ok (.bipush 12, 2) := by decide +kernel
theorem d_Md_worthOf_5 : decode prog_14_method_40_code 5 = .ok (.if_icmp .ge 16, 3) := by decide +kernel
theorem d_Md_worthOf_8 : decode prog_14_method_40_code 8 = .ok (.aload_n 0, 1) := by decide +kernel
theorem d_Md_worthOf_9 : decode prog_14_method_40_code 9 = .ok (.getfield 28, 3) := by decide +kernel
theorem d_Md_worthOf_12 : decode prog_14_method_40_code 12 = .ok (.iload_n 2, 1) := by decide +kernel
theorem d_Md_worthOf_13 : decode prog_14_method_40_code 13 = .ok (.iconst 0, 1) := by decide +kernel
theorem d_Md_worthOf_14 : decode prog_14_method_40_code 14 = .ok (.iastore, 1) := by decide +kernel
theorem d_Md_worthOf_15 : decode prog_14_method_40_code 15 = .ok (.iinc 2 1, 3) := by decide +kernel
theorem d_Md_worthOf_18 : decode prog_14_method_40_code 18 = .ok (.goto (-16), 3) := by decide +kernel
theorem d_Md_worthOf_21 : decode prog_14_method_40_code 21 = .ok (.bipush 11, 2) := by decide +kernel
theorem d_Md_worthOf_23 : decode prog_14_method_40_code 23 = .ok (.istore_n 2, 1) := by decide +kernel
theorem d_Md_worthOf_24 : decode prog_14_method_40_code 24 = .ok (.iload_n 2, 1) := by decide +kernel
theorem d_Md_worthOf_25 : decode prog_14_method_40_code 25 = .ok (.ifCond .le 40, 3) := by decide +kernel
theorem d_Md_worthOf_28 : decode prog_14_method_40_code 28 = .ok (.aload_n 0, 1) := by decide +kernel
theorem d_Md_worthOf_29 : decode prog_14_method_40_code 29 = .ok (.getfield 28, 3) := by decide +kernel
theorem d_Md_worthOf_32 : decode prog_14_method_40_code 32 = .ok (.aload_n 0, 1) := by decide +kernel
theorem d_Md_worthOf_33 : decode prog_14_method_40_code 33 = .ok (.getfield 7, 3) := by decide +kernel
theorem d_Md_worthOf_36 : decode prog_14_method_40_code 36 = .ok (.iload_n 2, 1) := by decide +kernel
theorem d_Md_worthOf_37 : decode prog_14_method_40_code 37 = .ok (.iaload, 1) := by decide +kernel
theorem d_Md_worthOf_38 : decode prog_14_method_40_code 38 = .ok (.dup2, 1) := by decide +kernel
theorem d_Md_worthOf_39 : decode prog_14_method_40_code 39 = .ok (.iaload, 1) := by decide +kernel
theorem d_Md_worthOf_40 : decode prog_14_method_40_code 40 = .ok (.iload_n 2, 1) := by decide +kernel
theorem d_Md_worthOf_41 : decode prog_14_method_40_code 41 = .ok (.iload_n 1, 1) := by decide +kernel
theorem d_Md_worthOf_42 : decode prog_14_method_40_code 42 = .ok (.if_icmp .ne 7, 3) := by decide +kernel
theorem d_Md_worthOf_45 : decode prog_14_method_40_code 45 = .ok (.iconst 0, 1) := by decide +kernel
theorem d_Md_worthOf_46 : decode prog_14_method_40_code 46 = .ok (.goto 11, 3) := by decide +kernel
theorem d_Md_worthOf_49 : decode prog_14_method_40_code 49 = .ok (.aload_n 0, 1) := by decide +kernel
theorem d_Md_worthOf_50 : decode prog_14_method_40_code 50 = .ok (.getfield 28, 3) := by decide +kernel
theorem d_Md_worthOf_53 : decode prog_14_method_40_code 53 = .ok (.iload_n 2, 1) := by decide +kernel
theorem d_Md_worthOf_54 : decode prog_14_method_40_code 54 = .ok (.iaload, 1) := by decide +kernel
theorem d_Md_worthOf_55 : decode prog_14_method_40_code 55 = .ok (.iconst 1, 1) := by decide +kernel
theorem d_Md_worthOf_56 : decode prog_14_method_40_code 56 = .ok (.iadd, 1) := by decide +kernel
theorem d_Md_worthOf_57 : decode prog_14_method_40_code 57 = .ok (.ixor, 1) := by decide +kernel
theorem d_Md_worthOf_58 : decode prog_14_method_40_code 58 = .ok (.iastore, 1) := by decide +kernel
theorem d_Md_worthOf_59 : decode prog_14_method_40_code 59 = .ok (.iinc 2 (-1), 3) := by decide +kernel
theorem d_Md_worthOf_62 : decode prog_14_method_40_code 62 = .ok (.goto (-38), 3) := by decide +kernel
theorem d_Md_worthOf_65 : decode prog_14_method_40_code 65 = .ok (.aload_n 0, 1) := by decide +kernel
theorem d_Md_worthOf_66 : decode prog_14_method_40_code 66 = .ok (.getfield 28, 3) := by decide +kernel
theorem d_Md_worthOf_69 : decode prog_14_method_40_code 69 = .ok (.iconst 0, 1) := by decide +kernel
theorem d_Md_worthOf_70 : decode prog_14_method_40_code 70 = .ok (.iaload, 1) := by decide +kernel
theorem d_Md_worthOf_71 : decode prog_14_method_40_code 71 = .ok (.ireturn, 1) := by decide +kernel
theorem d_Md_cut_0 : decode prog_14_method_41_code 0 = .ok (.iload_n 1, 1) := by decide +kernel
theorem d_Md_cut_1 : decode prog_14_method_41_code 1 = .ok (.iconst 0, 1) := by decide +kernel
theorem d_Md_cut_2 : decode prog_14_method_41_code 2 = .ok (.iconst 1, 1) := by decide +kernel
theorem d_Md_cut_3 : decode prog_14_method_41_code 3 = .ok (.invokestatic 42, 3) := by decide +kernel
theorem d_Md_cut_6 : decode prog_14_method_41_code 6 = .ok (.ifCond .ne 6, 3) := by decide +kernel
theorem d_Md_cut_9 : decode prog_14_method_41_code 9 = .ok (.bipush (-2), 2) := by decide +kernel
theorem d_Md_cut_11 : decode prog_14_method_41_code 11 = .ok (.ireturn, 1) := by decide +kernel
theorem d_Md_cut_12 : decode prog_14_method_41_code 12 = .ok (.bipush (-6), 2) := by decide +kernel
theorem d_Md_cut_14 : decode prog_14_method_41_code 14 = .ok (.istore_n 2, 1) := by decide +kernel
theorem d_Md_cut_15 : decode prog_14_method_41_code 15 = .ok (.bipush 11, 2) := by decide +kernel
theorem d_Md_cut_17 : decode prog_14_method_41_code 17 = .ok (.istore_n 3, 1) := by decide +kernel
theorem d_Md_cut_18 : decode prog_14_method_41_code 18 = .ok (.iload_n 3, 1) := by decide +kernel
theorem d_Md_cut_19 : decode prog_14_method_41_code 19 = .ok (.ifCond .le 23, 3) := by decide +kernel
theorem d_Md_cut_22 : decode prog_14_method_41_code 22 = .ok (.aload_n 0, 1) := by decide +kernel
theorem d_Md_cut_23 : decode prog_14_method_41_code 23 = .ok (.iload_n 3, 1) := by decide +kernel
theorem d_Md_cut_24 : decode prog_14_method_41_code 24 = .ok (.invokevirtual 128, 3) := by decide +kernel
theorem d_Md_cut_27 : decode prog_14_method_41_code 27 = .ok (.ifCond .ne 7, 3) := by decide +kernel
theorem d_Md_cut_30 : decode prog_14_method_41_code 30 = .ok (.iload_n 3, 1) := by decide +kernel
theorem d_Md_cut_31 : decode prog_14_method_41_code 31 = .ok (.goto 4, 3) := by decide +kernel
theorem d_Md_cut_34 : decode prog_14_method_41_code 34 = .ok (.iload_n 2, 1) := by decide +kernel
theorem d_Md_cut_35 : decode prog_14_method_41_code 35 = .ok (.istore_n 2, 1) := by decide +kernel
theorem d_Md_cut_36 : decode prog_14_method_41_code 36 = .ok (.iinc 3 (-1), 3) := by decide +kernel
theorem d_Md_cut_39 : decode prog_14_method_41_code 39 = .ok (.goto (-21), 3) := by decide +kernel
theorem d_Md_cut_42 : decode prog_14_method_41_code 42 = .ok (.iload_n 1, 1) := by decide +kernel
theorem d_Md_cut_43 : decode prog_14_method_41_code 43 = .ok (.iconst 1, 1) := by decide +kernel
theorem d_Md_cut_44 : decode prog_14_method_41_code 44 = .ok (.if_icmp .ne 7, 3) := by decide +kernel
theorem d_Md_cut_47 : decode prog_14_method_41_code 47 = .ok (.iload_n 2, 1) := by decide +kernel
theorem d_Md_cut_48 : decode prog_14_method_41_code 48 = .ok (.goto 12, 3) := by decide +kernel
theorem d_Md_cut_51 : decode prog_14_method_41_code 51 = .ok (.iload_n 2, 1) := by decide +kernel
theorem d_Md_cut_52 : decode prog_14_method_41_code 52 = .ok (.ifCond .ge 7, 3) := by decide +kernel
theorem d_Md_cut_55 : decode prog_14_method_41_code 55 = .ok (.iconst 0, 1) := by decide +kernel
theorem d_Md_cut_56 : decode prog_14_method_41_code 56 = .ok (.goto 4, 3) := by decide +kernel
theorem d_Md_cut_59 : decode prog_14_method_41_code 59 = .ok (.iconst 1, 1) := by decide +kernel
theorem d_Md_cut_60 : decode prog_14_method_41_code 60 = .ok (.ireturn, 1) := by decide +kernel
theorem d_Md_layChoices_0 : decode prog_14_method_42_code 0 = .ok (.iconst 0, 1) := by decide +kernel
theorem d_Md_layChoices_1 : decode prog_14_method_42_code 1 = .ok (.istore_n 1, 1) := by decide +kernel
theorem d_Md_layChoices_2 : decode prog_14_method_42_code 2 = .ok (.iload_n 1, 1) := by decide +kernel
theorem d_Md_layChoices_3 : decode prog_14_method_42_code 3 = .ok (.bipush 41, 2) := by decide +kernel
theorem d_Md_layChoices_5 : decode prog_14_method_42_code 5 = .ok (.if_icmp .ge 81, 3) := by decide +kernel
theorem d_Md_layChoices_8 : decode prog_14_method_42_code 8 = .ok (.iconst 0, 1) := by decide +kernel
theorem d_Md_layChoices_9 : decode prog_14_method_42_code 9 = .ok (.istore_n 2, 1) := by decide +kernel
theorem d_Md_layChoices_10 : decode prog_14_method_42_code 10 = .ok (.iload_n 2, 1) := by decide +kernel
theorem d_Md_layChoices_11 : decode prog_14_method_42_code 11 = .ok (.bipush 41, 2) := by decide +kernel
theorem d_Md_layChoices_13 : decode prog_14_method_42_code 13 = .ok (.if_icmp .ge 67, 3) := by decide +kernel
theorem d_Md_layChoices_16 : decode prog_14_method_42_code 16 = .ok (.aload_n 0, 1) := by decide +kernel
theorem d_Md_layChoices_17 : decode prog_14_method_42_code 17 = .ok (.getfield 31, 3) := by decide +kernel
theorem d_Md_layChoices_20 : decode prog_14_method_42_code 20 = .ok (.bipush 41, 2) := by decide +kernel
theorem d_Md_layChoices_22 : decode prog_14_method_42_code 22 = .ok (.iload_n 1, 1) := by decide +kernel
theorem d_Md_layChoices_23 : decode prog_14_method_42_code 23 = .ok (.imul, 1) := by decide +kernel
theorem d_Md_layChoices_24 : decode prog_14_method_42_code 24 = .ok (.iload_n 2, 1) := by decide +kernel
theorem d_Md_layChoices_25 : decode prog_14_method_42_code 25 = .ok (.iadd, 1) := by decide +kernel
theorem d_Md_layChoices_26 : decode prog_14_method_42_code 26 = .ok (.iload_n 2, 1) := by decide +kernel
theorem d_Md_layChoices_27 : decode prog_14_method_42_code 27 = .ok (.ifCond .ne 7, 3) := by decide +kernel
theorem d_Md_layChoices_30 : decode prog_14_method_42_code 30 = .ok (.lconst 1, 1) := by decide +kernel
theorem d_Md_layChoices_31 : decode prog_14_method_42_code 31 = .ok (.goto 42, 3) := by decide +kernel
theorem d_Md_layChoices_34 : decode prog_14_method_42_code 34 = .ok (.iload_n 1, 1) := by decide +kernel
theorem d_Md_layChoices_35 : decode prog_14_method_42_code 35 = .ok (.ifCond .ne 7, 3) := by decide +kernel
theorem d_Md_layChoices_38 : decode prog_14_method_42_code 38 = .ok (.lconst 0, 1) := by decide +kernel
theorem d_Md_layChoices_39 : decode prog_14_method_42_code 39 = .ok (.goto 34, 3) := by decide +kernel
theorem d_Md_layChoices_42 : decode prog_14_method_42_code 42 = .ok (.aload_n 0, 1) := by decide +kernel
theorem d_Md_layChoices_43 : decode prog_14_method_42_code 43 = .ok (.getfield 31, 3) := by decide +kernel
theorem d_Md_layChoices_46 : decode prog_14_method_42_code 46 = .ok (.bipush 41, 2) := by decide +kernel
theorem d_Md_layChoices_48 : decode prog_14_method_42_code 48 = .ok (.iload_n 1, 1) := by decide +kernel
theorem d_Md_layChoices_49 : decode prog_14_method_42_code 49 = .ok (.imul, 1) := by decide +kernel
theorem d_Md_layChoices_50 : decode prog_14_method_42_code 50 = .ok (.bipush 41, 2) := by decide +kernel
theorem d_Md_layChoices_52 : decode prog_14_method_42_code 52 = .ok (.isub, 1) := by decide +kernel
theorem d_Md_layChoices_53 : decode prog_14_method_42_code 53 = .ok (.iload_n 2, 1) := by decide +kernel
theorem d_Md_layChoices_54 : decode prog_14_method_42_code 54 = .ok (.iadd, 1) := by decide +kernel
theorem d_Md_layChoices_55 : decode prog_14_method_42_code 55 = .ok (.laload, 1) := by decide +kernel
theorem d_Md_layChoices_56 : decode prog_14_method_42_code 56 = .ok (.aload_n 0, 1) := by decide +kernel
theorem d_Md_layChoices_57 : decode prog_14_method_42_code 57 = .ok (.getfield 31, 3) := by decide +kernel
theorem d_Md_layChoices_60 : decode prog_14_method_42_code 60 = .ok (.bipush 41, 2) := by decide +kernel
theorem d_Md_layChoices_62 : decode prog_14_method_42_code 62 = .ok (.iload_n 1, 1) := by decide +kernel
theorem d_Md_layChoices_63 : decode prog_14_method_42_code 63 = .ok (.imul, 1) := by decide +kernel
theorem d_Md_layChoices_64 : decode prog_14_method_42_code 64 = .ok (.bipush 41, 2) := by decide +kernel
theorem d_Md_layChoices_66 : decode prog_14_method_42_code 66 = .ok (.isub, 1) := by decide +kernel
theorem d_Md_layChoices_67 : decode prog_14_method_42_code 67 = .ok (.iload_n 2, 1) := by decide +kernel
theorem d_Md_layChoices_68 : decode prog_14_method_42_code 68 = .ok (.iadd, 1) := by decide +kernel
theorem d_Md_layChoices_69 : decode prog_14_method_42_code 69 = .ok (.iconst 1, 1) := by decide +kernel
theorem d_Md_layChoices_70 : decode prog_14_method_42_code 70 = .ok (.isub, 1) := by decide +kernel
theorem d_Md_layChoices_71 : decode prog_14_method_42_code 71 = .ok (.laload, 1) := by decide +kernel
theorem d_Md_layChoices_72 : decode prog_14_method_42_code 72 = .ok (.ladd, 1) := by decide +kernel
theorem d_Md_layChoices_73 : decode prog_14_method_42_code 73 = .ok (.lastore, 1) := by decide +kernel
theorem d_Md_layChoices_74 : decode prog_14_method_42_code 74 = .ok (.iinc 2 1, 3) := by decide +kernel
theorem d_Md_layChoices_77 : decode prog_14_method_42_code 77 = .ok (.goto (-67), 3) := by decide +kernel
theorem d_Md_layChoices_80 : decode prog_14_method_42_code 80 = .ok (.iinc 1 1, 3) := by decide +kernel
theorem d_Md_layChoices_83 : decode prog_14_method_42_code 83 = .ok (.goto (-81), 3) := by decide +kernel
theorem d_Md_layChoices_86 : decode prog_14_method_42_code 86 = .ok (.return_, 1) := by decide +kernel
theorem d_Md_lowest_0 : decode prog_14_method_43_code 0 = .ok (.lload_n 0, 1) := by decide +kernel
theorem d_Md_lowest_1 : decode prog_14_method_43_code 1 = .ok (.lstore 5, 2) := by decide +kernel
theorem d_Md_lowest_3 : decode prog_14_method_43_code 3 = .ok (.lload_n 2, 1) := by decide +kernel
theorem d_Md_lowest_4 : decode prog_14_method_43_code 4 = .ok (.lstore 7, 2) := by decide +kernel
theorem d_Md_lowest_6 : decode prog_14_method_43_code 6 = .ok (.lload 7, 2) := by decide +kernel
theorem d_Md_lowest_8 : decode prog_14_method_43_code 8 = .ok (.lconst 0, 1) := by decide +kernel
theorem d_Md_lowest_9 : decode prog_14_method_43_code 9 = .ok (.lcmp, 1) := by decide +kernel
theorem d_Md_lowest_10 : decode prog_14_method_43_code 10 = .ok (.ifCond .eq 21, 3) := by decide +kernel
theorem d_Md_lowest_13 : decode prog_14_method_43_code 13 = .ok (.lload 5, 2) := by decide +kernel
theorem d_Md_lowest_15 : decode prog_14_method_43_code 15 = .ok (.lload 7, 2) := by decide +kernel
theorem d_Md_lowest_17 : decode prog_14_method_43_code 17 = .ok (.lrem, 1) := by decide +kernel
theorem d_Md_lowest_18 : decode prog_14_method_43_code 18 = .ok (.lstore 9, 2) := by decide +kernel
theorem d_Md_lowest_20 : decode prog_14_method_43_code 20 = .ok (.lload 7, 2) := by decide +kernel
theorem d_Md_lowest_22 : decode prog_14_method_43_code 22 = .ok (.lstore 5, 2) := by decide +kernel
theorem d_Md_lowest_24 : decode prog_14_method_43_code 24 = .ok (.lload 9, 2) := by decide +kernel
theorem d_Md_lowest_26 : decode prog_14_method_43_code 26 = .ok (.lstore 7, 2) := by decide +kernel
theorem d_Md_lowest_28 : decode prog_14_method_43_code 28 = .ok (.goto (-22), 3) := by decide +kernel
theorem d_Md_lowest_31 : decode prog_14_method_43_code 31 = .ok (.iload 4, 2) := by decide +kernel
theorem d_Md_lowest_33 : decode prog_14_method_43_code 33 = .ok (.ifCond .ne 10, 3) := by decide +kernel
theorem d_Md_lowest_36 : decode prog_14_method_43_code 36 = .ok (.lload_n 0, 1) := by decide +kernel
theorem d_Md_lowest_37 : decode prog_14_method_43_code 37 = .ok (.lload 5, 2) := by decide +kernel
theorem d_Md_lowest_39 : decode prog_14_method_43_code 39 = .ok (.ldiv, 1) := by decide +kernel
theorem d_Md_lowest_40 : decode prog_14_method_43_code 40 = .ok (.goto 7, 3) := by decide +kernel
theorem d_Md_lowest_43 : decode prog_14_method_43_code 43 = .ok (.lload_n 2, 1) := by decide +kernel
theorem d_Md_lowest_44 : decode prog_14_method_43_code 44 = .ok (.lload 5, 2) := by decide +kernel
theorem d_Md_lowest_46 : decode prog_14_method_43_code 46 = .ok (.ldiv, 1) := by decide +kernel
theorem d_Md_lowest_47 : decode prog_14_method_43_code 47 = .ok (.lreturn, 1) := by decide +kernel
theorem d_Md_tissue_0 : decode prog_14_method_44_code 0 = .ok (.iload_n 1, 1) := by decide +kernel
theorem d_Md_tissue_1 : decode prog_14_method_44_code 1 = .ok (.iconst 0, 1) := by decide +kernel
theorem d_Md_tissue_2 : decode prog_14_method_44_code 2 = .ok (.bipush 40, 2) := by decide +kernel
theorem d_Md_tissue_4 : decode prog_14_method_44_code 4 = .ok (.invokestatic 42, 3) := by decide +kernel
theorem d_Md_tissue_7 : decode prog_14_method_44_code 7 = .ok (.ifCond .eq 51, 3) := by decide +kernel
theorem d_Md_tissue_10 : decode prog_14_method_44_code 10 = .ok (.iload_n 2, 1) := by decide +kernel
theorem d_Md_tissue_11 : decode prog_14_method_44_code 11 = .ok (.iconst 0, 1) := by decide +kernel
theorem d_Md_tissue_12 : decode prog_14_method_44_code 12 = .ok (.iload_n 1, 1) := by decide +kernel
theorem d_Md_tissue_13 : decode prog_14_method_44_code 13 = .ok (.invokestatic 42, 3) := by decide +kernel
theorem d_Md_tissue_16 : decode prog_14_method_44_code 16 = .ok (.ifCond .eq 42, 3) := by decide +kernel
theorem d_Md_tissue_19 : decode prog_14_method_44_code 19 = .ok (.iload_n 3, 1) := by decide +kernel
theorem d_Md_tissue_20 : decode prog_14_method_44_code 20 = .ok (.iconst 0, 1) := by decide +kernel
theorem d_Md_tissue_21 : decode prog_14_method_44_code 21 = .ok (.iload_n 1, 1) := by decide +kernel
theorem d_Md_tissue_22 : decode prog_14_method_44_code 22 = .ok (.invokestatic 42, 3) := by decide +kernel
theorem d_Md_tissue_25 : decode prog_14_method_44_code 25 = .ok (.ifCond .eq 33, 3) := by decide +kernel
theorem d_Md_tissue_28 : decode prog_14_method_44_code 28 = .ok (.iload 4, 2) := by decide +kernel
theorem d_Md_tissue_30 : decode prog_14_method_44_code 30 = .ok (.iconst 0, 1) := by decide +kernel
theorem d_Md_tissue_31 : decode prog_14_method_44_code 31 = .ok (.iload_n 3, 1) := by decide +kernel
theorem d_Md_tissue_32 : decode prog_14_method_44_code 32 = .ok (.invokestatic 42, 3) := by decide +kernel
theorem d_Md_tissue_35 : decode prog_14_method_44_code 35 = .ok (.ifCond .eq 23, 3) := by decide +kernel
theorem d_Md_tissue_38 : decode prog_14_method_44_code 38 = .ok (.iload 5, 2) := by decide +kernel
theorem d_Md_tissue_40 : decode prog_14_method_44_code 40 = .ok (.iconst 0, 1) := by decide +kernel
theorem d_Md_tissue_41 : decode prog_14_method_44_code 41 = .ok (.iconst 1, 1) := by decide +kernel
theorem d_Md_tissue_42 : decode prog_14_method_44_code 42 = .ok (.invokestatic 42, 3) := by decide +kernel
theorem d_Md_tissue_45 : decode prog_14_method_44_code 45 = .ok (.ifCond .eq 13, 3) := by decide +kernel
theorem d_Md_tissue_48 : decode prog_14_method_44_code 48 = .ok (.iload 6, 2) := by decide +kernel
theorem d_Md_tissue_50 : decode prog_14_method_44_code 50 = .ok (.iconst 0, 1) := by decide +kernel
theorem d_Md_tissue_51 : decode prog_14_method_44_code 51 = .ok (.iconst 1, 1) := by decide +kernel
theorem d_Md_tissue_52 : decode prog_14_method_44_code 52 = .ok (.invokestatic 42, 3) := by decide +kernel
theorem d_Md_tissue_55 : decode prog_14_method_44_code 55 = .ok (.ifCond .ne 7, 3) := by decide +kernel
theorem d_Md_tissue_58 : decode prog_14_method_44_code 58 = .ok (.ldc2_w 131, 3) := by decide +kernel
theorem d_Md_tissue_61 : decode prog_14_method_44_code 61 = .ok (.lreturn, 1) := by decide +kernel
theorem d_Md_tissue_62 : decode prog_14_method_44_code 62 = .ok (.iload 5, 2) := by decide +kernel
theorem d_Md_tissue_64 : decode prog_14_method_44_code 64 = .ok (.iconst 1, 1) := by decide +kernel
theorem d_Md_tissue_65 : decode prog_14_method_44_code 65 = .ok (.if_icmp .ne 24, 3) := by decide +kernel
theorem d_Md_tissue_68 : decode prog_14_method_44_code 68 = .ok (.iload_n 2, 1) := by decide +kernel
theorem d_Md_tissue_69 : decode prog_14_method_44_code 69 = .ok (.i2l, 1) := by decide +kernel
theorem d_Md_tissue_70 : decode prog_14_method_44_code 70 = .ok (.iload_n 3, 1) := by decide +kernel
theorem d_Md_tissue_71 : decode prog_14_method_44_code 71 = .ok (.i2l, 1) := by decide +kernel
theorem d_Md_tissue_72 : decode prog_14_method_44_code 72 = .ok (.lmul, 1) := by decide +kernel
theorem d_Md_tissue_73 : decode prog_14_method_44_code 73 = .ok (.iload_n 1, 1) := by decide +kernel
theorem d_Md_tissue_74 : decode prog_14_method_44_code 74 = .ok (.ifCond .ne 7, 3) := by decide +kernel
theorem d_Md_tissue_77 : decode prog_14_method_44_code 77 = .ok (.lconst 1, 1) := by decide +kernel
theorem d_Md_tissue_78 : decode prog_14_method_44_code 78 = .ok (.goto 5, 3) := by decide +kernel
theorem d_Md_tissue_81 : decode prog_14_method_44_code 81 = .ok (.iload_n 1, 1) := by decide +kernel
theorem d_Md_tissue_82 : decode prog_14_method_44_code 82 = .ok (.i2l, 1) := by decide +kernel
theorem d_Md_tissue_83 : decode prog_14_method_44_code 83 = .ok (.iload 6, 2) := by decide +kernel
theorem d_Md_tissue_85 : decode prog_14_method_44_code 85 = .ok (.invokestatic 133, 3) := by decide +kernel
theorem d_Md_tissue_88 : decode prog_14_method_44_code 88 = .ok (.lreturn, 1) := by decide +kernel
theorem d_Md_tissue_89 : decode prog_14_method_44_code 89 = .ok (.aload_n 0, 1) := by decide +kernel
theorem d_Md_tissue_90 : decode prog_14_method_44_code 90 = .ok (.invokevirtual 137, 3) := by decide +kernel
theorem d_Md_tissue_93 : decode prog_14_method_44_code 93 = .ok (.lconst 0, 1) := by decide +kernel
theorem d_Md_tissue_94 : decode prog_14_method_44_code 94 = .ok (.lstore 7, 2) := by decide +kernel
theorem d_Md_tissue_96 : decode prog_14_method_44_code 96 = .ok (.iload 4, 2) := by decide +kernel
theorem d_Md_tissue_98 : decode prog_14_method_44_code 98 = .ok (.istore 9, 2) := by decide +kernel
theorem d_Md_tissue_100 : decode prog_14_method_44_code 100 = .ok (.iload 9, 2) := by decide +kernel
theorem d_Md_tissue_102 : decode prog_14_method_44_code 102 = .ok (.iload_n 3, 1) := by decide +kernel
theorem d_Md_tissue_103 : decode prog_14_method_44_code 103 = .ok (.if_icmp .gt 43, 3) := by decide +kernel
theorem d_Md_tissue_106 : decode prog_14_method_44_code 106 = .ok (.lload 7, 2) := by decide +kernel
theorem d_Md_tissue_108 : decode prog_14_method_44_code 108 = .ok (.aload_n 0, 1) := by decide +kernel
theorem d_Md_tissue_109 : decode prog_14_method_44_code 109 = .ok (.getfield 31, 3) := by decide +kernel
theorem d_Md_tissue_112 : decode prog_14_method_44_code 112 = .ok (.bipush 41, 2) := by decide +kernel
theorem d_Md_tissue_114 : decode prog_14_method_44_code 114 = .ok (.iload_n 2, 1) := by decide +kernel
theorem d_Md_tissue_115 : decode prog_14_method_44_code 115 = .ok (.imul, 1) := by decide +kernel
theorem d_Md_tissue_116 : decode prog_14_method_44_code 116 = .ok (.iload 9, 2) := by decide +kernel
theorem d_Md_tissue_118 : decode prog_14_method_44_code 118 = .ok (.iadd, 1) := by decide +kernel
theorem d_Md_tissue_119 : decode prog_14_method_44_code 119 = .ok (.laload, 1) := by decide +kernel
theorem d_Md_tissue_120 : decode prog_14_method_44_code 120 = .ok (.aload_n 0, 1) := by decide +kernel
theorem d_Md_tissue_121 : decode prog_14_method_44_code 121 = .ok (.getfield 31, 3) := by decide +kernel
theorem d_Md_tissue_124 : decode prog_14_method_44_code 124 = .ok (.bipush 41, 2) := by decide +kernel
theorem d_Md_tissue_126 : decode prog_14_method_44_code 126 = .ok (.iload_n 1, 1) := by decide +kernel
theorem d_Md_tissue_127 : decode prog_14_method_44_code 127 = .ok (.iload_n 2, 1) := by decide +kernel
theorem d_Md_tissue_128 : decode prog_14_method_44_code 128 = .ok (.isub, 1) := by decide +kernel
theorem d_Md_tissue_129 : decode prog_14_method_44_code 129 = .ok (.imul, 1) := by decide +kernel
theorem d_Md_tissue_130 : decode prog_14_method_44_code 130 = .ok (.iload_n 3, 1) := by decide +kernel
theorem d_Md_tissue_131 : decode prog_14_method_44_code 131 = .ok (.iadd, 1) := by decide +kernel
theorem d_Md_tissue_132 : decode prog_14_method_44_code 132 = .ok (.iload 9, 2) := by decide +kernel
theorem d_Md_tissue_134 : decode prog_14_method_44_code 134 = .ok (.isub, 1) := by decide +kernel
theorem d_Md_tissue_135 : decode prog_14_method_44_code 135 = .ok (.laload, 1) := by decide +kernel
theorem d_Md_tissue_136 : decode prog_14_method_44_code 136 = .ok (.lmul, 1) := by decide +kernel
theorem d_Md_tissue_137 : decode prog_14_method_44_code 137 = .ok (.ladd, 1) := by decide +kernel
theorem d_Md_tissue_138 : decode prog_14_method_44_code 138 = .ok (.lstore 7, 2) := by decide +kernel
theorem d_Md_tissue_140 : decode prog_14_method_44_code 140 = .ok (.iinc 9 1, 3) := by decide +kernel
theorem d_Md_tissue_143 : decode prog_14_method_44_code 143 = .ok (.goto (-43), 3) := by decide +kernel
theorem d_Md_tissue_146 : decode prog_14_method_44_code 146 = .ok (.lload 7, 2) := by decide +kernel
theorem d_Md_tissue_148 : decode prog_14_method_44_code 148 = .ok (.aload_n 0, 1) := by decide +kernel
theorem d_Md_tissue_149 : decode prog_14_method_44_code 149 = .ok (.getfield 31, 3) := by decide +kernel
theorem d_Md_tissue_152 : decode prog_14_method_44_code 152 = .ok (.bipush 41, 2) := by decide +kernel
theorem d_Md_tissue_154 : decode prog_14_method_44_code 154 = .ok (.iload_n 1, 1) := by decide +kernel
theorem d_Md_tissue_155 : decode prog_14_method_44_code 155 = .ok (.imul, 1) := by decide +kernel
theorem d_Md_tissue_156 : decode prog_14_method_44_code 156 = .ok (.iload_n 3, 1) := by decide +kernel
theorem d_Md_tissue_157 : decode prog_14_method_44_code 157 = .ok (.iadd, 1) := by decide +kernel
theorem d_Md_tissue_158 : decode prog_14_method_44_code 158 = .ok (.laload, 1) := by decide +kernel
theorem d_Md_tissue_159 : decode prog_14_method_44_code 159 = .ok (.iload 6, 2) := by decide +kernel
theorem d_Md_tissue_161 : decode prog_14_method_44_code 161 = .ok (.invokestatic 133, 3) := by decide +kernel
theorem d_Md_tissue_164 : decode prog_14_method_44_code 164 = .ok (.lreturn, 1) := by decide +kernel
theorem d_Md_year_0 : decode prog_14_method_45_code 0 = .ok (.iload_n 1, 1) := by decide +kernel
theorem d_Md_year_1 : decode prog_14_method_45_code 1 = .ok (.iconst 0, 1) := by decide +kernel
theorem d_Md_year_2 : decode prog_14_method_45_code 2 = .ok (.sipush 9999, 3) := by decide +kernel
theorem d_Md_year_5 : decode prog_14_method_45_code 5 = .ok (.invokestatic 42, 3) := by decide +kernel
theorem d_Md_year_8 : decode prog_14_method_45_code 8 = .ok (.ifCond .eq 22, 3) := by decide +kernel
theorem d_Md_year_11 : decode prog_14_method_45_code 11 = .ok (.iload_n 2, 1) := by decide +kernel
theorem d_Md_year_12 : decode prog_14_method_45_code 12 = .ok (.iconst 1, 1) := by decide +kernel
theorem d_Md_year_13 : decode prog_14_method_45_code 13 = .ok (.bipush 99, 2) := by decide +kernel
theorem d_Md_year_15 : decode prog_14_method_45_code 15 = .ok (.invokestatic 42, 3) := by decide +kernel
theorem d_Md_year_18 : decode prog_14_method_45_code 18 = .ok (.ifCond .eq 12, 3) := by decide +kernel
theorem d_Md_year_21 : decode prog_14_method_45_code 21 = .ok (.iload_n 3, 1) := by decide +kernel
theorem d_Md_year_22 : decode prog_14_method_45_code 22 = .ok (.iconst 0, 1) := by decide +kernel
theorem d_Md_year_23 : decode prog_14_method_45_code 23 = .ok (.iconst 2, 1) := by decide +kernel
theorem d_Md_year_24 : decode prog_14_method_45_code 24 = .ok (.invokestatic 42, 3) := by decide +kernel
theorem d_Md_year_27 : decode prog_14_method_45_code 27 = .ok (.ifCond .ne 6, 3) := by decide +kernel
theorem d_Md_year_30 : decode prog_14_method_45_code 30 = .ok (.bipush (-2), 2) := by decide +kernel
theorem d_Md_year_32 : decode prog_14_method_45_code 32 = .ok (.ireturn, 1) := by decide +kernel
theorem d_Md_year_33 : decode prog_14_method_45_code 33 = .ok (.aload_n 0, 1) := by decide +kernel
theorem d_Md_year_34 : decode prog_14_method_45_code 34 = .ok (.invokevirtual 46, 3) := by decide +kernel
theorem d_Md_year_37 : decode prog_14_method_45_code 37 = .ok (.iload_n 1, 1) := by decide +kernel
theorem d_Md_year_38 : decode prog_14_method_45_code 38 = .ok (.istore 4, 2) := by decide +kernel
theorem d_Md_year_40 : decode prog_14_method_45_code 40 = .ok (.iconst 0, 1) := by decide +kernel
theorem d_Md_year_41 : decode prog_14_method_45_code 41 = .ok (.istore 5, 2) := by decide +kernel
theorem d_Md_year_43 : decode prog_14_method_45_code 43 = .ok (.iload 5, 2) := by decide +kernel
theorem d_Md_year_45 : decode prog_14_method_45_code 45 = .ok (.iload_n 2, 1) := by decide +kernel
theorem d_Md_year_46 : decode prog_14_method_45_code 46 = .ok (.if_icmp .ge 163, 3) := by decide +kernel
theorem d_Md_year_49 : decode prog_14_method_45_code 49 = .ok (.bipush 75, 2) := by decide +kernel
theorem d_Md_year_51 : decode prog_14_method_45_code 51 = .ok (.iload 4, 2) := by decide +kernel
theorem d_Md_year_53 : decode prog_14_method_45_code 53 = .ok (.imul, 1) := by decide +kernel
theorem d_Md_year_54 : decode prog_14_method_45_code 54 = .ok (.bipush 74, 2) := by decide +kernel
theorem d_Md_year_56 : decode prog_14_method_45_code 56 = .ok (.iadd, 1) := by decide +kernel
theorem d_Md_year_57 : decode prog_14_method_45_code 57 = .ok (.ldc 140, 2) := by decide +kernel
theorem d_Md_year_59 : decode prog_14_method_45_code 59 = .ok (.irem, 1) := by decide +kernel
theorem d_Md_year_60 : decode prog_14_method_45_code 60 = .ok (.istore 4, 2) := by decide +kernel
theorem d_Md_year_62 : decode prog_14_method_45_code 62 = .ok (.iload 4, 2) := by decide +kernel
theorem d_Md_year_64 : decode prog_14_method_45_code 64 = .ok (.bipush 6, 2) := by decide +kernel
theorem d_Md_year_66 : decode prog_14_method_45_code 66 = .ok (.idiv, 1) := by decide +kernel
theorem d_Md_year_67 : decode prog_14_method_45_code 67 = .ok (.bipush 8, 2) := by decide +kernel
theorem d_Md_year_69 : decode prog_14_method_45_code 69 = .ok (.irem, 1) := by decide +kernel
theorem d_Md_year_70 : decode prog_14_method_45_code 70 = .ok (.istore 6, 2) := by decide +kernel
theorem d_Md_year_72 : decode prog_14_method_45_code 72 = .ok (.iload 4, 2) := by decide +kernel
theorem d_Md_year_74 : decode prog_14_method_45_code 74 = .ok (.bipush 48, 2) := by decide +kernel
theorem d_Md_year_76 : decode prog_14_method_45_code 76 = .ok (.idiv, 1) := by decide +kernel
theorem d_Md_year_77 : decode prog_14_method_45_code 77 = .ok (.istore 7, 2) := by decide +kernel
theorem d_Md_year_79 : decode prog_14_method_45_code 79 = .ok (.iload 6, 2) := by decide +kernel
theorem d_Md_year_81 : decode prog_14_method_45_code 81 = .ok (.iconst 4, 1) := by decide +kernel
theorem d_Md_year_82 : decode prog_14_method_45_code 82 = .ok (.if_icmp .ge 24, 3) := by decide +kernel
theorem d_Md_year_85 : decode prog_14_method_45_code 85 = .ok (.aload_n 0, 1) := by decide +kernel
theorem d_Md_year_86 : decode prog_14_method_45_code 86 = .ok (.aload_n 0, 1) := by decide +kernel
theorem d_Md_year_87 : decode prog_14_method_45_code 87 = .ok (.iload 4, 2) := by decide +kernel
theorem d_Md_year_89 : decode prog_14_method_45_code 89 = .ok (.bipush 6, 2) := by decide +kernel
theorem d_Md_year_91 : decode prog_14_method_45_code 91 = .ok (.irem, 1) := by decide +kernel
theorem d_Md_year_92 : decode prog_14_method_45_code 92 = .ok (.iload 7, 2) := by decide +kernel
theorem d_Md_year_94 : decode prog_14_method_45_code 94 = .ok (.bipush 12, 2) := by decide +kernel
theorem d_Md_year_96 : decode prog_14_method_45_code 96 = .ok (.irem, 1) := by decide +kernel
theorem d_Md_year_97 : decode prog_14_method_45_code 97 = .ok (.invokevirtual 105, 3) := by decide +kernel
theorem d_Md_year_100 : decode prog_14_method_45_code 100 = .ok (.putfield 93, 3) := by decide +kernel
theorem d_Md_year_103 : decode prog_14_method_45_code 103 = .ok (.goto 100, 3) := by decide +kernel
theorem d_Md_year_106 : decode prog_14_method_45_code 106 = .ok (.iload 6, 2) := by decide +kernel
theorem d_Md_year_108 : decode prog_14_method_45_code 108 = .ok (.iconst 4, 1) := by decide +kernel
theorem d_Md_year_109 : decode prog_14_method_45_code 109 = .ok (.if_icmp .ne 19, 3) := by decide +kernel
theorem d_Md_year_112 : decode prog_14_method_45_code 112 = .ok (.aload_n 0, 1) := by decide +kernel
theorem d_Md_year_113 : decode prog_14_method_45_code 113 = .ok (.aload_n 0, 1) := by decide +kernel
theorem d_Md_year_114 : decode prog_14_method_45_code 114 = .ok (.iload 4, 2) := by decide +kernel
theorem d_Md_year_116 : decode prog_14_method_45_code 116 = .ok (.bipush 6, 2) := by decide +kernel
theorem d_Md_year_118 : decode prog_14_method_45_code 118 = .ok (.irem, 1) := by decide +kernel
theorem d_Md_year_119 : decode prog_14_method_45_code 119 = .ok (.invokevirtual 102, 3) := by decide +kernel
theorem d_Md_year_122 : decode prog_14_method_45_code 122 = .ok (.putfield 93, 3) := by decide +kernel
theorem d_Md_year_125 : decode prog_14_method_45_code 125 = .ok (.goto 78, 3) := by decide +kernel
theorem d_Md_year_128 : decode prog_14_method_45_code 128 = .ok (.iload 6, 2) := by decide +kernel
theorem d_Md_year_130 : decode prog_14_method_45_code 130 = .ok (.iconst 5, 1) := by decide +kernel
theorem d_Md_year_131 : decode prog_14_method_45_code 131 = .ok (.if_icmp .ne 21, 3) := by decide +kernel
theorem d_Md_year_134 : decode prog_14_method_45_code 134 = .ok (.aload_n 0, 1) := by decide +kernel
theorem d_Md_year_135 : decode prog_14_method_45_code 135 = .ok (.aload_n 0, 1) := by decide +kernel
theorem d_Md_year_136 : decode prog_14_method_45_code 136 = .ok (.iconst 1, 1) := by decide +kernel
theorem d_Md_year_137 : decode prog_14_method_45_code 137 = .ok (.iload 7, 2) := by decide +kernel
theorem d_Md_year_139 : decode prog_14_method_45_code 139 = .ok (.bipush 9, 2) := by decide +kernel
theorem d_Md_year_141 : decode prog_14_method_45_code 141 = .ok (.irem, 1) := by decide +kernel
theorem d_Md_year_142 : decode prog_14_method_45_code 142 = .ok (.iadd, 1) := by decide +kernel
theorem d_Md_year_143 : decode prog_14_method_45_code 143 = .ok (.invokevirtual 99, 3) := by decide +kernel
theorem d_Md_year_146 : decode prog_14_method_45_code 146 = .ok (.putfield 93, 3) := by decide +kernel
theorem d_Md_year_149 : decode prog_14_method_45_code 149 = .ok (.goto 54, 3) := by decide +kernel
theorem d_Md_year_152 : decode prog_14_method_45_code 152 = .ok (.iload 6, 2) := by decide +kernel
theorem d_Md_year_154 : decode prog_14_method_45_code 154 = .ok (.bipush 6, 2) := by decide +kernel
theorem d_Md_year_156 : decode prog_14_method_45_code 156 = .ok (.if_icmp .ne 27, 3) := by decide +kernel
theorem d_Md_year_159 : decode prog_14_method_45_code 159 = .ok (.aload_n 0, 1) := by decide +kernel
theorem d_Md_year_160 : decode prog_14_method_45_code 160 = .ok (.aload_n 0, 1) := by decide +kernel
theorem d_Md_year_161 : decode prog_14_method_45_code 161 = .ok (.iload 7, 2) := by decide +kernel
theorem d_Md_year_163 : decode prog_14_method_45_code 163 = .ok (.bipush 12, 2) := by decide +kernel
theorem d_Md_year_165 : decode prog_14_method_45_code 165 = .ok (.irem, 1) := by decide +kernel
theorem d_Md_year_166 : decode prog_14_method_45_code 166 = .ok (.iload 7, 2) := by decide +kernel
theorem d_Md_year_168 : decode prog_14_method_45_code 168 = .ok (.bipush 12, 2) := by decide +kernel
theorem d_Md_year_170 : decode prog_14_method_45_code 170 = .ok (.idiv, 1) := by decide +kernel
theorem d_Md_year_171 : decode prog_14_method_45_code 171 = .ok (.bipush 12, 2) := by decide +kernel
theorem d_Md_year_173 : decode prog_14_method_45_code 173 = .ok (.irem, 1) := by decide +kernel
theorem d_Md_year_174 : decode prog_14_method_45_code 174 = .ok (.invokevirtual 96, 3) := by decide +kernel
theorem d_Md_year_177 : decode prog_14_method_45_code 177 = .ok (.putfield 93, 3) := by decide +kernel
theorem d_Md_year_180 : decode prog_14_method_45_code 180 = .ok (.goto 23, 3) := by decide +kernel
theorem d_Md_year_183 : decode prog_14_method_45_code 183 = .ok (.aload_n 0, 1) := by decide +kernel
theorem d_Md_year_184 : decode prog_14_method_45_code 184 = .ok (.iload 7, 2) := by decide +kernel
theorem d_Md_year_186 : decode prog_14_method_45_code 186 = .ok (.bipush 8, 2) := by decide +kernel
theorem d_Md_year_188 : decode prog_14_method_45_code 188 = .ok (.irem, 1) := by decide +kernel
theorem d_Md_year_189 : decode prog_14_method_45_code 189 = .ok (.ifCond .ne 10, 3) := by decide +kernel
theorem d_Md_year_192 : decode prog_14_method_45_code 192 = .ok (.aload_n 0, 1) := by decide +kernel
theorem d_Md_year_193 : decode prog_14_method_45_code 193 = .ok (.invokevirtual 90, 3) := by decide +kernel
theorem d_Md_year_196 : decode prog_14_method_45_code 196 = .ok (.goto 4, 3) := by decide +kernel
theorem d_Md_year_199 : decode prog_14_method_45_code 199 = .ok (.iconst 0, 1) := by decide +kernel
theorem d_Md_year_200 : decode prog_14_method_45_code 200 = .ok (.putfield 93, 3) := by decide +kernel
theorem d_Md_year_203 : decode prog_14_method_45_code 203 = .ok (.iinc 5 1, 3) := by decide +kernel
theorem d_Md_year_206 : decode prog_14_method_45_code 206 = .ok (.goto (-163), 3) := by decide +kernel
theorem d_Md_year_209 : decode prog_14_method_45_code 209 = .ok (.iconst 0, 1) := by decide +kernel
theorem d_Md_year_210 : decode prog_14_method_45_code 210 = .ok (.istore 5, 2) := by decide +kernel
theorem d_Md_year_212 : decode prog_14_method_45_code 212 = .ok (.iconst 0, 1) := by decide +kernel
theorem d_Md_year_213 : decode prog_14_method_45_code 213 = .ok (.istore 6, 2) := by decide +kernel
theorem d_Md_year_215 : decode prog_14_method_45_code 215 = .ok (.iload 6, 2) := by decide +kernel
theorem d_Md_year_217 : decode prog_14_method_45_code 217 = .ok (.bipush 6, 2) := by decide +kernel
theorem d_Md_year_219 : decode prog_14_method_45_code 219 = .ok (.if_icmp .ge 24, 3) := by decide +kernel
theorem d_Md_year_222 : decode prog_14_method_45_code 222 = .ok (.iload 5, 2) := by decide +kernel
theorem d_Md_year_224 : decode prog_14_method_45_code 224 = .ok (.aload_n 0, 1) := by decide +kernel
theorem d_Md_year_225 : decode prog_14_method_45_code 225 = .ok (.getfield 13, 3) := by decide +kernel
theorem d_Md_year_228 : decode prog_14_method_45_code 228 = .ok (.bipush 18, 2) := by decide +kernel
theorem d_Md_year_230 : decode prog_14_method_45_code 230 = .ok (.iload 6, 2) := by decide +kernel
theorem d_Md_year_232 : decode prog_14_method_45_code 232 = .ok (.iadd, 1) := by decide +kernel
theorem d_Md_year_233 : decode prog_14_method_45_code 233 = .ok (.iaload, 1) := by decide +kernel
theorem d_Md_year_234 : decode prog_14_method_45_code 234 = .ok (.iadd, 1) := by decide +kernel
theorem d_Md_year_235 : decode prog_14_method_45_code 235 = .ok (.istore 5, 2) := by decide +kernel
theorem d_Md_year_237 : decode prog_14_method_45_code 237 = .ok (.iinc 6 1, 3) := by decide +kernel
theorem d_Md_year_240 : decode prog_14_method_45_code 240 = .ok (.goto (-25), 3) := by decide +kernel
theorem d_Md_year_243 : decode prog_14_method_45_code 243 = .ok (.iload_n 3, 1) := by decide +kernel
theorem d_Md_year_244 : decode prog_14_method_45_code 244 = .ok (.ifCond .ne 13, 3) := by decide +kernel
theorem d_Md_year_247 : decode prog_14_method_45_code 247 = .ok (.aload_n 0, 1) := by decide +kernel
theorem d_Md_year_248 : decode prog_14_method_45_code 248 = .ok (.invokevirtual 78, 3) := by decide +kernel
theorem d_Md_year_251 : decode prog_14_method_45_code 251 = .ok (.invokestatic 81, 3) := by decide +kernel
theorem d_Md_year_254 : decode prog_14_method_45_code 254 = .ok (.goto 23, 3) := by decide +kernel
theorem d_Md_year_257 : decode prog_14_method_45_code 257 = .ok (.iload_n 3, 1) := by decide +kernel
theorem d_Md_year_258 : decode prog_14_method_45_code 258 = .ok (.iconst 1, 1) := by decide +kernel
theorem d_Md_year_259 : decode prog_14_method_45_code 259 = .ok (.if_icmp .ne 8, 3) := by decide +kernel
theorem d_Md_year_262 : decode prog_14_method_45_code 262 = .ok (.iload 5, 2) := by decide +kernel
theorem d_Md_year_264 : decode prog_14_method_45_code 264 = .ok (.goto 13, 3) := by decide +kernel
theorem d_Md_year_267 : decode prog_14_method_45_code 267 = .ok (.aload_n 0, 1) := by decide +kernel
theorem d_Md_year_268 : decode prog_14_method_45_code 268 = .ok (.getfield 13, 3) := by decide +kernel
theorem d_Md_year_271 : decode prog_14_method_45_code 271 = .ok (.bipush 24, 2) := by decide +kernel
theorem d_Md_year_273 : decode prog_14_method_45_code 273 = .ok (.iaload, 1) := by decide +kernel
theorem d_Md_year_274 : decode prog_14_method_45_code 274 = .ok (.invokestatic 81, 3) := by decide +kernel
theorem d_Md_year_277 : decode prog_14_method_45_code 277 = .ok (.ireturn, 1) := by decide +kernel
theorem d_Md_image_0 : decode prog_14_method_46_code 0 = .ok (.iload_n 1, 1) := by decide +kernel
theorem d_Md_image_1 : decode prog_14_method_46_code 1 = .ok (.iconst 0, 1) := by decide +kernel
theorem d_Md_image_2 : decode prog_14_method_46_code 2 = .ok (.iconst 1, 1) := by decide +kernel
theorem d_Md_image_3 : decode prog_14_method_46_code 3 = .ok (.invokestatic 42, 3) := by decide +kernel
theorem d_Md_image_6 : decode prog_14_method_46_code 6 = .ok (.ifCond .ne 6, 3) := by decide +kernel
theorem d_Md_image_9 : decode prog_14_method_46_code 9 = .ok (.bipush (-2), 2) := by decide +kernel
theorem d_Md_image_11 : decode prog_14_method_46_code 11 = .ok (.ireturn, 1) := by decide +kernel
theorem d_Md_image_12 : decode prog_14_method_46_code 12 = .ok (.bipush 50, 2) := by decide +kernel
theorem d_Md_image_14 : decode prog_14_method_46_code 14 = .ok (.iload_n 1, 1) := by decide +kernel
theorem d_Md_image_15 : decode prog_14_method_46_code 15 = .ok (.imul, 1) := by decide +kernel
theorem d_Md_image_16 : decode prog_14_method_46_code 16 = .ok (.istore_n 2, 1) := by decide +kernel
theorem d_Md_image_17 : decode prog_14_method_46_code 17 = .ok (.iconst 0, 1) := by decide +kernel
theorem d_Md_image_18 : decode prog_14_method_46_code 18 = .ok (.istore_n 3, 1) := by decide +kernel
theorem d_Md_image_19 : decode prog_14_method_46_code 19 = .ok (.iload_n 3, 1) := by decide +kernel
theorem d_Md_image_20 : decode prog_14_method_46_code 20 = .ok (.bipush 26, 2) := by decide +kernel
theorem d_Md_image_22 : decode prog_14_method_46_code 22 = .ok (.if_icmp .ge 23, 3) := by decide +kernel
theorem d_Md_image_25 : decode prog_14_method_46_code 25 = .ok (.aload_n 0, 1) := by decide +kernel
theorem d_Md_image_26 : decode prog_14_method_46_code 26 = .ok (.getfield 35, 3) := by decide +kernel
theorem d_Md_image_29 : decode prog_14_method_46_code 29 = .ok (.iload_n 2, 1) := by decide +kernel
theorem d_Md_image_30 : decode prog_14_method_46_code 30 = .ok (.iload_n 3, 1) := by decide +kernel
theorem d_Md_image_31 : decode prog_14_method_46_code 31 = .ok (.iadd, 1) := by decide +kernel
theorem d_Md_image_32 : decode prog_14_method_46_code 32 = .ok (.aload_n 0, 1) := by decide +kernel
theorem d_Md_image_33 : decode prog_14_method_46_code 33 = .ok (.getfield 7, 3) := by decide +kernel
theorem d_Md_image_36 : decode prog_14_method_46_code 36 = .ok (.iload_n 3, 1) := by decide +kernel
theorem d_Md_image_37 : decode prog_14_method_46_code 37 = .ok (.iaload, 1) := by decide +kernel
theorem d_Md_image_38 : decode prog_14_method_46_code 38 = .ok (.iastore, 1) := by decide +kernel
theorem d_Md_image_39 : decode prog_14_method_46_code 39 = .ok (.iinc 3 1, 3) := by decide +kernel
theorem d_Md_image_42 : decode prog_14_method_46_code 42 = .ok (.goto (-23), 3) := by decide +kernel
theorem d_Md_image_45 : decode prog_14_method_46_code 45 = .ok (.iconst 0, 1) := by decide +kernel
theorem d_Md_image_46 : decode prog_14_method_46_code 46 = .ok (.istore_n 3, 1) := by decide +kernel
theorem d_Md_image_47 : decode prog_14_method_46_code 47 = .ok (.iload_n 3, 1) := by decide +kernel
theorem d_Md_image_48 : decode prog_14_method_46_code 48 = .ok (.bipush 16, 2) := by decide +kernel
theorem d_Md_image_50 : decode prog_14_method_46_code 50 = .ok (.if_icmp .ge 26, 3) := by decide +kernel
theorem d_Md_image_53 : decode prog_14_method_46_code 53 = .ok (.aload_n 0, 1) := by decide +kernel
theorem d_Md_image_54 : decode prog_14_method_46_code 54 = .ok (.getfield 35, 3) := by decide +kernel
theorem d_Md_image_57 : decode prog_14_method_46_code 57 = .ok (.iload_n 2, 1) := by decide +kernel
theorem d_Md_image_58 : decode prog_14_method_46_code 58 = .ok (.bipush 26, 2) := by decide +kernel
theorem d_Md_image_60 : decode prog_14_method_46_code 60 = .ok (.iadd, 1) := by decide +kernel
theorem d_Md_image_61 : decode prog_14_method_46_code 61 = .ok (.iload_n 3, 1) := by decide +kernel
theorem d_Md_image_62 : decode prog_14_method_46_code 62 = .ok (.iadd, 1) := by decide +kernel
theorem d_Md_image_63 : decode prog_14_method_46_code 63 = .ok (.aload_n 0, 1) := by decide +kernel
theorem d_Md_image_64 : decode prog_14_method_46_code 64 = .ok (.getfield 16, 3) := by decide +kernel
theorem d_Md_image_67 : decode prog_14_method_46_code 67 = .ok (.iload_n 3, 1) := by decide +kernel
theorem d_Md_image_68 : decode prog_14_method_46_code 68 = .ok (.iaload, 1) := by decide +kernel
theorem d_Md_image_69 : decode prog_14_method_46_code 69 = .ok (.iastore, 1) := by decide +kernel
theorem d_Md_image_70 : decode prog_14_method_46_code 70 = .ok (.iinc 3 1, 3) := by decide +kernel
theorem d_Md_image_73 : decode prog_14_method_46_code 73 = .ok (.goto (-26), 3) := by decide +kernel
theorem d_Md_image_76 : decode prog_14_method_46_code 76 = .ok (.aload_n 0, 1) := by decide +kernel
theorem d_Md_image_77 : decode prog_14_method_46_code 77 = .ok (.getfield 35, 3) := by decide +kernel
theorem d_Md_image_80 : decode prog_14_method_46_code 80 = .ok (.iload_n 2, 1) := by decide +kernel
theorem d_Md_image_81 : decode prog_14_method_46_code 81 = .ok (.bipush 45, 2) := by decide +kernel
theorem d_Md_image_83 : decode prog_14_method_46_code 83 = .ok (.iadd, 1) := by decide +kernel
theorem d_Md_image_84 : decode prog_14_method_46_code 84 = .ok (.aload_n 0, 1) := by decide +kernel
theorem d_Md_image_85 : decode prog_14_method_46_code 85 = .ok (.getfield 121, 3) := by decide +kernel
theorem d_Md_image_88 : decode prog_14_method_46_code 88 = .ok (.iastore, 1) := by decide +kernel
theorem d_Md_image_89 : decode prog_14_method_46_code 89 = .ok (.aload_n 0, 1) := by decide +kernel
theorem d_Md_image_90 : decode prog_14_method_46_code 90 = .ok (.getfield 38, 3) := by decide +kernel
theorem d_Md_image_93 : decode prog_14_method_46_code 93 = .ok (.iload_n 1, 1) := by decide +kernel
theorem d_Md_image_94 : decode prog_14_method_46_code 94 = .ok (.iconst 1, 1) := by decide +kernel
theorem d_Md_image_95 : decode prog_14_method_46_code 95 = .ok (.bastore, 1) := by decide +kernel
theorem d_Md_image_96 : decode prog_14_method_46_code 96 = .ok (.iconst 1, 1) := by decide +kernel
theorem d_Md_image_97 : decode prog_14_method_46_code 97 = .ok (.ireturn, 1) := by decide +kernel
theorem d_Md_restore_0 : decode prog_14_method_47_code 0 = .ok (.iload_n 1, 1) := by decide +kernel
theorem d_Md_restore_1 : decode prog_14_method_47_code 1 = .ok (.iconst 0, 1) := by decide +kernel
theorem d_Md_restore_2 : decode prog_14_method_47_code 2 = .ok (.iconst 1, 1) := by decide +kernel
theorem d_Md_restore_3 : decode prog_14_method_47_code 3 = .ok (.invokestatic 42, 3) := by decide +kernel
theorem d_Md_restore_6 : decode prog_14_method_47_code 6 = .ok (.ifCond .ne 6, 3) := by decide +kernel
theorem d_Md_restore_9 : decode prog_14_method_47_code 9 = .ok (.bipush (-2), 2) := by decide +kernel
theorem d_Md_restore_11 : decode prog_14_method_47_code 11 = .ok (.ireturn, 1) := by decide +kernel
theorem d_Md_restore_12 : decode prog_14_method_47_code 12 = .ok (.aload_n 0, 1) := by decide +kernel
theorem d_Md_restore_13 : decode prog_14_method_47_code 13 = .ok (.getfield 38, 3) := by decide +kernel
theorem d_Md_restore_16 : decode prog_14_method_47_code 16 = .ok (.iload_n 1, 1) := by decide +kernel
theorem d_Md_restore_17 : decode prog_14_method_47_code 17 = .ok (.baload, 1) := by decide +kernel
theorem d_Md_restore_18 : decode prog_14_method_47_code 18 = .ok (.ifCond .ne 6, 3) := by decide +kernel
theorem d_Md_restore_21 : decode prog_14_method_47_code 21 = .ok (.bipush (-3), 2) := by decide +kernel
theorem d_Md_restore_23 : decode prog_14_method_47_code 23 = .ok (.ireturn, 1) := by decide +kernel
theorem d_Md_restore_24 : decode prog_14_method_47_code 24 = .ok (.bipush 50, 2) := by decide +kernel
theorem d_Md_restore_26 : decode prog_14_method_47_code 26 = .ok (.iload_n 1, 1) := by decide +kernel
theorem d_Md_restore_27 : decode prog_14_method_47_code 27 = .ok (.imul, 1) := by decide +kernel
theorem d_Md_restore_28 : decode prog_14_method_47_code 28 = .ok (.istore_n 2, 1) := by decide +kernel
theorem d_Md_restore_29 : decode prog_14_method_47_code 29 = .ok (.iconst 0, 1) := by decide +kernel
theorem d_Md_restore_30 : decode prog_14_method_47_code 30 = .ok (.istore_n 3, 1) := by decide +kernel
theorem d_Md_restore_31 : decode prog_14_method_47_code 31 = .ok (.iload_n 3, 1) := by decide +kernel
theorem d_Md_restore_32 : decode prog_14_method_47_code 32 = .ok (.bipush 26, 2) := by decide +kernel
theorem d_Md_restore_34 : decode prog_14_method_47_code 34 = .ok (.if_icmp .ge 23, 3) := by decide +kernel
theorem d_Md_restore_37 : decode prog_14_method_47_code 37 = .ok (.aload_n 0, 1) := by decide +kernel
theorem d_Md_restore_38 : decode prog_14_method_47_code 38 = .ok (.getfield 7, 3) := by decide +kernel
theorem d_Md_restore_41 : decode prog_14_method_47_code 41 = .ok (.iload_n 3, 1) := by decide +kernel
theorem d_Md_restore_42 : decode prog_14_method_47_code 42 = .ok (.aload_n 0, 1) := by decide +kernel
theorem d_Md_restore_43 : decode prog_14_method_47_code 43 = .ok (.getfield 35, 3) := by decide +kernel
theorem d_Md_restore_46 : decode prog_14_method_47_code 46 = .ok (.iload_n 2, 1) := by decide +kernel
theorem d_Md_restore_47 : decode prog_14_method_47_code 47 = .ok (.iload_n 3, 1) := by decide +kernel
theorem d_Md_restore_48 : decode prog_14_method_47_code 48 = .ok (.iadd, 1) := by decide +kernel
theorem d_Md_restore_49 : decode prog_14_method_47_code 49 = .ok (.iaload, 1) := by decide +kernel
theorem d_Md_restore_50 : decode prog_14_method_47_code 50 = .ok (.iastore, 1) := by decide +kernel
theorem d_Md_restore_51 : decode prog_14_method_47_code 51 = .ok (.iinc 3 1, 3) := by decide +kernel
theorem d_Md_restore_54 : decode prog_14_method_47_code 54 = .ok (.goto (-23), 3) := by decide +kernel
theorem d_Md_restore_57 : decode prog_14_method_47_code 57 = .ok (.iconst 0, 1) := by decide +kernel
theorem d_Md_restore_58 : decode prog_14_method_47_code 58 = .ok (.istore_n 3, 1) := by decide +kernel
theorem d_Md_restore_59 : decode prog_14_method_47_code 59 = .ok (.iload_n 3, 1) := by decide +kernel
theorem d_Md_restore_60 : decode prog_14_method_47_code 60 = .ok (.bipush 16, 2) := by decide +kernel
theorem d_Md_restore_62 : decode prog_14_method_47_code 62 = .ok (.if_icmp .ge 26, 3) := by decide +kernel
theorem d_Md_restore_65 : decode prog_14_method_47_code 65 = .ok (.aload_n 0, 1) := by decide +kernel
theorem d_Md_restore_66 : decode prog_14_method_47_code 66 = .ok (.getfield 16, 3) := by decide +kernel
theorem d_Md_restore_69 : decode prog_14_method_47_code 69 = .ok (.iload_n 3, 1) := by decide +kernel
theorem d_Md_restore_70 : decode prog_14_method_47_code 70 = .ok (.aload_n 0, 1) := by decide +kernel
theorem d_Md_restore_71 : decode prog_14_method_47_code 71 = .ok (.getfield 35, 3) := by decide +kernel
theorem d_Md_restore_74 : decode prog_14_method_47_code 74 = .ok (.iload_n 2, 1) := by decide +kernel
theorem d_Md_restore_75 : decode prog_14_method_47_code 75 = .ok (.bipush 26, 2) := by decide +kernel
theorem d_Md_restore_77 : decode prog_14_method_47_code 77 = .ok (.iadd, 1) := by decide +kernel
theorem d_Md_restore_78 : decode prog_14_method_47_code 78 = .ok (.iload_n 3, 1) := by decide +kernel
theorem d_Md_restore_79 : decode prog_14_method_47_code 79 = .ok (.iadd, 1) := by decide +kernel
theorem d_Md_restore_80 : decode prog_14_method_47_code 80 = .ok (.iaload, 1) := by decide +kernel
theorem d_Md_restore_81 : decode prog_14_method_47_code 81 = .ok (.iastore, 1) := by decide +kernel
theorem d_Md_restore_82 : decode prog_14_method_47_code 82 = .ok (.iinc 3 1, 3) := by decide +kernel
theorem d_Md_restore_85 : decode prog_14_method_47_code 85 = .ok (.goto (-26), 3) := by decide +kernel
theorem d_Md_restore_88 : decode prog_14_method_47_code 88 = .ok (.aload_n 0, 1) := by decide +kernel
theorem d_Md_restore_89 : decode prog_14_method_47_code 89 = .ok (.aload_n 0, 1) := by decide +kernel
theorem d_Md_restore_90 : decode prog_14_method_47_code 90 = .ok (.getfield 35, 3) := by decide +kernel
theorem d_Md_restore_93 : decode prog_14_method_47_code 93 = .ok (.iload_n 2, 1) := by decide +kernel
theorem d_Md_restore_94 : decode prog_14_method_47_code 94 = .ok (.bipush 45, 2) := by decide +kernel
theorem d_Md_restore_96 : decode prog_14_method_47_code 96 = .ok (.iadd, 1) := by decide +kernel
theorem d_Md_restore_97 : decode prog_14_method_47_code 97 = .ok (.iaload, 1) := by decide +kernel
theorem d_Md_restore_98 : decode prog_14_method_47_code 98 = .ok (.putfield 121, 3) := by decide +kernel
theorem d_Md_restore_101 : decode prog_14_method_47_code 101 = .ok (.iconst 1, 1) := by decide +kernel
theorem d_Md_restore_102 : decode prog_14_method_47_code 102 = .ok (.ireturn, 1) := by decide +kernel
theorem d_Md_told_0 : decode prog_14_method_48_code 0 = .ok (.aload_n 0, 1) := by decide +kernel
theorem d_Md_told_1 : decode prog_14_method_48_code 1 = .ok (.invokevirtual 46, 3) := by decide +kernel
theorem d_Md_told_4 : decode prog_14_method_48_code 4 = .ok (.iload_n 1, 1) := by decide +kernel
theorem d_Md_told_5 : decode prog_14_method_48_code 5 = .ok (.bipush 40, 2) := by decide +kernel
theorem d_Md_told_7 : decode prog_14_method_48_code 7 = .ok (.if_icmp .lt 24, 3) := by decide +kernel
theorem d_Md_told_10 : decode prog_14_method_48_code 10 = .ok (.iload_n 1, 1) := by decide +kernel
theorem d_Md_told_11 : decode prog_14_method_48_code 11 = .ok (.bipush 46, 2) := by decide +kernel
theorem d_Md_told_13 : decode prog_14_method_48_code 13 = .ok (.if_icmp .ge 15, 3) := by decide +kernel
theorem d_Md_told_16 : decode prog_14_method_48_code 16 = .ok (.aload_n 0, 1) := by decide +kernel
theorem d_Md_told_17 : decode prog_14_method_48_code 17 = .ok (.getfield 7, 3) := by decide +kernel
theorem d_Md_told_20 : decode prog_14_method_48_code 20 = .ok (.iload_n 1, 1) := by decide +kernel
theorem d_Md_told_21 : decode prog_14_method_48_code 21 = .ok (.bipush 22, 2) := by decide +kernel
theorem d_Md_told_23 : decode prog_14_method_48_code 23 = .ok (.isub, 1) := by decide +kernel
theorem d_Md_told_24 : decode prog_14_method_48_code 24 = .ok (.iaload, 1) := by decide +kernel
theorem d_Md_told_25 : decode prog_14_method_48_code 25 = .ok (.goto 5, 3) := by decide +kernel
theorem d_Md_told_28 : decode prog_14_method_48_code 28 = .ok (.bipush (-2), 2) := by decide +kernel
theorem d_Md_told_30 : decode prog_14_method_48_code 30 = .ok (.ireturn, 1) := by decide +kernel
theorem d_Md_told_31 : decode prog_14_method_48_code 31 = .ok (.iload_n 1, 1) := by decide +kernel
theorem d_Md_told_32 : decode prog_14_method_48_code 32 = .ok (.bipush 30, 2) := by decide +kernel
theorem d_Md_told_34 : decode prog_14_method_48_code 34 = .ok (.if_icmp .lt 24, 3) := by decide +kernel
theorem d_Md_told_37 : decode prog_14_method_48_code 37 = .ok (.iload_n 1, 1) := by decide +kernel
theorem d_Md_told_38 : decode prog_14_method_48_code 38 = .ok (.bipush 36, 2) := by decide +kernel
theorem d_Md_told_40 : decode prog_14_method_48_code 40 = .ok (.if_icmp .ge 15, 3) := by decide +kernel
theorem d_Md_told_43 : decode prog_14_method_48_code 43 = .ok (.aload_n 0, 1) := by decide +kernel
theorem d_Md_told_44 : decode prog_14_method_48_code 44 = .ok (.getfield 7, 3) := by decide +kernel
theorem d_Md_told_47 : decode prog_14_method_48_code 47 = .ok (.iload_n 1, 1) := by decide +kernel
theorem d_Md_told_48 : decode prog_14_method_48_code 48 = .ok (.bipush 18, 2) := by decide +kernel
theorem d_Md_told_50 : decode prog_14_method_48_code 50 = .ok (.isub, 1) := by decide +kernel
theorem d_Md_told_51 : decode prog_14_method_48_code 51 = .ok (.iaload, 1) := by decide +kernel
theorem d_Md_told_52 : decode prog_14_method_48_code 52 = .ok (.goto 5, 3) := by decide +kernel
theorem d_Md_told_55 : decode prog_14_method_48_code 55 = .ok (.bipush (-2), 2) := by decide +kernel
theorem d_Md_told_57 : decode prog_14_method_48_code 57 = .ok (.ireturn, 1) := by decide +kernel
theorem d_Md_told_58 : decode prog_14_method_48_code 58 = .ok (.iload_n 1, 1) := by decide +kernel
theorem d_Md_told_59 : decode prog_14_method_48_code 59 = .ok (.bipush 10, 2) := by decide +kernel
theorem d_Md_told_61 : decode prog_14_method_48_code 61 = .ok (.if_icmp .lt 24, 3) := by decide +kernel
theorem d_Md_told_64 : decode prog_14_method_48_code 64 = .ok (.iload_n 1, 1) := by decide +kernel
theorem d_Md_told_65 : decode prog_14_method_48_code 65 = .ok (.bipush 22, 2) := by decide +kernel
theorem d_Md_told_67 : decode prog_14_method_48_code 67 = .ok (.if_icmp .ge 15, 3) := by decide +kernel
theorem d_Md_told_70 : decode prog_14_method_48_code 70 = .ok (.aload_n 0, 1) := by decide +kernel
theorem d_Md_told_71 : decode prog_14_method_48_code 71 = .ok (.getfield 7, 3) := by decide +kernel
theorem d_Md_told_74 : decode prog_14_method_48_code 74 = .ok (.iload_n 1, 1) := by decide +kernel
theorem d_Md_told_75 : decode prog_14_method_48_code 75 = .ok (.bipush 10, 2) := by decide +kernel
theorem d_Md_told_77 : decode prog_14_method_48_code 77 = .ok (.isub, 1) := by decide +kernel
theorem d_Md_told_78 : decode prog_14_method_48_code 78 = .ok (.iaload, 1) := by decide +kernel
theorem d_Md_told_79 : decode prog_14_method_48_code 79 = .ok (.goto 5, 3) := by decide +kernel
theorem d_Md_told_82 : decode prog_14_method_48_code 82 = .ok (.bipush (-2), 2) := by decide +kernel
theorem d_Md_told_84 : decode prog_14_method_48_code 84 = .ok (.ireturn, 1) := by decide +kernel
theorem d_Md_told_85 : decode prog_14_method_48_code 85 = .ok (.iload_n 1, 1) := by decide +kernel
theorem d_Md_told_86 : decode prog_14_method_48_code 86 = .ok (.tableswitch 50 0 3 #[30, 35, 40, 40], 30) := by decide +kernel
theorem d_Md_told_116 : decode prog_14_method_48_code 116 = .ok (.aload_n 0, 1) := by decide +kernel
theorem d_Md_told_117 : decode prog_14_method_48_code 117 = .ok (.getfield 53, 3) := by decide +kernel
theorem d_Md_told_120 : decode prog_14_method_48_code 120 = .ok (.ireturn, 1) := by decide +kernel
theorem d_Md_told_121 : decode prog_14_method_48_code 121 = .ok (.aload_n 0, 1) := by decide +kernel
theorem d_Md_told_122 : decode prog_14_method_48_code 122 = .ok (.invokevirtual 78, 3) := by decide +kernel
theorem d_Md_told_125 : decode prog_14_method_48_code 125 = .ok (.ireturn, 1) := by decide +kernel
theorem d_Md_told_126 : decode prog_14_method_48_code 126 = .ok (.aload_n 0, 1) := by decide +kernel
theorem d_Md_told_127 : decode prog_14_method_48_code 127 = .ok (.getfield 7, 3) := by decide +kernel
theorem d_Md_told_130 : decode prog_14_method_48_code 130 = .ok (.bipush 22, 2) := by decide +kernel
theorem d_Md_told_132 : decode prog_14_method_48_code 132 = .ok (.iload_n 1, 1) := by decide +kernel
theorem d_Md_told_133 : decode prog_14_method_48_code 133 = .ok (.iadd, 1) := by decide +kernel
theorem d_Md_told_134 : decode prog_14_method_48_code 134 = .ok (.iaload, 1) := by decide +kernel
theorem d_Md_told_135 : decode prog_14_method_48_code 135 = .ok (.ireturn, 1) := by decide +kernel
theorem d_Md_told_136 : decode prog_14_method_48_code 136 = .ok (.iload_n 1, 1) := by decide +kernel
theorem d_Md_told_137 : decode prog_14_method_48_code 137 = .ok (.iconst 4, 1) := by decide +kernel
theorem d_Md_told_138 : decode prog_14_method_48_code 138 = .ok (.if_icmp .ne 10, 3) := by decide +kernel
theorem d_Md_told_141 : decode prog_14_method_48_code 141 = .ok (.aload_n 0, 1) := by decide +kernel
theorem d_Md_told_142 : decode prog_14_method_48_code 142 = .ok (.getfield 121, 3) := by decide +kernel
theorem d_Md_told_145 : decode prog_14_method_48_code 145 = .ok (.goto 5, 3) := by decide +kernel
theorem d_Md_told_148 : decode prog_14_method_48_code 148 = .ok (.bipush (-2), 2) := by decide +kernel
theorem d_Md_told_150 : decode prog_14_method_48_code 150 = .ok (.ireturn, 1) := by decide +kernel
theorem d_Int_bitCount_0 : decode prog_15_method_49_code 0 = .ok (.iload_n 0, 1) := by decide +kernel
theorem d_Int_bitCount_1 : decode prog_15_method_49_code 1 = .ok (.iload_n 0, 1) := by decide +kernel
theorem d_Int_bitCount_2 : decode prog_15_method_49_code 2 = .ok (.iconst 1, 1) := by decide +kernel
theorem d_Int_bitCount_3 : decode prog_15_method_49_code 3 = .ok (.iushr, 1) := by decide +kernel
theorem d_Int_bitCount_4 : decode prog_15_method_49_code 4 = .ok (.ldc_w 265, 3) := by decide +kernel
theorem d_Int_bitCount_7 : decode prog_15_method_49_code 7 = .ok (.iand, 1) := by decide +kernel
theorem d_Int_bitCount_8 : decode prog_15_method_49_code 8 = .ok (.isub, 1) := by decide +kernel
theorem d_Int_bitCount_9 : decode prog_15_method_49_code 9 = .ok (.istore_n 0, 1) := by decide +kernel
theorem d_Int_bitCount_10 : decode prog_15_method_49_code 10 = .ok (.iload_n 0, 1) := by decide +kernel
theorem d_Int_bitCount_11 : decode prog_15_method_49_code 11 = .ok (.ldc_w 266, 3) := by decide +kernel
theorem d_Int_bitCount_14 : decode prog_15_method_49_code 14 = .ok (.iand, 1) := by decide +kernel
theorem d_Int_bitCount_15 : decode prog_15_method_49_code 15 = .ok (.iload_n 0, 1) := by decide +kernel
theorem d_Int_bitCount_16 : decode prog_15_method_49_code 16 = .ok (.iconst 2, 1) := by decide +kernel
theorem d_Int_bitCount_17 : decode prog_15_method_49_code 17 = .ok (.iushr, 1) := by decide +kernel
theorem d_Int_bitCount_18 : decode prog_15_method_49_code 18 = .ok (.ldc_w 266, 3) := by decide +kernel
theorem d_Int_bitCount_21 : decode prog_15_method_49_code 21 = .ok (.iand, 1) := by decide +kernel
theorem d_Int_bitCount_22 : decode prog_15_method_49_code 22 = .ok (.iadd, 1) := by decide +kernel
theorem d_Int_bitCount_23 : decode prog_15_method_49_code 23 = .ok (.istore_n 0, 1) := by decide +kernel
theorem d_Int_bitCount_24 : decode prog_15_method_49_code 24 = .ok (.iload_n 0, 1) := by decide +kernel
theorem d_Int_bitCount_25 : decode prog_15_method_49_code 25 = .ok (.iload_n 0, 1) := by decide +kernel
theorem d_Int_bitCount_26 : decode prog_15_method_49_code 26 = .ok (.iconst 4, 1) := by decide +kernel
theorem d_Int_bitCount_27 : decode prog_15_method_49_code 27 = .ok (.iushr, 1) := by decide +kernel
theorem d_Int_bitCount_28 : decode prog_15_method_49_code 28 = .ok (.iadd, 1) := by decide +kernel
theorem d_Int_bitCount_29 : decode prog_15_method_49_code 29 = .ok (.ldc_w 267, 3) := by decide +kernel
theorem d_Int_bitCount_32 : decode prog_15_method_49_code 32 = .ok (.iand, 1) := by decide +kernel
theorem d_Int_bitCount_33 : decode prog_15_method_49_code 33 = .ok (.istore_n 0, 1) := by decide +kernel
theorem d_Int_bitCount_34 : decode prog_15_method_49_code 34 = .ok (.iload_n 0, 1) := by decide +kernel
theorem d_Int_bitCount_35 : decode prog_15_method_49_code 35 = .ok (.iload_n 0, 1) := by decide +kernel
theorem d_Int_bitCount_36 : decode prog_15_method_49_code 36 = .ok (.bipush 8, 2) := by decide +kernel
theorem d_Int_bitCount_38 : decode prog_15_method_49_code 38 = .ok (.iushr, 1) := by decide +kernel
theorem d_Int_bitCount_39 : decode prog_15_method_49_code 39 = .ok (.iadd, 1) := by decide +kernel
theorem d_Int_bitCount_40 : decode prog_15_method_49_code 40 = .ok (.istore_n 0, 1) := by decide +kernel
theorem d_Int_bitCount_41 : decode prog_15_method_49_code 41 = .ok (.iload_n 0, 1) := by decide +kernel
theorem d_Int_bitCount_42 : decode prog_15_method_49_code 42 = .ok (.iload_n 0, 1) := by decide +kernel
theorem d_Int_bitCount_43 : decode prog_15_method_49_code 43 = .ok (.bipush 16, 2) := by decide +kernel
theorem d_Int_bitCount_45 : decode prog_15_method_49_code 45 = .ok (.iushr, 1) := by decide +kernel
theorem d_Int_bitCount_46 : decode prog_15_method_49_code 46 = .ok (.iadd, 1) := by decide +kernel
theorem d_Int_bitCount_47 : decode prog_15_method_49_code 47 = .ok (.istore_n 0, 1) := by decide +kernel
theorem d_Int_bitCount_48 : decode prog_15_method_49_code 48 = .ok (.iload_n 0, 1) := by decide +kernel
theorem d_Int_bitCount_49 : decode prog_15_method_49_code 49 = .ok (.bipush 63, 2) := by decide +kernel
theorem d_Int_bitCount_51 : decode prog_15_method_49_code 51 = .ok (.iand, 1) := by decide +kernel
theorem d_Int_bitCount_52 : decode prog_15_method_49_code 52 = .ok (.ireturn, 1) := by decide +kernel
theorem d_Law_law_0 : decode code 0 = .ok (.new 7, 3) := by decide +kernel
theorem d_Law_law_3 : decode code 3 = .ok (.dup, 1) := by decide +kernel
theorem d_Law_law_4 : decode code 4 = .ok (.invokespecial 9, 3) := by decide +kernel
theorem d_Law_law_7 : decode code 7 = .ok (.astore_n 1, 1) := by decide +kernel
theorem d_Law_law_8 : decode code 8 = .ok (.new 10, 3) := by decide +kernel
theorem d_Law_law_11 : decode code 11 = .ok (.dup, 1) := by decide +kernel
theorem d_Law_law_12 : decode code 12 = .ok (.invokespecial 12, 3) := by decide +kernel
theorem d_Law_law_15 : decode code 15 = .ok (.astore_n 2, 1) := by decide +kernel
theorem d_Law_law_16 : decode code 16 = .ok (.iconst 0, 1) := by decide +kernel
theorem d_Law_law_17 : decode code 17 = .ok (.istore_n 3, 1) := by decide +kernel
theorem d_Law_law_18 : decode code 18 = .ok (.iload_n 3, 1) := by decide +kernel
theorem d_Law_law_19 : decode code 19 = .ok (.aload_n 0, 1) := by decide +kernel
theorem d_Law_law_20 : decode code 20 = .ok (.arraylength, 1) := by decide +kernel
theorem d_Law_law_21 : decode code 21 = .ok (.bipush 7, 2) := by decide +kernel
theorem d_Law_law_23 : decode code 23 = .ok (.isub, 1) := by decide +kernel
theorem d_Law_law_24 : decode code 24 = .ok (.if_icmp .gt 828, 3) := by decide +kernel
theorem d_Law_law_27 : decode code 27 = .ok (.aload_n 0, 1) := by decide +kernel
theorem d_Law_law_28 : decode code 28 = .ok (.iload_n 3, 1) := by decide +kernel
theorem d_Law_law_29 : decode code 29 = .ok (.iaload, 1) := by decide +kernel
theorem d_Law_law_30 : decode code 30 = .ok (.bipush 31, 2) := by decide +kernel
theorem d_Law_law_32 : decode code 32 = .ok (.iand, 1) := by decide +kernel
theorem d_Law_law_33 : decode code 33 = .ok (.tableswitch 813 0 24 #[115, 148, 191, 214, 227, 240, 263, 276, 309, 332, 365, 398, 421, 444, 477, 510, 543, 556, 579, 602, 625, 701, 744, 767, 790], 115) := by decide +kernel
theorem d_Law_law_148 : decode code 148 = .ok (.aload_n 1, 1) := by decide +kernel
theorem d_Law_law_149 : decode code 149 = .ok (.aload_n 0, 1) := by decide +kernel
theorem d_Law_law_150 : decode code 150 = .ok (.iload_n 3, 1) := by decide +kernel
theorem d_Law_law_151 : decode code 151 = .ok (.iconst 1, 1) := by decide +kernel
theorem d_Law_law_152 : decode code 152 = .ok (.iadd, 1) := by decide +kernel
theorem d_Law_law_153 : decode code 153 = .ok (.iaload, 1) := by decide +kernel
theorem d_Law_law_154 : decode code 154 = .ok (.aload_n 0, 1) := by decide +kernel
theorem d_Law_law_155 : decode code 155 = .ok (.iload_n 3, 1) := by decide +kernel
theorem d_Law_law_156 : decode code 156 = .ok (.iconst 2, 1) := by decide +kernel
theorem d_Law_law_157 : decode code 157 = .ok (.iadd, 1) := by decide +kernel
theorem d_Law_law_158 : decode code 158 = .ok (.iaload, 1) := by decide +kernel
theorem d_Law_law_159 : decode code 159 = .ok (.invokevirtual 13, 3) := by decide +kernel
theorem d_Law_law_162 : decode code 162 = .ok (.aload_n 2, 1) := by decide +kernel
theorem d_Law_law_163 : decode code 163 = .ok (.aload_n 0, 1) := by decide +kernel
theorem d_Law_law_164 : decode code 164 = .ok (.iload_n 3, 1) := by decide +kernel
theorem d_Law_law_165 : decode code 165 = .ok (.iconst 1, 1) := by decide +kernel
theorem d_Law_law_166 : decode code 166 = .ok (.iadd, 1) := by decide +kernel
theorem d_Law_law_167 : decode code 167 = .ok (.iaload, 1) := by decide +kernel
theorem d_Law_law_168 : decode code 168 = .ok (.aload_n 0, 1) := by decide +kernel
theorem d_Law_law_169 : decode code 169 = .ok (.iload_n 3, 1) := by decide +kernel
theorem d_Law_law_170 : decode code 170 = .ok (.iconst 2, 1) := by decide +kernel
theorem d_Law_law_171 : decode code 171 = .ok (.iadd, 1) := by decide +kernel
theorem d_Law_law_172 : decode code 172 = .ok (.iaload, 1) := by decide +kernel
theorem d_Law_law_173 : decode code 173 = .ok (.invokevirtual 17, 3) := by decide +kernel
theorem d_Law_law_176 : decode code 176 = .ok (.if_icmp .eq 670, 3) := by decide +kernel
theorem d_Law_law_179 : decode code 179 = .ok (.iconst 0, 1) := by decide +kernel
theorem d_Law_law_180 : decode code 180 = .ok (.ireturn, 1) := by decide +kernel
theorem d_Law_law_181 : decode code 181 = .ok (.aload_n 1, 1) := by decide +kernel
theorem d_Law_law_182 : decode code 182 = .ok (.aload_n 0, 1) := by decide +kernel
theorem d_Law_law_183 : decode code 183 = .ok (.iload_n 3, 1) := by decide +kernel
theorem d_Law_law_184 : decode code 184 = .ok (.iconst 1, 1) := by decide +kernel
theorem d_Law_law_185 : decode code 185 = .ok (.iadd, 1) := by decide +kernel
theorem d_Law_law_186 : decode code 186 = .ok (.iaload, 1) := by decide +kernel
theorem d_Law_law_187 : decode code 187 = .ok (.aload_n 0, 1) := by decide +kernel
theorem d_Law_law_188 : decode code 188 = .ok (.iload_n 3, 1) := by decide +kernel
theorem d_Law_law_189 : decode code 189 = .ok (.iconst 2, 1) := by decide +kernel
theorem d_Law_law_190 : decode code 190 = .ok (.iadd, 1) := by decide +kernel
theorem d_Law_law_191 : decode code 191 = .ok (.iaload, 1) := by decide +kernel
theorem d_Law_law_192 : decode code 192 = .ok (.aload_n 0, 1) := by decide +kernel
theorem d_Law_law_193 : decode code 193 = .ok (.iload_n 3, 1) := by decide +kernel
theorem d_Law_law_194 : decode code 194 = .ok (.iconst 3, 1) := by decide +kernel
theorem d_Law_law_195 : decode code 195 = .ok (.iadd, 1) := by decide +kernel
theorem d_Law_law_196 : decode code 196 = .ok (.iaload, 1) := by decide +kernel
theorem d_Law_law_197 : decode code 197 = .ok (.invokevirtual 18, 3) := by decide +kernel
theorem d_Law_law_200 : decode code 200 = .ok (.aload_n 2, 1) := by decide +kernel
theorem d_Law_law_201 : decode code 201 = .ok (.aload_n 0, 1) := by decide +kernel
theorem d_Law_law_202 : decode code 202 = .ok (.iload_n 3, 1) := by decide +kernel
theorem d_Law_law_203 : decode code 203 = .ok (.iconst 1, 1) := by decide +kernel
theorem d_Law_law_204 : decode code 204 = .ok (.iadd, 1) := by decide +kernel
theorem d_Law_law_205 : decode code 205 = .ok (.iaload, 1) := by decide +kernel
theorem d_Law_law_206 : decode code 206 = .ok (.aload_n 0, 1) := by decide +kernel
theorem d_Law_law_207 : decode code 207 = .ok (.iload_n 3, 1) := by decide +kernel
theorem d_Law_law_208 : decode code 208 = .ok (.iconst 2, 1) := by decide +kernel
theorem d_Law_law_209 : decode code 209 = .ok (.iadd, 1) := by decide +kernel
theorem d_Law_law_210 : decode code 210 = .ok (.iaload, 1) := by decide +kernel
theorem d_Law_law_211 : decode code 211 = .ok (.aload_n 0, 1) := by decide +kernel
theorem d_Law_law_212 : decode code 212 = .ok (.iload_n 3, 1) := by decide +kernel
theorem d_Law_law_213 : decode code 213 = .ok (.iconst 3, 1) := by decide +kernel
theorem d_Law_law_214 : decode code 214 = .ok (.iadd, 1) := by decide +kernel
theorem d_Law_law_215 : decode code 215 = .ok (.iaload, 1) := by decide +kernel
theorem d_Law_law_216 : decode code 216 = .ok (.invokevirtual 22, 3) := by decide +kernel
theorem d_Law_law_219 : decode code 219 = .ok (.if_icmp .eq 627, 3) := by decide +kernel
theorem d_Law_law_222 : decode code 222 = .ok (.iconst 0, 1) := by decide +kernel
theorem d_Law_law_223 : decode code 223 = .ok (.ireturn, 1) := by decide +kernel
theorem d_Law_law_224 : decode code 224 = .ok (.aload_n 1, 1) := by decide +kernel
theorem d_Law_law_225 : decode code 225 = .ok (.aload_n 0, 1) := by decide +kernel
theorem d_Law_law_226 : decode code 226 = .ok (.iload_n 3, 1) := by decide +kernel
theorem d_Law_law_227 : decode code 227 = .ok (.iconst 1, 1) := by decide +kernel
theorem d_Law_law_228 : decode code 228 = .ok (.iadd, 1) := by decide +kernel
theorem d_Law_law_229 : decode code 229 = .ok (.iaload, 1) := by decide +kernel
theorem d_Law_law_230 : decode code 230 = .ok (.invokevirtual 23, 3) := by decide +kernel
theorem d_Law_law_233 : decode code 233 = .ok (.aload_n 2, 1) := by decide +kernel
theorem d_Law_law_234 : decode code 234 = .ok (.aload_n 0, 1) := by decide +kernel
theorem d_Law_law_235 : decode code 235 = .ok (.iload_n 3, 1) := by decide +kernel
theorem d_Law_law_236 : decode code 236 = .ok (.iconst 1, 1) := by decide +kernel
theorem d_Law_law_237 : decode code 237 = .ok (.iadd, 1) := by decide +kernel
theorem d_Law_law_238 : decode code 238 = .ok (.iaload, 1) := by decide +kernel
theorem d_Law_law_239 : decode code 239 = .ok (.invokevirtual 27, 3) := by decide +kernel
theorem d_Law_law_242 : decode code 242 = .ok (.if_icmp .eq 604, 3) := by decide +kernel
theorem d_Law_law_245 : decode code 245 = .ok (.iconst 0, 1) := by decide +kernel
theorem d_Law_law_246 : decode code 246 = .ok (.ireturn, 1) := by decide +kernel
theorem d_Law_law_247 : decode code 247 = .ok (.aload_n 1, 1) := by decide +kernel
theorem d_Law_law_248 : decode code 248 = .ok (.invokevirtual 28, 3) := by decide +kernel
theorem d_Law_law_251 : decode code 251 = .ok (.aload_n 2, 1) := by decide +kernel
theorem d_Law_law_252 : decode code 252 = .ok (.invokevirtual 32, 3) := by decide +kernel
theorem d_Law_law_255 : decode code 255 = .ok (.if_icmp .eq 591, 3) := by decide +kernel
theorem d_Law_law_258 : decode code 258 = .ok (.iconst 0, 1) := by decide +kernel
theorem d_Law_law_259 : decode code 259 = .ok (.ireturn, 1) := by decide +kernel
theorem d_Law_law_260 : decode code 260 = .ok (.aload_n 1, 1) := by decide +kernel
theorem d_Law_law_261 : decode code 261 = .ok (.invokevirtual 33, 3) := by decide +kernel
theorem d_Law_law_264 : decode code 264 = .ok (.aload_n 2, 1) := by decide +kernel
theorem d_Law_law_265 : decode code 265 = .ok (.invokevirtual 36, 3) := by decide +kernel
theorem d_Law_law_268 : decode code 268 = .ok (.if_icmp .eq 578, 3) := by decide +kernel
theorem d_Law_law_271 : decode code 271 = .ok (.iconst 0, 1) := by decide +kernel
theorem d_Law_law_272 : decode code 272 = .ok (.ireturn, 1) := by decide +kernel
theorem d_Law_law_273 : decode code 273 = .ok (.aload_n 1, 1) := by decide +kernel
theorem d_Law_law_274 : decode code 274 = .ok (.aload_n 0, 1) := by decide +kernel
theorem d_Law_law_275 : decode code 275 = .ok (.iload_n 3, 1) := by decide +kernel
theorem d_Law_law_276 : decode code 276 = .ok (.iconst 1, 1) := by decide +kernel
theorem d_Law_law_277 : decode code 277 = .ok (.iadd, 1) := by decide +kernel
theorem d_Law_law_278 : decode code 278 = .ok (.iaload, 1) := by decide +kernel
theorem d_Law_law_279 : decode code 279 = .ok (.invokevirtual 37, 3) := by decide +kernel
theorem d_Law_law_282 : decode code 282 = .ok (.aload_n 2, 1) := by decide +kernel
theorem d_Law_law_283 : decode code 283 = .ok (.aload_n 0, 1) := by decide +kernel
theorem d_Law_law_284 : decode code 284 = .ok (.iload_n 3, 1) := by decide +kernel
theorem d_Law_law_285 : decode code 285 = .ok (.iconst 1, 1) := by decide +kernel
theorem d_Law_law_286 : decode code 286 = .ok (.iadd, 1) := by decide +kernel
theorem d_Law_law_287 : decode code 287 = .ok (.iaload, 1) := by decide +kernel
theorem d_Law_law_288 : decode code 288 = .ok (.invokevirtual 40, 3) := by decide +kernel
theorem d_Law_law_291 : decode code 291 = .ok (.if_icmp .eq 555, 3) := by decide +kernel
theorem d_Law_law_294 : decode code 294 = .ok (.iconst 0, 1) := by decide +kernel
theorem d_Law_law_295 : decode code 295 = .ok (.ireturn, 1) := by decide +kernel
theorem d_Law_law_296 : decode code 296 = .ok (.aload_n 1, 1) := by decide +kernel
theorem d_Law_law_297 : decode code 297 = .ok (.invokevirtual 41, 3) := by decide +kernel
theorem d_Law_law_300 : decode code 300 = .ok (.aload_n 2, 1) := by decide +kernel
theorem d_Law_law_301 : decode code 301 = .ok (.invokevirtual 44, 3) := by decide +kernel
theorem d_Law_law_304 : decode code 304 = .ok (.if_icmp .eq 542, 3) := by decide +kernel
theorem d_Law_law_307 : decode code 307 = .ok (.iconst 0, 1) := by decide +kernel
theorem d_Law_law_308 : decode code 308 = .ok (.ireturn, 1) := by decide +kernel
theorem d_Law_law_309 : decode code 309 = .ok (.aload_n 1, 1) := by decide +kernel
theorem d_Law_law_310 : decode code 310 = .ok (.aload_n 0, 1) := by decide +kernel
theorem d_Law_law_311 : decode code 311 = .ok (.iload_n 3, 1) := by decide +kernel
theorem d_Law_law_312 : decode code 312 = .ok (.iconst 1, 1) := by decide +kernel
theorem d_Law_law_313 : decode code 313 = .ok (.iadd, 1) := by decide +kernel
theorem d_Law_law_314 : decode code 314 = .ok (.iaload, 1) := by decide +kernel
theorem d_Law_law_315 : decode code 315 = .ok (.aload_n 0, 1) := by decide +kernel
theorem d_Law_law_316 : decode code 316 = .ok (.iload_n 3, 1) := by decide +kernel
theorem d_Law_law_317 : decode code 317 = .ok (.iconst 2, 1) := by decide +kernel
theorem d_Law_law_318 : decode code 318 = .ok (.iadd, 1) := by decide +kernel
theorem d_Law_law_319 : decode code 319 = .ok (.iaload, 1) := by decide +kernel
theorem d_Law_law_320 : decode code 320 = .ok (.invokevirtual 45, 3) := by decide +kernel
theorem d_Law_law_323 : decode code 323 = .ok (.aload_n 2, 1) := by decide +kernel
theorem d_Law_law_324 : decode code 324 = .ok (.aload_n 0, 1) := by decide +kernel
theorem d_Law_law_325 : decode code 325 = .ok (.iload_n 3, 1) := by decide +kernel
theorem d_Law_law_326 : decode code 326 = .ok (.iconst 1, 1) := by decide +kernel
theorem d_Law_law_327 : decode code 327 = .ok (.iadd, 1) := by decide +kernel
theorem d_Law_law_328 : decode code 328 = .ok (.iaload, 1) := by decide +kernel
theorem d_Law_law_329 : decode code 329 = .ok (.aload_n 0, 1) := by decide +kernel
theorem d_Law_law_330 : decode code 330 = .ok (.iload_n 3, 1) := by decide +kernel
theorem d_Law_law_331 : decode code 331 = .ok (.iconst 2, 1) := by decide +kernel
theorem d_Law_law_332 : decode code 332 = .ok (.iadd, 1) := by decide +kernel
theorem d_Law_law_333 : decode code 333 = .ok (.iaload, 1) := by decide +kernel
theorem d_Law_law_334 : decode code 334 = .ok (.invokevirtual 48, 3) := by decide +kernel
theorem d_Law_law_337 : decode code 337 = .ok (.if_icmp .eq 509, 3) := by decide +kernel
theorem d_Law_law_340 : decode code 340 = .ok (.iconst 0, 1) := by decide +kernel
theorem d_Law_law_341 : decode code 341 = .ok (.ireturn, 1) := by decide +kernel
theorem d_Law_law_342 : decode code 342 = .ok (.aload_n 1, 1) := by decide +kernel
theorem d_Law_law_343 : decode code 343 = .ok (.aload_n 0, 1) := by decide +kernel
theorem d_Law_law_344 : decode code 344 = .ok (.iload_n 3, 1) := by decide +kernel
theorem d_Law_law_345 : decode code 345 = .ok (.iconst 1, 1) := by decide +kernel
theorem d_Law_law_346 : decode code 346 = .ok (.iadd, 1) := by decide +kernel
theorem d_Law_law_347 : decode code 347 = .ok (.iaload, 1) := by decide +kernel
theorem d_Law_law_348 : decode code 348 = .ok (.invokevirtual 49, 3) := by decide +kernel
theorem d_Law_law_351 : decode code 351 = .ok (.aload_n 2, 1) := by decide +kernel
theorem d_Law_law_352 : decode code 352 = .ok (.aload_n 0, 1) := by decide +kernel
theorem d_Law_law_353 : decode code 353 = .ok (.iload_n 3, 1) := by decide +kernel
theorem d_Law_law_354 : decode code 354 = .ok (.iconst 1, 1) := by decide +kernel
theorem d_Law_law_355 : decode code 355 = .ok (.iadd, 1) := by decide +kernel
theorem d_Law_law_356 : decode code 356 = .ok (.iaload, 1) := by decide +kernel
theorem d_Law_law_357 : decode code 357 = .ok (.invokevirtual 52, 3) := by decide +kernel
theorem d_Law_law_360 : decode code 360 = .ok (.if_icmp .eq 486, 3) := by decide +kernel
theorem d_Law_law_363 : decode code 363 = .ok (.iconst 0, 1) := by decide +kernel
theorem d_Law_law_364 : decode code 364 = .ok (.ireturn, 1) := by decide +kernel
theorem d_Law_law_365 : decode code 365 = .ok (.aload_n 1, 1) := by decide +kernel
theorem d_Law_law_366 : decode code 366 = .ok (.aload_n 0, 1) := by decide +kernel
theorem d_Law_law_367 : decode code 367 = .ok (.iload_n 3, 1) := by decide +kernel
theorem d_Law_law_368 : decode code 368 = .ok (.iconst 1, 1) := by decide +kernel
theorem d_Law_law_369 : decode code 369 = .ok (.iadd, 1) := by decide +kernel
theorem d_Law_law_370 : decode code 370 = .ok (.iaload, 1) := by decide +kernel
theorem d_Law_law_371 : decode code 371 = .ok (.aload_n 0, 1) := by decide +kernel
theorem d_Law_law_372 : decode code 372 = .ok (.iload_n 3, 1) := by decide +kernel
theorem d_Law_law_373 : decode code 373 = .ok (.iconst 2, 1) := by decide +kernel
theorem d_Law_law_374 : decode code 374 = .ok (.iadd, 1) := by decide +kernel
theorem d_Law_law_375 : decode code 375 = .ok (.iaload, 1) := by decide +kernel
theorem d_Law_law_376 : decode code 376 = .ok (.invokevirtual 53, 3) := by decide +kernel
theorem d_Law_law_379 : decode code 379 = .ok (.aload_n 2, 1) := by decide +kernel
theorem d_Law_law_380 : decode code 380 = .ok (.aload_n 0, 1) := by decide +kernel
theorem d_Law_law_381 : decode code 381 = .ok (.iload_n 3, 1) := by decide +kernel
theorem d_Law_law_382 : decode code 382 = .ok (.iconst 1, 1) := by decide +kernel
theorem d_Law_law_383 : decode code 383 = .ok (.iadd, 1) := by decide +kernel
theorem d_Law_law_384 : decode code 384 = .ok (.iaload, 1) := by decide +kernel
theorem d_Law_law_385 : decode code 385 = .ok (.aload_n 0, 1) := by decide +kernel
theorem d_Law_law_386 : decode code 386 = .ok (.iload_n 3, 1) := by decide +kernel
theorem d_Law_law_387 : decode code 387 = .ok (.iconst 2, 1) := by decide +kernel
theorem d_Law_law_388 : decode code 388 = .ok (.iadd, 1) := by decide +kernel
theorem d_Law_law_389 : decode code 389 = .ok (.iaload, 1) := by decide +kernel
theorem d_Law_law_390 : decode code 390 = .ok (.invokevirtual 56, 3) := by decide +kernel
theorem d_Law_law_393 : decode code 393 = .ok (.if_icmp .eq 453, 3) := by decide +kernel
theorem d_Law_law_396 : decode code 396 = .ok (.iconst 0, 1) := by decide +kernel
theorem d_Law_law_397 : decode code 397 = .ok (.ireturn, 1) := by decide +kernel
theorem d_Law_law_398 : decode code 398 = .ok (.aload_n 1, 1) := by decide +kernel
theorem d_Law_law_399 : decode code 399 = .ok (.aload_n 0, 1) := by decide +kernel
theorem d_Law_law_400 : decode code 400 = .ok (.iload_n 3, 1) := by decide +kernel
theorem d_Law_law_401 : decode code 401 = .ok (.iconst 1, 1) := by decide +kernel
theorem d_Law_law_402 : decode code 402 = .ok (.iadd, 1) := by decide +kernel
theorem d_Law_law_403 : decode code 403 = .ok (.iaload, 1) := by decide +kernel
theorem d_Law_law_404 : decode code 404 = .ok (.aload_n 0, 1) := by decide +kernel
theorem d_Law_law_405 : decode code 405 = .ok (.iload_n 3, 1) := by decide +kernel
theorem d_Law_law_406 : decode code 406 = .ok (.iconst 2, 1) := by decide +kernel
theorem d_Law_law_407 : decode code 407 = .ok (.iadd, 1) := by decide +kernel
theorem d_Law_law_408 : decode code 408 = .ok (.iaload, 1) := by decide +kernel
theorem d_Law_law_409 : decode code 409 = .ok (.invokevirtual 57, 3) := by decide +kernel
theorem d_Law_law_412 : decode code 412 = .ok (.aload_n 2, 1) := by decide +kernel
theorem d_Law_law_413 : decode code 413 = .ok (.aload_n 0, 1) := by decide +kernel
theorem d_Law_law_414 : decode code 414 = .ok (.iload_n 3, 1) := by decide +kernel
theorem d_Law_law_415 : decode code 415 = .ok (.iconst 1, 1) := by decide +kernel
theorem d_Law_law_416 : decode code 416 = .ok (.iadd, 1) := by decide +kernel
theorem d_Law_law_417 : decode code 417 = .ok (.iaload, 1) := by decide +kernel
theorem d_Law_law_418 : decode code 418 = .ok (.aload_n 0, 1) := by decide +kernel
theorem d_Law_law_419 : decode code 419 = .ok (.iload_n 3, 1) := by decide +kernel
theorem d_Law_law_420 : decode code 420 = .ok (.iconst 2, 1) := by decide +kernel
theorem d_Law_law_421 : decode code 421 = .ok (.iadd, 1) := by decide +kernel
theorem d_Law_law_422 : decode code 422 = .ok (.iaload, 1) := by decide +kernel
theorem d_Law_law_423 : decode code 423 = .ok (.invokevirtual 60, 3) := by decide +kernel
theorem d_Law_law_426 : decode code 426 = .ok (.if_icmp .eq 420, 3) := by decide +kernel
theorem d_Law_law_429 : decode code 429 = .ok (.iconst 0, 1) := by decide +kernel
theorem d_Law_law_430 : decode code 430 = .ok (.ireturn, 1) := by decide +kernel
theorem d_Law_law_431 : decode code 431 = .ok (.aload_n 1, 1) := by decide +kernel
theorem d_Law_law_432 : decode code 432 = .ok (.aload_n 0, 1) := by decide +kernel
theorem d_Law_law_433 : decode code 433 = .ok (.iload_n 3, 1) := by decide +kernel
theorem d_Law_law_434 : decode code 434 = .ok (.iconst 1, 1) := by decide +kernel
theorem d_Law_law_435 : decode code 435 = .ok (.iadd, 1) := by decide +kernel
theorem d_Law_law_436 : decode code 436 = .ok (.iaload, 1) := by decide +kernel
theorem d_Law_law_437 : decode code 437 = .ok (.invokevirtual 61, 3) := by decide +kernel
theorem d_Law_law_440 : decode code 440 = .ok (.aload_n 2, 1) := by decide +kernel
theorem d_Law_law_441 : decode code 441 = .ok (.aload_n 0, 1) := by decide +kernel
theorem d_Law_law_442 : decode code 442 = .ok (.iload_n 3, 1) := by decide +kernel
theorem d_Law_law_443 : decode code 443 = .ok (.iconst 1, 1) := by decide +kernel
theorem d_Law_law_444 : decode code 444 = .ok (.iadd, 1) := by decide +kernel
theorem d_Law_law_445 : decode code 445 = .ok (.iaload, 1) := by decide +kernel
theorem d_Law_law_446 : decode code 446 = .ok (.invokevirtual 64, 3) := by decide +kernel
theorem d_Law_law_449 : decode code 449 = .ok (.if_icmp .eq 397, 3) := by decide +kernel
theorem d_Law_law_452 : decode code 452 = .ok (.iconst 0, 1) := by decide +kernel
theorem d_Law_law_453 : decode code 453 = .ok (.ireturn, 1) := by decide +kernel
theorem d_Law_law_454 : decode code 454 = .ok (.aload_n 1, 1) := by decide +kernel
theorem d_Law_law_455 : decode code 455 = .ok (.aload_n 0, 1) := by decide +kernel
theorem d_Law_law_456 : decode code 456 = .ok (.iload_n 3, 1) := by decide +kernel
theorem d_Law_law_457 : decode code 457 = .ok (.iconst 1, 1) := by decide +kernel
theorem d_Law_law_458 : decode code 458 = .ok (.iadd, 1) := by decide +kernel
theorem d_Law_law_459 : decode code 459 = .ok (.iaload, 1) := by decide +kernel
theorem d_Law_law_460 : decode code 460 = .ok (.invokevirtual 65, 3) := by decide +kernel
theorem d_Law_law_463 : decode code 463 = .ok (.aload_n 2, 1) := by decide +kernel
theorem d_Law_law_464 : decode code 464 = .ok (.aload_n 0, 1) := by decide +kernel
theorem d_Law_law_465 : decode code 465 = .ok (.iload_n 3, 1) := by decide +kernel
theorem d_Law_law_466 : decode code 466 = .ok (.iconst 1, 1) := by decide +kernel
theorem d_Law_law_467 : decode code 467 = .ok (.iadd, 1) := by decide +kernel
theorem d_Law_law_468 : decode code 468 = .ok (.iaload, 1) := by decide +kernel
theorem d_Law_law_469 : decode code 469 = .ok (.invokevirtual 68, 3) := by decide +kernel
theorem d_Law_law_472 : decode code 472 = .ok (.if_icmp .eq 374, 3) := by decide +kernel
theorem d_Law_law_475 : decode code 475 = .ok (.iconst 0, 1) := by decide +kernel
theorem d_Law_law_476 : decode code 476 = .ok (.ireturn, 1) := by decide +kernel
theorem d_Law_law_477 : decode code 477 = .ok (.aload_n 1, 1) := by decide +kernel
theorem d_Law_law_478 : decode code 478 = .ok (.aload_n 0, 1) := by decide +kernel
theorem d_Law_law_479 : decode code 479 = .ok (.iload_n 3, 1) := by decide +kernel
theorem d_Law_law_480 : decode code 480 = .ok (.iconst 1, 1) := by decide +kernel
theorem d_Law_law_481 : decode code 481 = .ok (.iadd, 1) := by decide +kernel
theorem d_Law_law_482 : decode code 482 = .ok (.iaload, 1) := by decide +kernel
theorem d_Law_law_483 : decode code 483 = .ok (.aload_n 0, 1) := by decide +kernel
theorem d_Law_law_484 : decode code 484 = .ok (.iload_n 3, 1) := by decide +kernel
theorem d_Law_law_485 : decode code 485 = .ok (.iconst 2, 1) := by decide +kernel
theorem d_Law_law_486 : decode code 486 = .ok (.iadd, 1) := by decide +kernel
theorem d_Law_law_487 : decode code 487 = .ok (.iaload, 1) := by decide +kernel
theorem d_Law_law_488 : decode code 488 = .ok (.invokevirtual 69, 3) := by decide +kernel
theorem d_Law_law_491 : decode code 491 = .ok (.aload_n 2, 1) := by decide +kernel
theorem d_Law_law_492 : decode code 492 = .ok (.aload_n 0, 1) := by decide +kernel
theorem d_Law_law_493 : decode code 493 = .ok (.iload_n 3, 1) := by decide +kernel
theorem d_Law_law_494 : decode code 494 = .ok (.iconst 1, 1) := by decide +kernel
theorem d_Law_law_495 : decode code 495 = .ok (.iadd, 1) := by decide +kernel
theorem d_Law_law_496 : decode code 496 = .ok (.iaload, 1) := by decide +kernel
theorem d_Law_law_497 : decode code 497 = .ok (.aload_n 0, 1) := by decide +kernel
theorem d_Law_law_498 : decode code 498 = .ok (.iload_n 3, 1) := by decide +kernel
theorem d_Law_law_499 : decode code 499 = .ok (.iconst 2, 1) := by decide +kernel
theorem d_Law_law_500 : decode code 500 = .ok (.iadd, 1) := by decide +kernel
theorem d_Law_law_501 : decode code 501 = .ok (.iaload, 1) := by decide +kernel
theorem d_Law_law_502 : decode code 502 = .ok (.invokevirtual 72, 3) := by decide +kernel
theorem d_Law_law_505 : decode code 505 = .ok (.if_icmp .eq 341, 3) := by decide +kernel
theorem d_Law_law_508 : decode code 508 = .ok (.iconst 0, 1) := by decide +kernel
theorem d_Law_law_509 : decode code 509 = .ok (.ireturn, 1) := by decide +kernel
theorem d_Law_law_510 : decode code 510 = .ok (.aload_n 1, 1) := by decide +kernel
theorem d_Law_law_511 : decode code 511 = .ok (.aload_n 0, 1) := by decide +kernel
theorem d_Law_law_512 : decode code 512 = .ok (.iload_n 3, 1) := by decide +kernel
theorem d_Law_law_513 : decode code 513 = .ok (.iconst 1, 1) := by decide +kernel
theorem d_Law_law_514 : decode code 514 = .ok (.iadd, 1) := by decide +kernel
theorem d_Law_law_515 : decode code 515 = .ok (.iaload, 1) := by decide +kernel
theorem d_Law_law_516 : decode code 516 = .ok (.aload_n 0, 1) := by decide +kernel
theorem d_Law_law_517 : decode code 517 = .ok (.iload_n 3, 1) := by decide +kernel
theorem d_Law_law_518 : decode code 518 = .ok (.iconst 2, 1) := by decide +kernel
theorem d_Law_law_519 : decode code 519 = .ok (.iadd, 1) := by decide +kernel
theorem d_Law_law_520 : decode code 520 = .ok (.iaload, 1) := by decide +kernel
theorem d_Law_law_521 : decode code 521 = .ok (.invokevirtual 73, 3) := by decide +kernel
theorem d_Law_law_524 : decode code 524 = .ok (.aload_n 2, 1) := by decide +kernel
theorem d_Law_law_525 : decode code 525 = .ok (.aload_n 0, 1) := by decide +kernel
theorem d_Law_law_526 : decode code 526 = .ok (.iload_n 3, 1) := by decide +kernel
theorem d_Law_law_527 : decode code 527 = .ok (.iconst 1, 1) := by decide +kernel
theorem d_Law_law_528 : decode code 528 = .ok (.iadd, 1) := by decide +kernel
theorem d_Law_law_529 : decode code 529 = .ok (.iaload, 1) := by decide +kernel
theorem d_Law_law_530 : decode code 530 = .ok (.aload_n 0, 1) := by decide +kernel
theorem d_Law_law_531 : decode code 531 = .ok (.iload_n 3, 1) := by decide +kernel
theorem d_Law_law_532 : decode code 532 = .ok (.iconst 2, 1) := by decide +kernel
theorem d_Law_law_533 : decode code 533 = .ok (.iadd, 1) := by decide +kernel
theorem d_Law_law_534 : decode code 534 = .ok (.iaload, 1) := by decide +kernel
theorem d_Law_law_535 : decode code 535 = .ok (.invokevirtual 76, 3) := by decide +kernel
theorem d_Law_law_538 : decode code 538 = .ok (.if_icmp .eq 308, 3) := by decide +kernel
theorem d_Law_law_541 : decode code 541 = .ok (.iconst 0, 1) := by decide +kernel
theorem d_Law_law_542 : decode code 542 = .ok (.ireturn, 1) := by decide +kernel
theorem d_Law_law_543 : decode code 543 = .ok (.aload_n 1, 1) := by decide +kernel
theorem d_Law_law_544 : decode code 544 = .ok (.aload_n 0, 1) := by decide +kernel
theorem d_Law_law_545 : decode code 545 = .ok (.iload_n 3, 1) := by decide +kernel
theorem d_Law_law_546 : decode code 546 = .ok (.iconst 1, 1) := by decide +kernel
theorem d_Law_law_547 : decode code 547 = .ok (.iadd, 1) := by decide +kernel
theorem d_Law_law_548 : decode code 548 = .ok (.iaload, 1) := by decide +kernel
theorem d_Law_law_549 : decode code 549 = .ok (.aload_n 0, 1) := by decide +kernel
theorem d_Law_law_550 : decode code 550 = .ok (.iload_n 3, 1) := by decide +kernel
theorem d_Law_law_551 : decode code 551 = .ok (.iconst 2, 1) := by decide +kernel
theorem d_Law_law_552 : decode code 552 = .ok (.iadd, 1) := by decide +kernel
theorem d_Law_law_553 : decode code 553 = .ok (.iaload, 1) := by decide +kernel
theorem d_Law_law_554 : decode code 554 = .ok (.invokevirtual 77, 3) := by decide +kernel
theorem d_Law_law_557 : decode code 557 = .ok (.aload_n 2, 1) := by decide +kernel
theorem d_Law_law_558 : decode code 558 = .ok (.aload_n 0, 1) := by decide +kernel
theorem d_Law_law_559 : decode code 559 = .ok (.iload_n 3, 1) := by decide +kernel
theorem d_Law_law_560 : decode code 560 = .ok (.iconst 1, 1) := by decide +kernel
theorem d_Law_law_561 : decode code 561 = .ok (.iadd, 1) := by decide +kernel
theorem d_Law_law_562 : decode code 562 = .ok (.iaload, 1) := by decide +kernel
theorem d_Law_law_563 : decode code 563 = .ok (.aload_n 0, 1) := by decide +kernel
theorem d_Law_law_564 : decode code 564 = .ok (.iload_n 3, 1) := by decide +kernel
theorem d_Law_law_565 : decode code 565 = .ok (.iconst 2, 1) := by decide +kernel
theorem d_Law_law_566 : decode code 566 = .ok (.iadd, 1) := by decide +kernel
theorem d_Law_law_567 : decode code 567 = .ok (.iaload, 1) := by decide +kernel
theorem d_Law_law_568 : decode code 568 = .ok (.invokevirtual 80, 3) := by decide +kernel
theorem d_Law_law_571 : decode code 571 = .ok (.if_icmp .eq 275, 3) := by decide +kernel
theorem d_Law_law_574 : decode code 574 = .ok (.iconst 0, 1) := by decide +kernel
theorem d_Law_law_575 : decode code 575 = .ok (.ireturn, 1) := by decide +kernel
theorem d_Law_law_576 : decode code 576 = .ok (.aload_n 1, 1) := by decide +kernel
theorem d_Law_law_577 : decode code 577 = .ok (.invokevirtual 81, 3) := by decide +kernel
theorem d_Law_law_580 : decode code 580 = .ok (.aload_n 2, 1) := by decide +kernel
theorem d_Law_law_581 : decode code 581 = .ok (.invokevirtual 84, 3) := by decide +kernel
theorem d_Law_law_584 : decode code 584 = .ok (.if_icmp .eq 262, 3) := by decide +kernel
theorem d_Law_law_587 : decode code 587 = .ok (.iconst 0, 1) := by decide +kernel
theorem d_Law_law_588 : decode code 588 = .ok (.ireturn, 1) := by decide +kernel
theorem d_Law_law_589 : decode code 589 = .ok (.aload_n 1, 1) := by decide +kernel
theorem d_Law_law_590 : decode code 590 = .ok (.aload_n 0, 1) := by decide +kernel
theorem d_Law_law_591 : decode code 591 = .ok (.iload_n 3, 1) := by decide +kernel
theorem d_Law_law_592 : decode code 592 = .ok (.iconst 1, 1) := by decide +kernel
theorem d_Law_law_593 : decode code 593 = .ok (.iadd, 1) := by decide +kernel
theorem d_Law_law_594 : decode code 594 = .ok (.iaload, 1) := by decide +kernel
theorem d_Law_law_595 : decode code 595 = .ok (.invokevirtual 85, 3) := by decide +kernel
theorem d_Law_law_598 : decode code 598 = .ok (.aload_n 2, 1) := by decide +kernel
theorem d_Law_law_599 : decode code 599 = .ok (.aload_n 0, 1) := by decide +kernel
theorem d_Law_law_600 : decode code 600 = .ok (.iload_n 3, 1) := by decide +kernel
theorem d_Law_law_601 : decode code 601 = .ok (.iconst 1, 1) := by decide +kernel
theorem d_Law_law_602 : decode code 602 = .ok (.iadd, 1) := by decide +kernel
theorem d_Law_law_603 : decode code 603 = .ok (.iaload, 1) := by decide +kernel
theorem d_Law_law_604 : decode code 604 = .ok (.invokevirtual 88, 3) := by decide +kernel
theorem d_Law_law_607 : decode code 607 = .ok (.if_icmp .eq 239, 3) := by decide +kernel
theorem d_Law_law_610 : decode code 610 = .ok (.iconst 0, 1) := by decide +kernel
theorem d_Law_law_611 : decode code 611 = .ok (.ireturn, 1) := by decide +kernel
theorem d_Law_law_612 : decode code 612 = .ok (.aload_n 1, 1) := by decide +kernel
theorem d_Law_law_613 : decode code 613 = .ok (.aload_n 0, 1) := by decide +kernel
theorem d_Law_law_614 : decode code 614 = .ok (.iload_n 3, 1) := by decide +kernel
theorem d_Law_law_615 : decode code 615 = .ok (.iconst 1, 1) := by decide +kernel
theorem d_Law_law_616 : decode code 616 = .ok (.iadd, 1) := by decide +kernel
theorem d_Law_law_617 : decode code 617 = .ok (.iaload, 1) := by decide +kernel
theorem d_Law_law_618 : decode code 618 = .ok (.invokevirtual 89, 3) := by decide +kernel
theorem d_Law_law_621 : decode code 621 = .ok (.aload_n 2, 1) := by decide +kernel
theorem d_Law_law_622 : decode code 622 = .ok (.aload_n 0, 1) := by decide +kernel
theorem d_Law_law_623 : decode code 623 = .ok (.iload_n 3, 1) := by decide +kernel
theorem d_Law_law_624 : decode code 624 = .ok (.iconst 1, 1) := by decide +kernel
theorem d_Law_law_625 : decode code 625 = .ok (.iadd, 1) := by decide +kernel
theorem d_Law_law_626 : decode code 626 = .ok (.iaload, 1) := by decide +kernel
theorem d_Law_law_627 : decode code 627 = .ok (.invokevirtual 92, 3) := by decide +kernel
theorem d_Law_law_630 : decode code 630 = .ok (.if_icmp .eq 216, 3) := by decide +kernel
theorem d_Law_law_633 : decode code 633 = .ok (.iconst 0, 1) := by decide +kernel
theorem d_Law_law_634 : decode code 634 = .ok (.ireturn, 1) := by decide +kernel
theorem d_Law_law_635 : decode code 635 = .ok (.aload_n 1, 1) := by decide +kernel
theorem d_Law_law_636 : decode code 636 = .ok (.aload_n 0, 1) := by decide +kernel
theorem d_Law_law_637 : decode code 637 = .ok (.iload_n 3, 1) := by decide +kernel
theorem d_Law_law_638 : decode code 638 = .ok (.iconst 1, 1) := by decide +kernel
theorem d_Law_law_639 : decode code 639 = .ok (.iadd, 1) := by decide +kernel
theorem d_Law_law_640 : decode code 640 = .ok (.iaload, 1) := by decide +kernel
theorem d_Law_law_641 : decode code 641 = .ok (.invokevirtual 93, 3) := by decide +kernel
theorem d_Law_law_644 : decode code 644 = .ok (.aload_n 2, 1) := by decide +kernel
theorem d_Law_law_645 : decode code 645 = .ok (.aload_n 0, 1) := by decide +kernel
theorem d_Law_law_646 : decode code 646 = .ok (.iload_n 3, 1) := by decide +kernel
theorem d_Law_law_647 : decode code 647 = .ok (.iconst 1, 1) := by decide +kernel
theorem d_Law_law_648 : decode code 648 = .ok (.iadd, 1) := by decide +kernel
theorem d_Law_law_649 : decode code 649 = .ok (.iaload, 1) := by decide +kernel
theorem d_Law_law_650 : decode code 650 = .ok (.invokevirtual 96, 3) := by decide +kernel
theorem d_Law_law_653 : decode code 653 = .ok (.if_icmp .eq 193, 3) := by decide +kernel
theorem d_Law_law_656 : decode code 656 = .ok (.iconst 0, 1) := by decide +kernel
theorem d_Law_law_657 : decode code 657 = .ok (.ireturn, 1) := by decide +kernel
theorem d_Law_law_658 : decode code 658 = .ok (.aload_n 1, 1) := by decide +kernel
theorem d_Law_law_659 : decode code 659 = .ok (.aload_n 0, 1) := by decide +kernel
theorem d_Law_law_660 : decode code 660 = .ok (.iload_n 3, 1) := by decide +kernel
theorem d_Law_law_661 : decode code 661 = .ok (.iconst 1, 1) := by decide +kernel
theorem d_Law_law_662 : decode code 662 = .ok (.iadd, 1) := by decide +kernel
theorem d_Law_law_663 : decode code 663 = .ok (.iaload, 1) := by decide +kernel
theorem d_Law_law_664 : decode code 664 = .ok (.aload_n 0, 1) := by decide +kernel
theorem d_Law_law_665 : decode code 665 = .ok (.iload_n 3, 1) := by decide +kernel
theorem d_Law_law_666 : decode code 666 = .ok (.iconst 2, 1) := by decide +kernel
theorem d_Law_law_667 : decode code 667 = .ok (.iadd, 1) := by decide +kernel
theorem d_Law_law_668 : decode code 668 = .ok (.iaload, 1) := by decide +kernel
theorem d_Law_law_669 : decode code 669 = .ok (.aload_n 0, 1) := by decide +kernel
theorem d_Law_law_670 : decode code 670 = .ok (.iload_n 3, 1) := by decide +kernel
theorem d_Law_law_671 : decode code 671 = .ok (.iconst 3, 1) := by decide +kernel
theorem d_Law_law_672 : decode code 672 = .ok (.iadd, 1) := by decide +kernel
theorem d_Law_law_673 : decode code 673 = .ok (.iaload, 1) := by decide +kernel
theorem d_Law_law_674 : decode code 674 = .ok (.aload_n 0, 1) := by decide +kernel
theorem d_Law_law_675 : decode code 675 = .ok (.iload_n 3, 1) := by decide +kernel
theorem d_Law_law_676 : decode code 676 = .ok (.iconst 4, 1) := by decide +kernel
theorem d_Law_law_677 : decode code 677 = .ok (.iadd, 1) := by decide +kernel
theorem d_Law_law_678 : decode code 678 = .ok (.iaload, 1) := by decide +kernel
theorem d_Law_law_679 : decode code 679 = .ok (.aload_n 0, 1) := by decide +kernel
theorem d_Law_law_680 : decode code 680 = .ok (.iload_n 3, 1) := by decide +kernel
theorem d_Law_law_681 : decode code 681 = .ok (.iconst 5, 1) := by decide +kernel
theorem d_Law_law_682 : decode code 682 = .ok (.iadd, 1) := by decide +kernel
theorem d_Law_law_683 : decode code 683 = .ok (.iaload, 1) := by decide +kernel
theorem d_Law_law_684 : decode code 684 = .ok (.aload_n 0, 1) := by decide +kernel
theorem d_Law_law_685 : decode code 685 = .ok (.iload_n 3, 1) := by decide +kernel
theorem d_Law_law_686 : decode code 686 = .ok (.bipush 6, 2) := by decide +kernel
theorem d_Law_law_688 : decode code 688 = .ok (.iadd, 1) := by decide +kernel
theorem d_Law_law_689 : decode code 689 = .ok (.iaload, 1) := by decide +kernel
theorem d_Law_law_690 : decode code 690 = .ok (.invokevirtual 97, 3) := by decide +kernel
theorem d_Law_law_693 : decode code 693 = .ok (.aload_n 2, 1) := by decide +kernel
theorem d_Law_law_694 : decode code 694 = .ok (.aload_n 0, 1) := by decide +kernel
theorem d_Law_law_695 : decode code 695 = .ok (.iload_n 3, 1) := by decide +kernel
theorem d_Law_law_696 : decode code 696 = .ok (.iconst 1, 1) := by decide +kernel
theorem d_Law_law_697 : decode code 697 = .ok (.iadd, 1) := by decide +kernel
theorem d_Law_law_698 : decode code 698 = .ok (.iaload, 1) := by decide +kernel
theorem d_Law_law_699 : decode code 699 = .ok (.aload_n 0, 1) := by decide +kernel
theorem d_Law_law_700 : decode code 700 = .ok (.iload_n 3, 1) := by decide +kernel
theorem d_Law_law_701 : decode code 701 = .ok (.iconst 2, 1) := by decide +kernel
theorem d_Law_law_702 : decode code 702 = .ok (.iadd, 1) := by decide +kernel
theorem d_Law_law_703 : decode code 703 = .ok (.iaload, 1) := by decide +kernel
theorem d_Law_law_704 : decode code 704 = .ok (.aload_n 0, 1) := by decide +kernel
theorem d_Law_law_705 : decode code 705 = .ok (.iload_n 3, 1) := by decide +kernel
theorem d_Law_law_706 : decode code 706 = .ok (.iconst 3, 1) := by decide +kernel
theorem d_Law_law_707 : decode code 707 = .ok (.iadd, 1) := by decide +kernel
theorem d_Law_law_708 : decode code 708 = .ok (.iaload, 1) := by decide +kernel
theorem d_Law_law_709 : decode code 709 = .ok (.aload_n 0, 1) := by decide +kernel
theorem d_Law_law_710 : decode code 710 = .ok (.iload_n 3, 1) := by decide +kernel
theorem d_Law_law_711 : decode code 711 = .ok (.iconst 4, 1) := by decide +kernel
theorem d_Law_law_712 : decode code 712 = .ok (.iadd, 1) := by decide +kernel
theorem d_Law_law_713 : decode code 713 = .ok (.iaload, 1) := by decide +kernel
theorem d_Law_law_714 : decode code 714 = .ok (.aload_n 0, 1) := by decide +kernel
theorem d_Law_law_715 : decode code 715 = .ok (.iload_n 3, 1) := by decide +kernel
theorem d_Law_law_716 : decode code 716 = .ok (.iconst 5, 1) := by decide +kernel
theorem d_Law_law_717 : decode code 717 = .ok (.iadd, 1) := by decide +kernel
theorem d_Law_law_718 : decode code 718 = .ok (.iaload, 1) := by decide +kernel
theorem d_Law_law_719 : decode code 719 = .ok (.aload_n 0, 1) := by decide +kernel
theorem d_Law_law_720 : decode code 720 = .ok (.iload_n 3, 1) := by decide +kernel
theorem d_Law_law_721 : decode code 721 = .ok (.bipush 6, 2) := by decide +kernel
theorem d_Law_law_723 : decode code 723 = .ok (.iadd, 1) := by decide +kernel
theorem d_Law_law_724 : decode code 724 = .ok (.iaload, 1) := by decide +kernel
theorem d_Law_law_725 : decode code 725 = .ok (.invokevirtual 101, 3) := by decide +kernel
theorem d_Law_law_728 : decode code 728 = .ok (.lcmp, 1) := by decide +kernel
theorem d_Law_law_729 : decode code 729 = .ok (.ifCond .eq 117, 3) := by decide +kernel
theorem d_Law_law_732 : decode code 732 = .ok (.iconst 0, 1) := by decide +kernel
theorem d_Law_law_733 : decode code 733 = .ok (.ireturn, 1) := by decide +kernel
theorem d_Law_law_734 : decode code 734 = .ok (.aload_n 1, 1) := by decide +kernel
theorem d_Law_law_735 : decode code 735 = .ok (.aload_n 0, 1) := by decide +kernel
theorem d_Law_law_736 : decode code 736 = .ok (.iload_n 3, 1) := by decide +kernel
theorem d_Law_law_737 : decode code 737 = .ok (.iconst 1, 1) := by decide +kernel
theorem d_Law_law_738 : decode code 738 = .ok (.iadd, 1) := by decide +kernel
theorem d_Law_law_739 : decode code 739 = .ok (.iaload, 1) := by decide +kernel
theorem d_Law_law_740 : decode code 740 = .ok (.aload_n 0, 1) := by decide +kernel
theorem d_Law_law_741 : decode code 741 = .ok (.iload_n 3, 1) := by decide +kernel
theorem d_Law_law_742 : decode code 742 = .ok (.iconst 2, 1) := by decide +kernel
theorem d_Law_law_743 : decode code 743 = .ok (.iadd, 1) := by decide +kernel
theorem d_Law_law_744 : decode code 744 = .ok (.iaload, 1) := by decide +kernel
theorem d_Law_law_745 : decode code 745 = .ok (.aload_n 0, 1) := by decide +kernel
theorem d_Law_law_746 : decode code 746 = .ok (.iload_n 3, 1) := by decide +kernel
theorem d_Law_law_747 : decode code 747 = .ok (.iconst 3, 1) := by decide +kernel
theorem d_Law_law_748 : decode code 748 = .ok (.iadd, 1) := by decide +kernel
theorem d_Law_law_749 : decode code 749 = .ok (.iaload, 1) := by decide +kernel
theorem d_Law_law_750 : decode code 750 = .ok (.invokevirtual 102, 3) := by decide +kernel
theorem d_Law_law_753 : decode code 753 = .ok (.aload_n 2, 1) := by decide +kernel
theorem d_Law_law_754 : decode code 754 = .ok (.aload_n 0, 1) := by decide +kernel
theorem d_Law_law_755 : decode code 755 = .ok (.iload_n 3, 1) := by decide +kernel
theorem d_Law_law_756 : decode code 756 = .ok (.iconst 1, 1) := by decide +kernel
theorem d_Law_law_757 : decode code 757 = .ok (.iadd, 1) := by decide +kernel
theorem d_Law_law_758 : decode code 758 = .ok (.iaload, 1) := by decide +kernel
theorem d_Law_law_759 : decode code 759 = .ok (.aload_n 0, 1) := by decide +kernel
theorem d_Law_law_760 : decode code 760 = .ok (.iload_n 3, 1) := by decide +kernel
theorem d_Law_law_761 : decode code 761 = .ok (.iconst 2, 1) := by decide +kernel
theorem d_Law_law_762 : decode code 762 = .ok (.iadd, 1) := by decide +kernel
theorem d_Law_law_763 : decode code 763 = .ok (.iaload, 1) := by decide +kernel
theorem d_Law_law_764 : decode code 764 = .ok (.aload_n 0, 1) := by decide +kernel
theorem d_Law_law_765 : decode code 765 = .ok (.iload_n 3, 1) := by decide +kernel
theorem d_Law_law_766 : decode code 766 = .ok (.iconst 3, 1) := by decide +kernel
theorem d_Law_law_767 : decode code 767 = .ok (.iadd, 1) := by decide +kernel
theorem d_Law_law_768 : decode code 768 = .ok (.iaload, 1) := by decide +kernel
theorem d_Law_law_769 : decode code 769 = .ok (.invokevirtual 105, 3) := by decide +kernel
theorem d_Law_law_772 : decode code 772 = .ok (.if_icmp .eq 74, 3) := by decide +kernel
theorem d_Law_law_775 : decode code 775 = .ok (.iconst 0, 1) := by decide +kernel
theorem d_Law_law_776 : decode code 776 = .ok (.ireturn, 1) := by decide +kernel
theorem d_Law_law_777 : decode code 777 = .ok (.aload_n 1, 1) := by decide +kernel
theorem d_Law_law_778 : decode code 778 = .ok (.aload_n 0, 1) := by decide +kernel
theorem d_Law_law_779 : decode code 779 = .ok (.iload_n 3, 1) := by decide +kernel
theorem d_Law_law_780 : decode code 780 = .ok (.iconst 1, 1) := by decide +kernel
theorem d_Law_law_781 : decode code 781 = .ok (.iadd, 1) := by decide +kernel
theorem d_Law_law_782 : decode code 782 = .ok (.iaload, 1) := by decide +kernel
theorem d_Law_law_783 : decode code 783 = .ok (.invokevirtual 106, 3) := by decide +kernel
theorem d_Law_law_786 : decode code 786 = .ok (.aload_n 2, 1) := by decide +kernel
theorem d_Law_law_787 : decode code 787 = .ok (.aload_n 0, 1) := by decide +kernel
theorem d_Law_law_788 : decode code 788 = .ok (.iload_n 3, 1) := by decide +kernel
theorem d_Law_law_789 : decode code 789 = .ok (.iconst 1, 1) := by decide +kernel
theorem d_Law_law_790 : decode code 790 = .ok (.iadd, 1) := by decide +kernel
theorem d_Law_law_791 : decode code 791 = .ok (.iaload, 1) := by decide +kernel
theorem d_Law_law_792 : decode code 792 = .ok (.invokevirtual 109, 3) := by decide +kernel
theorem d_Law_law_795 : decode code 795 = .ok (.if_icmp .eq 51, 3) := by decide +kernel
theorem d_Law_law_798 : decode code 798 = .ok (.iconst 0, 1) := by decide +kernel
theorem d_Law_law_799 : decode code 799 = .ok (.ireturn, 1) := by decide +kernel
theorem d_Law_law_800 : decode code 800 = .ok (.aload_n 1, 1) := by decide +kernel
theorem d_Law_law_801 : decode code 801 = .ok (.aload_n 0, 1) := by decide +kernel
theorem d_Law_law_802 : decode code 802 = .ok (.iload_n 3, 1) := by decide +kernel
theorem d_Law_law_803 : decode code 803 = .ok (.iconst 1, 1) := by decide +kernel
theorem d_Law_law_804 : decode code 804 = .ok (.iadd, 1) := by decide +kernel
theorem d_Law_law_805 : decode code 805 = .ok (.iaload, 1) := by decide +kernel
theorem d_Law_law_806 : decode code 806 = .ok (.invokevirtual 110, 3) := by decide +kernel
theorem d_Law_law_809 : decode code 809 = .ok (.aload_n 2, 1) := by decide +kernel
theorem d_Law_law_810 : decode code 810 = .ok (.aload_n 0, 1) := by decide +kernel
theorem d_Law_law_811 : decode code 811 = .ok (.iload_n 3, 1) := by decide +kernel
theorem d_Law_law_812 : decode code 812 = .ok (.iconst 1, 1) := by decide +kernel
theorem d_Law_law_813 : decode code 813 = .ok (.iadd, 1) := by decide +kernel
theorem d_Law_law_814 : decode code 814 = .ok (.iaload, 1) := by decide +kernel
theorem d_Law_law_815 : decode code 815 = .ok (.invokevirtual 113, 3) := by decide +kernel
theorem d_Law_law_818 : decode code 818 = .ok (.if_icmp .eq 28, 3) := by decide +kernel
theorem d_Law_law_821 : decode code 821 = .ok (.iconst 0, 1) := by decide +kernel
theorem d_Law_law_822 : decode code 822 = .ok (.ireturn, 1) := by decide +kernel
theorem d_Law_law_823 : decode code 823 = .ok (.aload_n 1, 1) := by decide +kernel
theorem d_Law_law_824 : decode code 824 = .ok (.aload_n 0, 1) := by decide +kernel
theorem d_Law_law_825 : decode code 825 = .ok (.iload_n 3, 1) := by decide +kernel
theorem d_Law_law_826 : decode code 826 = .ok (.iconst 1, 1) := by decide +kernel
theorem d_Law_law_827 : decode code 827 = .ok (.iadd, 1) := by decide +kernel
theorem d_Law_law_828 : decode code 828 = .ok (.iaload, 1) := by decide +kernel
theorem d_Law_law_829 : decode code 829 = .ok (.invokevirtual 114, 3) := by decide +kernel
theorem d_Law_law_832 : decode code 832 = .ok (.aload_n 2, 1) := by decide +kernel
theorem d_Law_law_833 : decode code 833 = .ok (.aload_n 0, 1) := by decide +kernel
theorem d_Law_law_834 : decode code 834 = .ok (.iload_n 3, 1) := by decide +kernel
theorem d_Law_law_835 : decode code 835 = .ok (.iconst 1, 1) := by decide +kernel
theorem d_Law_law_836 : decode code 836 = .ok (.iadd, 1) := by decide +kernel
theorem d_Law_law_837 : decode code 837 = .ok (.iaload, 1) := by decide +kernel
theorem d_Law_law_838 : decode code 838 = .ok (.invokevirtual 117, 3) := by decide +kernel
theorem d_Law_law_841 : decode code 841 = .ok (.if_icmp .eq 5, 3) := by decide +kernel
theorem d_Law_law_844 : decode code 844 = .ok (.iconst 0, 1) := by decide +kernel
theorem d_Law_law_845 : decode code 845 = .ok (.ireturn, 1) := by decide +kernel
theorem d_Law_law_846 : decode code 846 = .ok (.iinc 3 7, 3) := by decide +kernel
theorem d_Law_law_849 : decode code 849 = .ok (.goto (-831), 3) := by decide +kernel
theorem d_Law_law_852 : decode code 852 = .ok (.iconst 1, 1) := by decide +kernel
theorem d_Law_law_853 : decode code 853 = .ok (.ireturn, 1) := by decide +kernel
