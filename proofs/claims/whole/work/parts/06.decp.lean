theorem d_Pool_init_0 : decode prog_4_method_1_code 0 = .ok (.aload_n 0, 1) := by decide +kernel
theorem d_Pool_init_1 : decode prog_4_method_1_code 1 = .ok (.invokespecial 3, 3) := by decide +kernel
theorem d_Pool_init_4 : decode prog_4_method_1_code 4 = .ok (.aload_n 0, 1) := by decide +kernel
theorem d_Pool_init_5 : decode prog_4_method_1_code 5 = .ok (.bipush 41, 2) := by decide +kernel
theorem d_Pool_init_7 : decode prog_4_method_1_code 7 = .ok (.anewarray 9, 3) := by decide +kernel
theorem d_Pool_init_10 : decode prog_4_method_1_code 10 = .ok (.putfield 11, 3) := by decide +kernel
theorem d_Pool_init_13 : decode prog_4_method_1_code 13 = .ok (.iconst 0, 1) := by decide +kernel
theorem d_Pool_init_14 : decode prog_4_method_1_code 14 = .ok (.istore_n 1, 1) := by decide +kernel
theorem d_Pool_init_15 : decode prog_4_method_1_code 15 = .ok (.iload_n 1, 1) := by decide +kernel
theorem d_Pool_init_16 : decode prog_4_method_1_code 16 = .ok (.bipush 41, 2) := by decide +kernel
theorem d_Pool_init_18 : decode prog_4_method_1_code 18 = .ok (.if_icmp .ge 22, 3) := by decide +kernel
theorem d_Pool_init_21 : decode prog_4_method_1_code 21 = .ok (.aload_n 0, 1) := by decide +kernel
theorem d_Pool_init_22 : decode prog_4_method_1_code 22 = .ok (.getfield 11, 3) := by decide +kernel
theorem d_Pool_init_25 : decode prog_4_method_1_code 25 = .ok (.iload_n 1, 1) := by decide +kernel
theorem d_Pool_init_26 : decode prog_4_method_1_code 26 = .ok (.new 9, 3) := by decide +kernel
theorem d_Pool_init_29 : decode prog_4_method_1_code 29 = .ok (.dup, 1) := by decide +kernel
theorem d_Pool_init_30 : decode prog_4_method_1_code 30 = .ok (.invokespecial 17, 3) := by decide +kernel
theorem d_Pool_init_33 : decode prog_4_method_1_code 33 = .ok (.aastore, 1) := by decide +kernel
theorem d_Pool_init_34 : decode prog_4_method_1_code 34 = .ok (.iinc 1 1, 3) := by decide +kernel
theorem d_Pool_init_37 : decode prog_4_method_1_code 37 = .ok (.goto (-22), 3) := by decide +kernel
theorem d_Pool_init_40 : decode prog_4_method_1_code 40 = .ok (.return_, 1) := by decide +kernel
theorem d_Pool_hindrance_0 : decode prog_4_method_5_code 0 = .ok (.aload_n 0, 1) := by decide +kernel
theorem d_Pool_hindrance_1 : decode prog_4_method_5_code 1 = .ok (.aload_n 1, 1) := by decide +kernel
theorem d_Pool_hindrance_2 : decode prog_4_method_5_code 2 = .ok (.invokevirtual 52, 3) := by decide +kernel
theorem d_Pool_hindrance_5 : decode prog_4_method_5_code 5 = .ok (.iconst (-1), 1) := by decide +kernel
theorem d_Pool_hindrance_6 : decode prog_4_method_5_code 6 = .ok (.if_icmp .eq 5, 3) := by decide +kernel
theorem d_Pool_hindrance_9 : decode prog_4_method_5_code 9 = .ok (.iconst 1, 1) := by decide +kernel
theorem d_Pool_hindrance_10 : decode prog_4_method_5_code 10 = .ok (.ireturn, 1) := by decide +kernel
theorem d_Pool_hindrance_11 : decode prog_4_method_5_code 11 = .ok (.aload_n 0, 1) := by decide +kernel
theorem d_Pool_hindrance_12 : decode prog_4_method_5_code 12 = .ok (.aload_n 2, 1) := by decide +kernel
theorem d_Pool_hindrance_13 : decode prog_4_method_5_code 13 = .ok (.invokevirtual 56, 3) := by decide +kernel
theorem d_Pool_hindrance_16 : decode prog_4_method_5_code 16 = .ok (.ifCond .eq 5, 3) := by decide +kernel
theorem d_Pool_hindrance_19 : decode prog_4_method_5_code 19 = .ok (.iconst 2, 1) := by decide +kernel
theorem d_Pool_hindrance_20 : decode prog_4_method_5_code 20 = .ok (.ireturn, 1) := by decide +kernel
theorem d_Pool_hindrance_21 : decode prog_4_method_5_code 21 = .ok (.aload_n 0, 1) := by decide +kernel
theorem d_Pool_hindrance_22 : decode prog_4_method_5_code 22 = .ok (.aload_n 1, 1) := by decide +kernel
theorem d_Pool_hindrance_23 : decode prog_4_method_5_code 23 = .ok (.aload_n 2, 1) := by decide +kernel
theorem d_Pool_hindrance_24 : decode prog_4_method_5_code 24 = .ok (.iload_n 3, 1) := by decide +kernel
theorem d_Pool_hindrance_25 : decode prog_4_method_5_code 25 = .ok (.invokevirtual 60, 3) := by decide +kernel
theorem d_Pool_hindrance_28 : decode prog_4_method_5_code 28 = .ok (.ifCond .eq 5, 3) := by decide +kernel
theorem d_Pool_hindrance_31 : decode prog_4_method_5_code 31 = .ok (.iconst 3, 1) := by decide +kernel
theorem d_Pool_hindrance_32 : decode prog_4_method_5_code 32 = .ok (.ireturn, 1) := by decide +kernel
theorem d_Pool_hindrance_33 : decode prog_4_method_5_code 33 = .ok (.aload_n 0, 1) := by decide +kernel
theorem d_Pool_hindrance_34 : decode prog_4_method_5_code 34 = .ok (.aload_n 1, 1) := by decide +kernel
theorem d_Pool_hindrance_35 : decode prog_4_method_5_code 35 = .ok (.aload_n 2, 1) := by decide +kernel
theorem d_Pool_hindrance_36 : decode prog_4_method_5_code 36 = .ok (.invokevirtual 64, 3) := by decide +kernel
theorem d_Pool_hindrance_39 : decode prog_4_method_5_code 39 = .ok (.ifCond .eq 7, 3) := by decide +kernel
theorem d_Pool_hindrance_42 : decode prog_4_method_5_code 42 = .ok (.iconst 4, 1) := by decide +kernel
theorem d_Pool_hindrance_43 : decode prog_4_method_5_code 43 = .ok (.goto 4, 3) := by decide +kernel
theorem d_Pool_hindrance_46 : decode prog_4_method_5_code 46 = .ok (.iconst 0, 1) := by decide +kernel
theorem d_Pool_hindrance_47 : decode prog_4_method_5_code 47 = .ok (.ireturn, 1) := by decide +kernel
theorem d_Pool_find_0 : decode prog_4_method_2_code 0 = .ok (.iconst 0, 1) := by decide +kernel
theorem d_Pool_find_1 : decode prog_4_method_2_code 1 = .ok (.istore_n 2, 1) := by decide +kernel
theorem d_Pool_find_2 : decode prog_4_method_2_code 2 = .ok (.iload_n 2, 1) := by decide +kernel
theorem d_Pool_find_3 : decode prog_4_method_2_code 3 = .ok (.bipush 41, 2) := by decide +kernel
theorem d_Pool_find_5 : decode prog_4_method_2_code 5 = .ok (.if_icmp .ge 38, 3) := by decide +kernel
theorem d_Pool_find_8 : decode prog_4_method_2_code 8 = .ok (.aload_n 0, 1) := by decide +kernel
theorem d_Pool_find_9 : decode prog_4_method_2_code 9 = .ok (.getfield 18, 3) := by decide +kernel
theorem d_Pool_find_12 : decode prog_4_method_2_code 12 = .ok (.iload_n 2, 1) := by decide +kernel
theorem d_Pool_find_13 : decode prog_4_method_2_code 13 = .ok (.invokestatic 22, 3) := by decide +kernel
theorem d_Pool_find_16 : decode prog_4_method_2_code 16 = .ok (.ifCond .eq 21, 3) := by decide +kernel
theorem d_Pool_find_19 : decode prog_4_method_2_code 19 = .ok (.aload_n 0, 1) := by decide +kernel
theorem d_Pool_find_20 : decode prog_4_method_2_code 20 = .ok (.getfield 11, 3) := by decide +kernel
theorem d_Pool_find_23 : decode prog_4_method_2_code 23 = .ok (.iload_n 2, 1) := by decide +kernel
theorem d_Pool_find_24 : decode prog_4_method_2_code 24 = .ok (.aaload, 1) := by decide +kernel
theorem d_Pool_find_25 : decode prog_4_method_2_code 25 = .ok (.getfield 26, 3) := by decide +kernel
theorem d_Pool_find_28 : decode prog_4_method_2_code 28 = .ok (.aload_n 1, 1) := by decide +kernel
theorem d_Pool_find_29 : decode prog_4_method_2_code 29 = .ok (.invokevirtual 30, 3) := by decide +kernel
theorem d_Pool_find_32 : decode prog_4_method_2_code 32 = .ok (.ifCond .eq 5, 3) := by decide +kernel
theorem d_Pool_find_35 : decode prog_4_method_2_code 35 = .ok (.iload_n 2, 1) := by decide +kernel
theorem d_Pool_find_36 : decode prog_4_method_2_code 36 = .ok (.ireturn, 1) := by decide +kernel
theorem d_Pool_find_37 : decode prog_4_method_2_code 37 = .ok (.iinc 2 1, 3) := by decide +kernel
theorem d_Pool_find_40 : decode prog_4_method_2_code 40 = .ok (.goto (-38), 3) := by decide +kernel
theorem d_Pool_find_43 : decode prog_4_method_2_code 43 = .ok (.iconst (-1), 1) := by decide +kernel
theorem d_Pool_find_44 : decode prog_4_method_2_code 44 = .ok (.ireturn, 1) := by decide +kernel
theorem d_Pool_isSpent_0 : decode prog_4_method_6_code 0 = .ok (.iconst 0, 1) := by decide +kernel
theorem d_Pool_isSpent_1 : decode prog_4_method_6_code 1 = .ok (.istore_n 2, 1) := by decide +kernel
theorem d_Pool_isSpent_2 : decode prog_4_method_6_code 2 = .ok (.iload_n 2, 1) := by decide +kernel
theorem d_Pool_isSpent_3 : decode prog_4_method_6_code 3 = .ok (.bipush 41, 2) := by decide +kernel
theorem d_Pool_isSpent_5 : decode prog_4_method_6_code 5 = .ok (.if_icmp .ge 38, 3) := by decide +kernel
theorem d_Pool_isSpent_8 : decode prog_4_method_6_code 8 = .ok (.aload_n 0, 1) := by decide +kernel
theorem d_Pool_isSpent_9 : decode prog_4_method_6_code 9 = .ok (.getfield 18, 3) := by decide +kernel
theorem d_Pool_isSpent_12 : decode prog_4_method_6_code 12 = .ok (.iload_n 2, 1) := by decide +kernel
theorem d_Pool_isSpent_13 : decode prog_4_method_6_code 13 = .ok (.invokestatic 22, 3) := by decide +kernel
theorem d_Pool_isSpent_16 : decode prog_4_method_6_code 16 = .ok (.ifCond .eq 21, 3) := by decide +kernel
theorem d_Pool_isSpent_19 : decode prog_4_method_6_code 19 = .ok (.aload_n 0, 1) := by decide +kernel
theorem d_Pool_isSpent_20 : decode prog_4_method_6_code 20 = .ok (.getfield 11, 3) := by decide +kernel
theorem d_Pool_isSpent_23 : decode prog_4_method_6_code 23 = .ok (.iload_n 2, 1) := by decide +kernel
theorem d_Pool_isSpent_24 : decode prog_4_method_6_code 24 = .ok (.aaload, 1) := by decide +kernel
theorem d_Pool_isSpent_25 : decode prog_4_method_6_code 25 = .ok (.getfield 36, 3) := by decide +kernel
theorem d_Pool_isSpent_28 : decode prog_4_method_6_code 28 = .ok (.aload_n 1, 1) := by decide +kernel
theorem d_Pool_isSpent_29 : decode prog_4_method_6_code 29 = .ok (.invokevirtual 68, 3) := by decide +kernel
theorem d_Pool_isSpent_32 : decode prog_4_method_6_code 32 = .ok (.ifCond .eq 5, 3) := by decide +kernel
theorem d_Pool_isSpent_35 : decode prog_4_method_6_code 35 = .ok (.iconst 1, 1) := by decide +kernel
theorem d_Pool_isSpent_36 : decode prog_4_method_6_code 36 = .ok (.ireturn, 1) := by decide +kernel
theorem d_Pool_isSpent_37 : decode prog_4_method_6_code 37 = .ok (.iinc 2 1, 3) := by decide +kernel
theorem d_Pool_isSpent_40 : decode prog_4_method_6_code 40 = .ok (.goto (-38), 3) := by decide +kernel
theorem d_Pool_isSpent_43 : decode prog_4_method_6_code 43 = .ok (.iconst 0, 1) := by decide +kernel
theorem d_Pool_isSpent_44 : decode prog_4_method_6_code 44 = .ok (.ireturn, 1) := by decide +kernel
theorem d_Pool_missesOutput_0 : decode prog_4_method_7_code 0 = .ok (.iconst 0, 1) := by decide +kernel
theorem d_Pool_missesOutput_1 : decode prog_4_method_7_code 1 = .ok (.istore 4, 2) := by decide +kernel
theorem d_Pool_missesOutput_3 : decode prog_4_method_7_code 3 = .ok (.iload 4, 2) := by decide +kernel
theorem d_Pool_missesOutput_5 : decode prog_4_method_7_code 5 = .ok (.bipush 41, 2) := by decide +kernel
theorem d_Pool_missesOutput_7 : decode prog_4_method_7_code 7 = .ok (.if_icmp .ge 62, 3) := by decide +kernel
theorem d_Pool_missesOutput_10 : decode prog_4_method_7_code 10 = .ok (.aload_n 0, 1) := by decide +kernel
theorem d_Pool_missesOutput_11 : decode prog_4_method_7_code 11 = .ok (.getfield 18, 3) := by decide +kernel
theorem d_Pool_missesOutput_14 : decode prog_4_method_7_code 14 = .ok (.iload 4, 2) := by decide +kernel
theorem d_Pool_missesOutput_16 : decode prog_4_method_7_code 16 = .ok (.invokestatic 22, 3) := by decide +kernel
theorem d_Pool_missesOutput_19 : decode prog_4_method_7_code 19 = .ok (.ifCond .eq 44, 3) := by decide +kernel
theorem d_Pool_missesOutput_22 : decode prog_4_method_7_code 22 = .ok (.aload_n 0, 1) := by decide +kernel
theorem d_Pool_missesOutput_23 : decode prog_4_method_7_code 23 = .ok (.getfield 11, 3) := by decide +kernel
theorem d_Pool_missesOutput_26 : decode prog_4_method_7_code 26 = .ok (.iload 4, 2) := by decide +kernel
theorem d_Pool_missesOutput_28 : decode prog_4_method_7_code 28 = .ok (.aaload, 1) := by decide +kernel
theorem d_Pool_missesOutput_29 : decode prog_4_method_7_code 29 = .ok (.astore 5, 2) := by decide +kernel
theorem d_Pool_missesOutput_31 : decode prog_4_method_7_code 31 = .ok (.aload_n 2, 1) := by decide +kernel
theorem d_Pool_missesOutput_32 : decode prog_4_method_7_code 32 = .ok (.aload 5, 2) := by decide +kernel
theorem d_Pool_missesOutput_34 : decode prog_4_method_7_code 34 = .ok (.getfield 26, 3) := by decide +kernel
theorem d_Pool_missesOutput_37 : decode prog_4_method_7_code 37 = .ok (.aload 5, 2) := by decide +kernel
theorem d_Pool_missesOutput_39 : decode prog_4_method_7_code 39 = .ok (.getfield 71, 3) := by decide +kernel
theorem d_Pool_missesOutput_42 : decode prog_4_method_7_code 42 = .ok (.invokevirtual 75, 3) := by decide +kernel
theorem d_Pool_missesOutput_45 : decode prog_4_method_7_code 45 = .ok (.ifCond .ne 16, 3) := by decide +kernel
theorem d_Pool_missesOutput_48 : decode prog_4_method_7_code 48 = .ok (.aload 5, 2) := by decide +kernel
theorem d_Pool_missesOutput_50 : decode prog_4_method_7_code 50 = .ok (.getfield 36, 3) := by decide +kernel
theorem d_Pool_missesOutput_53 : decode prog_4_method_7_code 53 = .ok (.aload_n 1, 1) := by decide +kernel
theorem d_Pool_missesOutput_54 : decode prog_4_method_7_code 54 = .ok (.iload_n 3, 1) := by decide +kernel
theorem d_Pool_missesOutput_55 : decode prog_4_method_7_code 55 = .ok (.invokevirtual 75, 3) := by decide +kernel
theorem d_Pool_missesOutput_58 : decode prog_4_method_7_code 58 = .ok (.ifCond .eq 5, 3) := by decide +kernel
theorem d_Pool_missesOutput_61 : decode prog_4_method_7_code 61 = .ok (.iconst 1, 1) := by decide +kernel
theorem d_Pool_missesOutput_62 : decode prog_4_method_7_code 62 = .ok (.ireturn, 1) := by decide +kernel
theorem d_Pool_missesOutput_63 : decode prog_4_method_7_code 63 = .ok (.iinc 4 1, 3) := by decide +kernel
theorem d_Pool_missesOutput_66 : decode prog_4_method_7_code 66 = .ok (.goto (-63), 3) := by decide +kernel
theorem d_Pool_missesOutput_69 : decode prog_4_method_7_code 69 = .ok (.iconst 0, 1) := by decide +kernel
theorem d_Pool_missesOutput_70 : decode prog_4_method_7_code 70 = .ok (.ireturn, 1) := by decide +kernel
theorem d_Pool_hangsOnItself_0 : decode prog_4_method_8_code 0 = .ok (.aload_n 2, 1) := by decide +kernel
theorem d_Pool_hangsOnItself_1 : decode prog_4_method_8_code 1 = .ok (.aload_n 1, 1) := by decide +kernel
theorem d_Pool_hangsOnItself_2 : decode prog_4_method_8_code 2 = .ok (.invokevirtual 78, 3) := by decide +kernel
theorem d_Pool_hangsOnItself_5 : decode prog_4_method_8_code 5 = .ok (.ifCond .ne 23, 3) := by decide +kernel
theorem d_Pool_hangsOnItself_8 : decode prog_4_method_8_code 8 = .ok (.aload_n 0, 1) := by decide +kernel
theorem d_Pool_hangsOnItself_9 : decode prog_4_method_8_code 9 = .ok (.aload_n 0, 1) := by decide +kernel
theorem d_Pool_hangsOnItself_10 : decode prog_4_method_8_code 10 = .ok (.aload_n 1, 1) := by decide +kernel
theorem d_Pool_hangsOnItself_11 : decode prog_4_method_8_code 11 = .ok (.invokevirtual 81, 3) := by decide +kernel
theorem d_Pool_hangsOnItself_14 : decode prog_4_method_8_code 14 = .ok (.invokevirtual 85, 3) := by decide +kernel
theorem d_Pool_hangsOnItself_17 : decode prog_4_method_8_code 17 = .ok (.aload_n 0, 1) := by decide +kernel
theorem d_Pool_hangsOnItself_18 : decode prog_4_method_8_code 18 = .ok (.aload_n 2, 1) := by decide +kernel
theorem d_Pool_hangsOnItself_19 : decode prog_4_method_8_code 19 = .ok (.invokevirtual 89, 3) := by decide +kernel
theorem d_Pool_hangsOnItself_22 : decode prog_4_method_8_code 22 = .ok (.land, 1) := by decide +kernel
theorem d_Pool_hangsOnItself_23 : decode prog_4_method_8_code 23 = .ok (.lconst 0, 1) := by decide +kernel
theorem d_Pool_hangsOnItself_24 : decode prog_4_method_8_code 24 = .ok (.lcmp, 1) := by decide +kernel
theorem d_Pool_hangsOnItself_25 : decode prog_4_method_8_code 25 = .ok (.ifCond .eq 7, 3) := by decide +kernel
theorem d_Pool_hangsOnItself_28 : decode prog_4_method_8_code 28 = .ok (.iconst 1, 1) := by decide +kernel
theorem d_Pool_hangsOnItself_29 : decode prog_4_method_8_code 29 = .ok (.goto 4, 3) := by decide +kernel
theorem d_Pool_hangsOnItself_32 : decode prog_4_method_8_code 32 = .ok (.iconst 0, 1) := by decide +kernel
theorem d_Pool_hangsOnItself_33 : decode prog_4_method_8_code 33 = .ok (.ireturn, 1) := by decide +kernel
theorem d_Pool_spendersOf_0 : decode prog_4_method_9_code 0 = .ok (.lconst 0, 1) := by decide +kernel
theorem d_Pool_spendersOf_1 : decode prog_4_method_9_code 1 = .ok (.lstore_n 2, 1) := by decide +kernel
theorem d_Pool_spendersOf_2 : decode prog_4_method_9_code 2 = .ok (.iconst 0, 1) := by decide +kernel
theorem d_Pool_spendersOf_3 : decode prog_4_method_9_code 3 = .ok (.istore 4, 2) := by decide +kernel
theorem d_Pool_spendersOf_5 : decode prog_4_method_9_code 5 = .ok (.iload 4, 2) := by decide +kernel
theorem d_Pool_spendersOf_7 : decode prog_4_method_9_code 7 = .ok (.bipush 41, 2) := by decide +kernel
theorem d_Pool_spendersOf_9 : decode prog_4_method_9_code 9 = .ok (.if_icmp .ge 46, 3) := by decide +kernel
theorem d_Pool_spendersOf_12 : decode prog_4_method_9_code 12 = .ok (.aload_n 0, 1) := by decide +kernel
theorem d_Pool_spendersOf_13 : decode prog_4_method_9_code 13 = .ok (.getfield 18, 3) := by decide +kernel
theorem d_Pool_spendersOf_16 : decode prog_4_method_9_code 16 = .ok (.iload 4, 2) := by decide +kernel
theorem d_Pool_spendersOf_18 : decode prog_4_method_9_code 18 = .ok (.invokestatic 22, 3) := by decide +kernel
theorem d_Pool_spendersOf_21 : decode prog_4_method_9_code 21 = .ok (.ifCond .eq 28, 3) := by decide +kernel
theorem d_Pool_spendersOf_24 : decode prog_4_method_9_code 24 = .ok (.aload_n 0, 1) := by decide +kernel
theorem d_Pool_spendersOf_25 : decode prog_4_method_9_code 25 = .ok (.getfield 11, 3) := by decide +kernel
theorem d_Pool_spendersOf_28 : decode prog_4_method_9_code 28 = .ok (.iload 4, 2) := by decide +kernel
theorem d_Pool_spendersOf_30 : decode prog_4_method_9_code 30 = .ok (.aaload, 1) := by decide +kernel
theorem d_Pool_spendersOf_31 : decode prog_4_method_9_code 31 = .ok (.getfield 36, 3) := by decide +kernel
theorem d_Pool_spendersOf_34 : decode prog_4_method_9_code 34 = .ok (.aload_n 1, 1) := by decide +kernel
theorem d_Pool_spendersOf_35 : decode prog_4_method_9_code 35 = .ok (.invokevirtual 78, 3) := by decide +kernel
theorem d_Pool_spendersOf_38 : decode prog_4_method_9_code 38 = .ok (.ifCond .eq 11, 3) := by decide +kernel
theorem d_Pool_spendersOf_41 : decode prog_4_method_9_code 41 = .ok (.lload_n 2, 1) := by decide +kernel
theorem d_Pool_spendersOf_42 : decode prog_4_method_9_code 42 = .ok (.iload 4, 2) := by decide +kernel
theorem d_Pool_spendersOf_44 : decode prog_4_method_9_code 44 = .ok (.invokestatic 93, 3) := by decide +kernel
theorem d_Pool_spendersOf_47 : decode prog_4_method_9_code 47 = .ok (.lor, 1) := by decide +kernel
theorem d_Pool_spendersOf_48 : decode prog_4_method_9_code 48 = .ok (.lstore_n 2, 1) := by decide +kernel
theorem d_Pool_spendersOf_49 : decode prog_4_method_9_code 49 = .ok (.iinc 4 1, 3) := by decide +kernel
theorem d_Pool_spendersOf_52 : decode prog_4_method_9_code 52 = .ok (.goto (-47), 3) := by decide +kernel
theorem d_Pool_spendersOf_55 : decode prog_4_method_9_code 55 = .ok (.lload_n 2, 1) := by decide +kernel
theorem d_Pool_spendersOf_56 : decode prog_4_method_9_code 56 = .ok (.lreturn, 1) := by decide +kernel
theorem d_Pool_family_0 : decode prog_4_method_13_code 0 = .ok (.lload_n 1, 1) := by decide +kernel
theorem d_Pool_family_1 : decode prog_4_method_13_code 1 = .ok (.lstore_n 3, 1) := by decide +kernel
theorem d_Pool_family_2 : decode prog_4_method_13_code 2 = .ok (.lload_n 1, 1) := by decide +kernel
theorem d_Pool_family_3 : decode prog_4_method_13_code 3 = .ok (.lstore 5, 2) := by decide +kernel
theorem d_Pool_family_5 : decode prog_4_method_13_code 5 = .ok (.iconst 0, 1) := by decide +kernel
theorem d_Pool_family_6 : decode prog_4_method_13_code 6 = .ok (.istore 7, 2) := by decide +kernel
theorem d_Pool_family_8 : decode prog_4_method_13_code 8 = .ok (.iload 7, 2) := by decide +kernel
theorem d_Pool_family_10 : decode prog_4_method_13_code 10 = .ok (.bipush 41, 2) := by decide +kernel
theorem d_Pool_family_12 : decode prog_4_method_13_code 12 = .ok (.if_icmp .ge 66, 3) := by decide +kernel
theorem d_Pool_family_15 : decode prog_4_method_13_code 15 = .ok (.lload 5, 2) := by decide +kernel
theorem d_Pool_family_17 : decode prog_4_method_13_code 17 = .ok (.invokestatic 48, 3) := by decide +kernel
theorem d_Pool_family_20 : decode prog_4_method_13_code 20 = .ok (.istore 8, 2) := by decide +kernel
theorem d_Pool_family_22 : decode prog_4_method_13_code 22 = .ok (.iload 8, 2) := by decide +kernel
theorem d_Pool_family_24 : decode prog_4_method_13_code 24 = .ok (.bipush 41, 2) := by decide +kernel
theorem d_Pool_family_26 : decode prog_4_method_13_code 26 = .ok (.if_icmp .lt 6, 3) := by decide +kernel
theorem d_Pool_family_29 : decode prog_4_method_13_code 29 = .ok (.goto 49, 3) := by decide +kernel
theorem d_Pool_family_32 : decode prog_4_method_13_code 32 = .ok (.aload_n 0, 1) := by decide +kernel
theorem d_Pool_family_33 : decode prog_4_method_13_code 33 = .ok (.getfield 11, 3) := by decide +kernel
theorem d_Pool_family_36 : decode prog_4_method_13_code 36 = .ok (.iload 8, 2) := by decide +kernel
theorem d_Pool_family_38 : decode prog_4_method_13_code 38 = .ok (.aaload, 1) := by decide +kernel
theorem d_Pool_family_39 : decode prog_4_method_13_code 39 = .ok (.getfield 120, 3) := by decide +kernel
theorem d_Pool_family_42 : decode prog_4_method_13_code 42 = .ok (.lload_n 3, 1) := by decide +kernel
theorem d_Pool_family_43 : decode prog_4_method_13_code 43 = .ok (.ldc2_w 46, 3) := by decide +kernel
theorem d_Pool_family_46 : decode prog_4_method_13_code 46 = .ok (.lxor, 1) := by decide +kernel
theorem d_Pool_family_47 : decode prog_4_method_13_code 47 = .ok (.land, 1) := by decide +kernel
theorem d_Pool_family_48 : decode prog_4_method_13_code 48 = .ok (.lstore 9, 2) := by decide +kernel
theorem d_Pool_family_50 : decode prog_4_method_13_code 50 = .ok (.lload_n 3, 1) := by decide +kernel
theorem d_Pool_family_51 : decode prog_4_method_13_code 51 = .ok (.lload 9, 2) := by decide +kernel
theorem d_Pool_family_53 : decode prog_4_method_13_code 53 = .ok (.lor, 1) := by decide +kernel
theorem d_Pool_family_54 : decode prog_4_method_13_code 54 = .ok (.lstore_n 3, 1) := by decide +kernel
theorem d_Pool_family_55 : decode prog_4_method_13_code 55 = .ok (.lload 5, 2) := by decide +kernel
theorem d_Pool_family_57 : decode prog_4_method_13_code 57 = .ok (.iload 8, 2) := by decide +kernel
theorem d_Pool_family_59 : decode prog_4_method_13_code 59 = .ok (.invokestatic 93, 3) := by decide +kernel
theorem d_Pool_family_62 : decode prog_4_method_13_code 62 = .ok (.ldc2_w 46, 3) := by decide +kernel
theorem d_Pool_family_65 : decode prog_4_method_13_code 65 = .ok (.lxor, 1) := by decide +kernel
theorem d_Pool_family_66 : decode prog_4_method_13_code 66 = .ok (.land, 1) := by decide +kernel
theorem d_Pool_family_67 : decode prog_4_method_13_code 67 = .ok (.lload 9, 2) := by decide +kernel
theorem d_Pool_family_69 : decode prog_4_method_13_code 69 = .ok (.lor, 1) := by decide +kernel
theorem d_Pool_family_70 : decode prog_4_method_13_code 70 = .ok (.lstore 5, 2) := by decide +kernel
theorem d_Pool_family_72 : decode prog_4_method_13_code 72 = .ok (.iinc 7 1, 3) := by decide +kernel
theorem d_Pool_family_75 : decode prog_4_method_13_code 75 = .ok (.goto (-67), 3) := by decide +kernel
theorem d_Pool_family_78 : decode prog_4_method_13_code 78 = .ok (.lload_n 3, 1) := by decide +kernel
theorem d_Pool_family_79 : decode prog_4_method_13_code 79 = .ok (.lreturn, 1) := by decide +kernel
theorem d_Pool_named_0 : decode prog_4_method_10_code 0 = .ok (.lconst 0, 1) := by decide +kernel
theorem d_Pool_named_1 : decode prog_4_method_10_code 1 = .ok (.lstore_n 2, 1) := by decide +kernel
theorem d_Pool_named_2 : decode prog_4_method_10_code 2 = .ok (.iconst 0, 1) := by decide +kernel
theorem d_Pool_named_3 : decode prog_4_method_10_code 3 = .ok (.istore 4, 2) := by decide +kernel
theorem d_Pool_named_5 : decode prog_4_method_10_code 5 = .ok (.iload 4, 2) := by decide +kernel
theorem d_Pool_named_7 : decode prog_4_method_10_code 7 = .ok (.bipush 41, 2) := by decide +kernel
theorem d_Pool_named_9 : decode prog_4_method_10_code 9 = .ok (.if_icmp .ge 46, 3) := by decide +kernel
theorem d_Pool_named_12 : decode prog_4_method_10_code 12 = .ok (.aload_n 0, 1) := by decide +kernel
theorem d_Pool_named_13 : decode prog_4_method_10_code 13 = .ok (.getfield 18, 3) := by decide +kernel
theorem d_Pool_named_16 : decode prog_4_method_10_code 16 = .ok (.iload 4, 2) := by decide +kernel
theorem d_Pool_named_18 : decode prog_4_method_10_code 18 = .ok (.invokestatic 22, 3) := by decide +kernel
theorem d_Pool_named_21 : decode prog_4_method_10_code 21 = .ok (.ifCond .eq 28, 3) := by decide +kernel
theorem d_Pool_named_24 : decode prog_4_method_10_code 24 = .ok (.aload_n 1, 1) := by decide +kernel
theorem d_Pool_named_25 : decode prog_4_method_10_code 25 = .ok (.aload_n 0, 1) := by decide +kernel
theorem d_Pool_named_26 : decode prog_4_method_10_code 26 = .ok (.getfield 11, 3) := by decide +kernel
theorem d_Pool_named_29 : decode prog_4_method_10_code 29 = .ok (.iload 4, 2) := by decide +kernel
theorem d_Pool_named_31 : decode prog_4_method_10_code 31 = .ok (.aaload, 1) := by decide +kernel
theorem d_Pool_named_32 : decode prog_4_method_10_code 32 = .ok (.getfield 26, 3) := by decide +kernel
theorem d_Pool_named_35 : decode prog_4_method_10_code 35 = .ok (.invokevirtual 78, 3) := by decide +kernel
theorem d_Pool_named_38 : decode prog_4_method_10_code 38 = .ok (.ifCond .eq 11, 3) := by decide +kernel
theorem d_Pool_named_41 : decode prog_4_method_10_code 41 = .ok (.lload_n 2, 1) := by decide +kernel
theorem d_Pool_named_42 : decode prog_4_method_10_code 42 = .ok (.iload 4, 2) := by decide +kernel
theorem d_Pool_named_44 : decode prog_4_method_10_code 44 = .ok (.invokestatic 93, 3) := by decide +kernel
theorem d_Pool_named_47 : decode prog_4_method_10_code 47 = .ok (.lor, 1) := by decide +kernel
theorem d_Pool_named_48 : decode prog_4_method_10_code 48 = .ok (.lstore_n 2, 1) := by decide +kernel
theorem d_Pool_named_49 : decode prog_4_method_10_code 49 = .ok (.iinc 4 1, 3) := by decide +kernel
theorem d_Pool_named_52 : decode prog_4_method_10_code 52 = .ok (.goto (-47), 3) := by decide +kernel
theorem d_Pool_named_55 : decode prog_4_method_10_code 55 = .ok (.lload_n 2, 1) := by decide +kernel
theorem d_Pool_named_56 : decode prog_4_method_10_code 56 = .ok (.lreturn, 1) := by decide +kernel
theorem d_Pool_freePlace_0 : decode prog_4_method_4_code 0 = .ok (.aload_n 0, 1) := by decide +kernel
theorem d_Pool_freePlace_1 : decode prog_4_method_4_code 1 = .ok (.getfield 18, 3) := by decide +kernel
theorem d_Pool_freePlace_4 : decode prog_4_method_4_code 4 = .ok (.ldc2_w 46, 3) := by decide +kernel
theorem d_Pool_freePlace_7 : decode prog_4_method_4_code 7 = .ok (.lxor, 1) := by decide +kernel
theorem d_Pool_freePlace_8 : decode prog_4_method_4_code 8 = .ok (.invokestatic 48, 3) := by decide +kernel
theorem d_Pool_freePlace_11 : decode prog_4_method_4_code 11 = .ok (.istore_n 1, 1) := by decide +kernel
theorem d_Pool_freePlace_12 : decode prog_4_method_4_code 12 = .ok (.iload_n 1, 1) := by decide +kernel
theorem d_Pool_freePlace_13 : decode prog_4_method_4_code 13 = .ok (.bipush 41, 2) := by decide +kernel
theorem d_Pool_freePlace_15 : decode prog_4_method_4_code 15 = .ok (.if_icmp .ge 7, 3) := by decide +kernel
theorem d_Pool_freePlace_18 : decode prog_4_method_4_code 18 = .ok (.iload_n 1, 1) := by decide +kernel
theorem d_Pool_freePlace_19 : decode prog_4_method_4_code 19 = .ok (.goto 4, 3) := by decide +kernel
theorem d_Pool_freePlace_22 : decode prog_4_method_4_code 22 = .ok (.iconst (-1), 1) := by decide +kernel
theorem d_Pool_freePlace_23 : decode prog_4_method_4_code 23 = .ok (.ireturn, 1) := by decide +kernel
theorem d_Pool_settle_0 : decode prog_4_method_11_code 0 = .ok (.aload_n 0, 1) := by decide +kernel
theorem d_Pool_settle_1 : decode prog_4_method_11_code 1 = .ok (.getfield 11, 3) := by decide +kernel
theorem d_Pool_settle_4 : decode prog_4_method_11_code 4 = .ok (.iload_n 1, 1) := by decide +kernel
theorem d_Pool_settle_5 : decode prog_4_method_11_code 5 = .ok (.aaload, 1) := by decide +kernel
theorem d_Pool_settle_6 : decode prog_4_method_11_code 6 = .ok (.astore 4, 2) := by decide +kernel
theorem d_Pool_settle_8 : decode prog_4_method_11_code 8 = .ok (.aload 4, 2) := by decide +kernel
theorem d_Pool_settle_10 : decode prog_4_method_11_code 10 = .ok (.getfield 26, 3) := by decide +kernel
theorem d_Pool_settle_13 : decode prog_4_method_11_code 13 = .ok (.aload_n 2, 1) := by decide +kernel
theorem d_Pool_settle_14 : decode prog_4_method_11_code 14 = .ok (.getfield 97, 3) := by decide +kernel
theorem d_Pool_settle_17 : decode prog_4_method_11_code 17 = .ok (.aload_n 2, 1) := by decide +kernel
theorem d_Pool_settle_18 : decode prog_4_method_11_code 18 = .ok (.getfield 100, 3) := by decide +kernel
theorem d_Pool_settle_21 : decode prog_4_method_11_code 21 = .ok (.aload_n 2, 1) := by decide +kernel
theorem d_Pool_settle_22 : decode prog_4_method_11_code 22 = .ok (.getfield 103, 3) := by decide +kernel
theorem d_Pool_settle_25 : decode prog_4_method_11_code 25 = .ok (.aload_n 2, 1) := by decide +kernel
theorem d_Pool_settle_26 : decode prog_4_method_11_code 26 = .ok (.getfield 106, 3) := by decide +kernel
theorem d_Pool_settle_29 : decode prog_4_method_11_code 29 = .ok (.invokevirtual 109, 3) := by decide +kernel
theorem d_Pool_settle_32 : decode prog_4_method_11_code 32 = .ok (.aload 4, 2) := by decide +kernel
theorem d_Pool_settle_34 : decode prog_4_method_11_code 34 = .ok (.getfield 36, 3) := by decide +kernel
theorem d_Pool_settle_37 : decode prog_4_method_11_code 37 = .ok (.aload_n 3, 1) := by decide +kernel
theorem d_Pool_settle_38 : decode prog_4_method_11_code 38 = .ok (.invokevirtual 113, 3) := by decide +kernel
theorem d_Pool_settle_41 : decode prog_4_method_11_code 41 = .ok (.aload 4, 2) := by decide +kernel
theorem d_Pool_settle_43 : decode prog_4_method_11_code 43 = .ok (.aload_n 0, 1) := by decide +kernel
theorem d_Pool_settle_44 : decode prog_4_method_11_code 44 = .ok (.aload_n 3, 1) := by decide +kernel
theorem d_Pool_settle_45 : decode prog_4_method_11_code 45 = .ok (.invokevirtual 89, 3) := by decide +kernel
theorem d_Pool_settle_48 : decode prog_4_method_11_code 48 = .ok (.putfield 117, 3) := by decide +kernel
theorem d_Pool_settle_51 : decode prog_4_method_11_code 51 = .ok (.aload 4, 2) := by decide +kernel
theorem d_Pool_settle_53 : decode prog_4_method_11_code 53 = .ok (.aload_n 0, 1) := by decide +kernel
theorem d_Pool_settle_54 : decode prog_4_method_11_code 54 = .ok (.aload_n 2, 1) := by decide +kernel
theorem d_Pool_settle_55 : decode prog_4_method_11_code 55 = .ok (.invokevirtual 81, 3) := by decide +kernel
theorem d_Pool_settle_58 : decode prog_4_method_11_code 58 = .ok (.putfield 120, 3) := by decide +kernel
theorem d_Pool_settle_61 : decode prog_4_method_11_code 61 = .ok (.aload_n 0, 1) := by decide +kernel
theorem d_Pool_settle_62 : decode prog_4_method_11_code 62 = .ok (.dup, 1) := by decide +kernel
theorem d_Pool_settle_63 : decode prog_4_method_11_code 63 = .ok (.getfield 123, 3) := by decide +kernel
theorem d_Pool_settle_66 : decode prog_4_method_11_code 66 = .ok (.iconst 1, 1) := by decide +kernel
theorem d_Pool_settle_67 : decode prog_4_method_11_code 67 = .ok (.iadd, 1) := by decide +kernel
theorem d_Pool_settle_68 : decode prog_4_method_11_code 68 = .ok (.putfield 123, 3) := by decide +kernel
theorem d_Pool_settle_71 : decode prog_4_method_11_code 71 = .ok (.aload 4, 2) := by decide +kernel
theorem d_Pool_settle_73 : decode prog_4_method_11_code 73 = .ok (.aload_n 0, 1) := by decide +kernel
theorem d_Pool_settle_74 : decode prog_4_method_11_code 74 = .ok (.getfield 123, 3) := by decide +kernel
theorem d_Pool_settle_77 : decode prog_4_method_11_code 77 = .ok (.putfield 126, 3) := by decide +kernel
theorem d_Pool_settle_80 : decode prog_4_method_11_code 80 = .ok (.aload_n 0, 1) := by decide +kernel
theorem d_Pool_settle_81 : decode prog_4_method_11_code 81 = .ok (.dup, 1) := by decide +kernel
theorem d_Pool_settle_82 : decode prog_4_method_11_code 82 = .ok (.getfield 18, 3) := by decide +kernel
theorem d_Pool_settle_85 : decode prog_4_method_11_code 85 = .ok (.iload_n 1, 1) := by decide +kernel
theorem d_Pool_settle_86 : decode prog_4_method_11_code 86 = .ok (.invokestatic 93, 3) := by decide +kernel
theorem d_Pool_settle_89 : decode prog_4_method_11_code 89 = .ok (.lor, 1) := by decide +kernel
theorem d_Pool_settle_90 : decode prog_4_method_11_code 90 = .ok (.putfield 18, 3) := by decide +kernel
theorem d_Pool_settle_93 : decode prog_4_method_11_code 93 = .ok (.iconst 0, 1) := by decide +kernel
theorem d_Pool_settle_94 : decode prog_4_method_11_code 94 = .ok (.istore 5, 2) := by decide +kernel
theorem d_Pool_settle_96 : decode prog_4_method_11_code 96 = .ok (.iload 5, 2) := by decide +kernel
theorem d_Pool_settle_98 : decode prog_4_method_11_code 98 = .ok (.bipush 41, 2) := by decide +kernel
theorem d_Pool_settle_100 : decode prog_4_method_11_code 100 = .ok (.if_icmp .ge 73, 3) := by decide +kernel
theorem d_Pool_settle_103 : decode prog_4_method_11_code 103 = .ok (.aload 4, 2) := by decide +kernel
theorem d_Pool_settle_105 : decode prog_4_method_11_code 105 = .ok (.getfield 117, 3) := by decide +kernel
theorem d_Pool_settle_108 : decode prog_4_method_11_code 108 = .ok (.iload 5, 2) := by decide +kernel
theorem d_Pool_settle_110 : decode prog_4_method_11_code 110 = .ok (.invokestatic 22, 3) := by decide +kernel
theorem d_Pool_settle_113 : decode prog_4_method_11_code 113 = .ok (.ifCond .eq 22, 3) := by decide +kernel
theorem d_Pool_settle_116 : decode prog_4_method_11_code 116 = .ok (.aload_n 0, 1) := by decide +kernel
theorem d_Pool_settle_117 : decode prog_4_method_11_code 117 = .ok (.getfield 11, 3) := by decide +kernel
theorem d_Pool_settle_120 : decode prog_4_method_11_code 120 = .ok (.iload 5, 2) := by decide +kernel
theorem d_Pool_settle_122 : decode prog_4_method_11_code 122 = .ok (.aaload, 1) := by decide +kernel
theorem d_Pool_settle_123 : decode prog_4_method_11_code 123 = .ok (.dup, 1) := by decide +kernel
theorem d_Pool_settle_124 : decode prog_4_method_11_code 124 = .ok (.getfield 120, 3) := by decide +kernel
theorem d_Pool_settle_127 : decode prog_4_method_11_code 127 = .ok (.iload_n 1, 1) := by decide +kernel
theorem d_Pool_settle_128 : decode prog_4_method_11_code 128 = .ok (.invokestatic 93, 3) := by decide +kernel
theorem d_Pool_settle_131 : decode prog_4_method_11_code 131 = .ok (.lor, 1) := by decide +kernel
theorem d_Pool_settle_132 : decode prog_4_method_11_code 132 = .ok (.putfield 120, 3) := by decide +kernel
theorem d_Pool_settle_135 : decode prog_4_method_11_code 135 = .ok (.aload 4, 2) := by decide +kernel
theorem d_Pool_settle_137 : decode prog_4_method_11_code 137 = .ok (.getfield 120, 3) := by decide +kernel
theorem d_Pool_settle_140 : decode prog_4_method_11_code 140 = .ok (.iload 5, 2) := by decide +kernel
theorem d_Pool_settle_142 : decode prog_4_method_11_code 142 = .ok (.invokestatic 22, 3) := by decide +kernel
theorem d_Pool_settle_145 : decode prog_4_method_11_code 145 = .ok (.ifCond .eq 22, 3) := by decide +kernel
theorem d_Pool_settle_148 : decode prog_4_method_11_code 148 = .ok (.aload_n 0, 1) := by decide +kernel
theorem d_Pool_settle_149 : decode prog_4_method_11_code 149 = .ok (.getfield 11, 3) := by decide +kernel
theorem d_Pool_settle_152 : decode prog_4_method_11_code 152 = .ok (.iload 5, 2) := by decide +kernel
theorem d_Pool_settle_154 : decode prog_4_method_11_code 154 = .ok (.aaload, 1) := by decide +kernel
theorem d_Pool_settle_155 : decode prog_4_method_11_code 155 = .ok (.dup, 1) := by decide +kernel
theorem d_Pool_settle_156 : decode prog_4_method_11_code 156 = .ok (.getfield 117, 3) := by decide +kernel
theorem d_Pool_settle_159 : decode prog_4_method_11_code 159 = .ok (.iload_n 1, 1) := by decide +kernel
theorem d_Pool_settle_160 : decode prog_4_method_11_code 160 = .ok (.invokestatic 93, 3) := by decide +kernel
theorem d_Pool_settle_163 : decode prog_4_method_11_code 163 = .ok (.lor, 1) := by decide +kernel
theorem d_Pool_settle_164 : decode prog_4_method_11_code 164 = .ok (.putfield 117, 3) := by decide +kernel
theorem d_Pool_settle_167 : decode prog_4_method_11_code 167 = .ok (.iinc 5 1, 3) := by decide +kernel
theorem d_Pool_settle_170 : decode prog_4_method_11_code 170 = .ok (.goto (-74), 3) := by decide +kernel
theorem d_Pool_settle_173 : decode prog_4_method_11_code 173 = .ok (.return_, 1) := by decide +kernel
theorem d_Pool_leastPaying_0 : decode prog_4_method_17_code 0 = .ok (.iconst (-1), 1) := by decide +kernel
theorem d_Pool_leastPaying_1 : decode prog_4_method_17_code 1 = .ok (.istore_n 1, 1) := by decide +kernel
theorem d_Pool_leastPaying_2 : decode prog_4_method_17_code 2 = .ok (.iconst 0, 1) := by decide +kernel
theorem d_Pool_leastPaying_3 : decode prog_4_method_17_code 3 = .ok (.istore_n 2, 1) := by decide +kernel
theorem d_Pool_leastPaying_4 : decode prog_4_method_17_code 4 = .ok (.lconst 0, 1) := by decide +kernel
theorem d_Pool_leastPaying_5 : decode prog_4_method_17_code 5 = .ok (.lstore_n 3, 1) := by decide +kernel
theorem d_Pool_leastPaying_6 : decode prog_4_method_17_code 6 = .ok (.iconst 0, 1) := by decide +kernel
theorem d_Pool_leastPaying_7 : decode prog_4_method_17_code 7 = .ok (.istore 5, 2) := by decide +kernel
theorem d_Pool_leastPaying_9 : decode prog_4_method_17_code 9 = .ok (.iconst 0, 1) := by decide +kernel
theorem d_Pool_leastPaying_10 : decode prog_4_method_17_code 10 = .ok (.istore 6, 2) := by decide +kernel
theorem d_Pool_leastPaying_12 : decode prog_4_method_17_code 12 = .ok (.iload 6, 2) := by decide +kernel
theorem d_Pool_leastPaying_14 : decode prog_4_method_17_code 14 = .ok (.bipush 41, 2) := by decide +kernel
theorem d_Pool_leastPaying_16 : decode prog_4_method_17_code 16 = .ok (.if_icmp .ge 115, 3) := by decide +kernel
theorem d_Pool_leastPaying_19 : decode prog_4_method_17_code 19 = .ok (.aload_n 0, 1) := by decide +kernel
theorem d_Pool_leastPaying_20 : decode prog_4_method_17_code 20 = .ok (.getfield 18, 3) := by decide +kernel
theorem d_Pool_leastPaying_23 : decode prog_4_method_17_code 23 = .ok (.iload 6, 2) := by decide +kernel
theorem d_Pool_leastPaying_25 : decode prog_4_method_17_code 25 = .ok (.invokestatic 22, 3) := by decide +kernel
theorem d_Pool_leastPaying_28 : decode prog_4_method_17_code 28 = .ok (.ifCond .ne 6, 3) := by decide +kernel
theorem d_Pool_leastPaying_31 : decode prog_4_method_17_code 31 = .ok (.goto 94, 3) := by decide +kernel
theorem d_Pool_leastPaying_34 : decode prog_4_method_17_code 34 = .ok (.aload_n 0, 1) := by decide +kernel
theorem d_Pool_leastPaying_35 : decode prog_4_method_17_code 35 = .ok (.iload 6, 2) := by decide +kernel
theorem d_Pool_leastPaying_37 : decode prog_4_method_17_code 37 = .ok (.invokestatic 93, 3) := by decide +kernel
theorem d_Pool_leastPaying_40 : decode prog_4_method_17_code 40 = .ok (.invokevirtual 85, 3) := by decide +kernel
theorem d_Pool_leastPaying_43 : decode prog_4_method_17_code 43 = .ok (.lstore 7, 2) := by decide +kernel
theorem d_Pool_leastPaying_45 : decode prog_4_method_17_code 45 = .ok (.aload_n 0, 1) := by decide +kernel
theorem d_Pool_leastPaying_46 : decode prog_4_method_17_code 46 = .ok (.lload 7, 2) := by decide +kernel
theorem d_Pool_leastPaying_48 : decode prog_4_method_17_code 48 = .ok (.invokevirtual 138, 3) := by decide +kernel
theorem d_Pool_leastPaying_51 : decode prog_4_method_17_code 51 = .ok (.lstore 9, 2) := by decide +kernel
theorem d_Pool_leastPaying_53 : decode prog_4_method_17_code 53 = .ok (.aload_n 0, 1) := by decide +kernel
theorem d_Pool_leastPaying_54 : decode prog_4_method_17_code 54 = .ok (.lload 7, 2) := by decide +kernel
theorem d_Pool_leastPaying_56 : decode prog_4_method_17_code 56 = .ok (.invokevirtual 141, 3) := by decide +kernel
theorem d_Pool_leastPaying_59 : decode prog_4_method_17_code 59 = .ok (.istore 11, 2) := by decide +kernel
theorem d_Pool_leastPaying_61 : decode prog_4_method_17_code 61 = .ok (.lload 9, 2) := by decide +kernel
theorem d_Pool_leastPaying_63 : decode prog_4_method_17_code 63 = .ok (.iload 11, 2) := by decide +kernel
theorem d_Pool_leastPaying_65 : decode prog_4_method_17_code 65 = .ok (.i2l, 1) := by decide +kernel
theorem d_Pool_leastPaying_66 : decode prog_4_method_17_code 66 = .ok (.lload_n 3, 1) := by decide +kernel
theorem d_Pool_leastPaying_67 : decode prog_4_method_17_code 67 = .ok (.iload 5, 2) := by decide +kernel
theorem d_Pool_leastPaying_69 : decode prog_4_method_17_code 69 = .ok (.i2l, 1) := by decide +kernel
theorem d_Pool_leastPaying_70 : decode prog_4_method_17_code 70 = .ok (.invokestatic 144, 3) := by decide +kernel
theorem d_Pool_leastPaying_73 : decode prog_4_method_17_code 73 = .ok (.istore 12, 2) := by decide +kernel
theorem d_Pool_leastPaying_75 : decode prog_4_method_17_code 75 = .ok (.iload_n 1, 1) := by decide +kernel
theorem d_Pool_leastPaying_76 : decode prog_4_method_17_code 76 = .ok (.iconst (-1), 1) := by decide +kernel
theorem d_Pool_leastPaying_77 : decode prog_4_method_17_code 77 = .ok (.if_icmp .eq 27, 3) := by decide +kernel
theorem d_Pool_leastPaying_80 : decode prog_4_method_17_code 80 = .ok (.iload 12, 2) := by decide +kernel
theorem d_Pool_leastPaying_82 : decode prog_4_method_17_code 82 = .ok (.ifCond .lt 22, 3) := by decide +kernel
theorem d_Pool_leastPaying_85 : decode prog_4_method_17_code 85 = .ok (.iload 12, 2) := by decide +kernel
theorem d_Pool_leastPaying_87 : decode prog_4_method_17_code 87 = .ok (.ifCond .ne 38, 3) := by decide +kernel
theorem d_Pool_leastPaying_90 : decode prog_4_method_17_code 90 = .ok (.aload_n 0, 1) := by decide +kernel
theorem d_Pool_leastPaying_91 : decode prog_4_method_17_code 91 = .ok (.getfield 11, 3) := by decide +kernel
theorem d_Pool_leastPaying_94 : decode prog_4_method_17_code 94 = .ok (.iload 6, 2) := by decide +kernel
theorem d_Pool_leastPaying_96 : decode prog_4_method_17_code 96 = .ok (.aaload, 1) := by decide +kernel
theorem d_Pool_leastPaying_97 : decode prog_4_method_17_code 97 = .ok (.getfield 126, 3) := by decide +kernel
theorem d_Pool_leastPaying_100 : decode prog_4_method_17_code 100 = .ok (.iload_n 2, 1) := by decide +kernel
theorem d_Pool_leastPaying_101 : decode prog_4_method_17_code 101 = .ok (.if_icmp .le 24, 3) := by decide +kernel
theorem d_Pool_leastPaying_104 : decode prog_4_method_17_code 104 = .ok (.iload 6, 2) := by decide +kernel
theorem d_Pool_leastPaying_106 : decode prog_4_method_17_code 106 = .ok (.istore_n 1, 1) := by decide +kernel
theorem d_Pool_leastPaying_107 : decode prog_4_method_17_code 107 = .ok (.aload_n 0, 1) := by decide +kernel
theorem d_Pool_leastPaying_108 : decode prog_4_method_17_code 108 = .ok (.getfield 11, 3) := by decide +kernel
theorem d_Pool_leastPaying_111 : decode prog_4_method_17_code 111 = .ok (.iload 6, 2) := by decide +kernel
theorem d_Pool_leastPaying_113 : decode prog_4_method_17_code 113 = .ok (.aaload, 1) := by decide +kernel
theorem d_Pool_leastPaying_114 : decode prog_4_method_17_code 114 = .ok (.getfield 126, 3) := by decide +kernel
theorem d_Pool_leastPaying_117 : decode prog_4_method_17_code 117 = .ok (.istore_n 2, 1) := by decide +kernel
theorem d_Pool_leastPaying_118 : decode prog_4_method_17_code 118 = .ok (.lload 9, 2) := by decide +kernel
theorem d_Pool_leastPaying_120 : decode prog_4_method_17_code 120 = .ok (.lstore_n 3, 1) := by decide +kernel
theorem d_Pool_leastPaying_121 : decode prog_4_method_17_code 121 = .ok (.iload 11, 2) := by decide +kernel
theorem d_Pool_leastPaying_123 : decode prog_4_method_17_code 123 = .ok (.istore 5, 2) := by decide +kernel
theorem d_Pool_leastPaying_125 : decode prog_4_method_17_code 125 = .ok (.iinc 6 1, 3) := by decide +kernel
theorem d_Pool_leastPaying_128 : decode prog_4_method_17_code 128 = .ok (.goto (-116), 3) := by decide +kernel
theorem d_Pool_leastPaying_131 : decode prog_4_method_17_code 131 = .ok (.iload_n 1, 1) := by decide +kernel
theorem d_Pool_leastPaying_132 : decode prog_4_method_17_code 132 = .ok (.ireturn, 1) := by decide +kernel
theorem d_Pool_sumOfFees_0 : decode prog_4_method_14_code 0 = .ok (.lconst 0, 1) := by decide +kernel
theorem d_Pool_sumOfFees_1 : decode prog_4_method_14_code 1 = .ok (.lstore_n 3, 1) := by decide +kernel
theorem d_Pool_sumOfFees_2 : decode prog_4_method_14_code 2 = .ok (.iconst 0, 1) := by decide +kernel
theorem d_Pool_sumOfFees_3 : decode prog_4_method_14_code 3 = .ok (.istore 5, 2) := by decide +kernel
theorem d_Pool_sumOfFees_5 : decode prog_4_method_14_code 5 = .ok (.iload 5, 2) := by decide +kernel
theorem d_Pool_sumOfFees_7 : decode prog_4_method_14_code 7 = .ok (.bipush 41, 2) := by decide +kernel
theorem d_Pool_sumOfFees_9 : decode prog_4_method_14_code 9 = .ok (.if_icmp .ge 31, 3) := by decide +kernel
theorem d_Pool_sumOfFees_12 : decode prog_4_method_14_code 12 = .ok (.lload_n 1, 1) := by decide +kernel
theorem d_Pool_sumOfFees_13 : decode prog_4_method_14_code 13 = .ok (.iload 5, 2) := by decide +kernel
theorem d_Pool_sumOfFees_15 : decode prog_4_method_14_code 15 = .ok (.invokestatic 22, 3) := by decide +kernel
theorem d_Pool_sumOfFees_18 : decode prog_4_method_14_code 18 = .ok (.ifCond .eq 16, 3) := by decide +kernel
theorem d_Pool_sumOfFees_21 : decode prog_4_method_14_code 21 = .ok (.lload_n 3, 1) := by decide +kernel
theorem d_Pool_sumOfFees_22 : decode prog_4_method_14_code 22 = .ok (.aload_n 0, 1) := by decide +kernel
theorem d_Pool_sumOfFees_23 : decode prog_4_method_14_code 23 = .ok (.getfield 11, 3) := by decide +kernel
theorem d_Pool_sumOfFees_26 : decode prog_4_method_14_code 26 = .ok (.iload 5, 2) := by decide +kernel
theorem d_Pool_sumOfFees_28 : decode prog_4_method_14_code 28 = .ok (.aaload, 1) := by decide +kernel
theorem d_Pool_sumOfFees_29 : decode prog_4_method_14_code 29 = .ok (.getfield 129, 3) := by decide +kernel
theorem d_Pool_sumOfFees_32 : decode prog_4_method_14_code 32 = .ok (.ladd, 1) := by decide +kernel
theorem d_Pool_sumOfFees_33 : decode prog_4_method_14_code 33 = .ok (.lstore_n 3, 1) := by decide +kernel
theorem d_Pool_sumOfFees_34 : decode prog_4_method_14_code 34 = .ok (.iinc 5 1, 3) := by decide +kernel
theorem d_Pool_sumOfFees_37 : decode prog_4_method_14_code 37 = .ok (.goto (-32), 3) := by decide +kernel
theorem d_Pool_sumOfFees_40 : decode prog_4_method_14_code 40 = .ok (.lload_n 3, 1) := by decide +kernel
theorem d_Pool_sumOfFees_41 : decode prog_4_method_14_code 41 = .ok (.lreturn, 1) := by decide +kernel
theorem d_Pool_sumOfSizes_0 : decode prog_4_method_15_code 0 = .ok (.iconst 0, 1) := by decide +kernel
theorem d_Pool_sumOfSizes_1 : decode prog_4_method_15_code 1 = .ok (.istore_n 3, 1) := by decide +kernel
theorem d_Pool_sumOfSizes_2 : decode prog_4_method_15_code 2 = .ok (.iconst 0, 1) := by decide +kernel
theorem d_Pool_sumOfSizes_3 : decode prog_4_method_15_code 3 = .ok (.istore 4, 2) := by decide +kernel
theorem d_Pool_sumOfSizes_5 : decode prog_4_method_15_code 5 = .ok (.iload 4, 2) := by decide +kernel
theorem d_Pool_sumOfSizes_7 : decode prog_4_method_15_code 7 = .ok (.bipush 41, 2) := by decide +kernel
theorem d_Pool_sumOfSizes_9 : decode prog_4_method_15_code 9 = .ok (.if_icmp .ge 31, 3) := by decide +kernel
theorem d_Pool_sumOfSizes_12 : decode prog_4_method_15_code 12 = .ok (.lload_n 1, 1) := by decide +kernel
theorem d_Pool_sumOfSizes_13 : decode prog_4_method_15_code 13 = .ok (.iload 4, 2) := by decide +kernel
theorem d_Pool_sumOfSizes_15 : decode prog_4_method_15_code 15 = .ok (.invokestatic 22, 3) := by decide +kernel
theorem d_Pool_sumOfSizes_18 : decode prog_4_method_15_code 18 = .ok (.ifCond .eq 16, 3) := by decide +kernel
theorem d_Pool_sumOfSizes_21 : decode prog_4_method_15_code 21 = .ok (.iload_n 3, 1) := by decide +kernel
theorem d_Pool_sumOfSizes_22 : decode prog_4_method_15_code 22 = .ok (.aload_n 0, 1) := by decide +kernel
theorem d_Pool_sumOfSizes_23 : decode prog_4_method_15_code 23 = .ok (.getfield 11, 3) := by decide +kernel
theorem d_Pool_sumOfSizes_26 : decode prog_4_method_15_code 26 = .ok (.iload 4, 2) := by decide +kernel
theorem d_Pool_sumOfSizes_28 : decode prog_4_method_15_code 28 = .ok (.aaload, 1) := by decide +kernel
theorem d_Pool_sumOfSizes_29 : decode prog_4_method_15_code 29 = .ok (.getfield 132, 3) := by decide +kernel
theorem d_Pool_sumOfSizes_32 : decode prog_4_method_15_code 32 = .ok (.iadd, 1) := by decide +kernel
theorem d_Pool_sumOfSizes_33 : decode prog_4_method_15_code 33 = .ok (.istore_n 3, 1) := by decide +kernel
theorem d_Pool_sumOfSizes_34 : decode prog_4_method_15_code 34 = .ok (.iinc 4 1, 3) := by decide +kernel
theorem d_Pool_sumOfSizes_37 : decode prog_4_method_15_code 37 = .ok (.goto (-32), 3) := by decide +kernel
theorem d_Pool_sumOfSizes_40 : decode prog_4_method_15_code 40 = .ok (.iload_n 3, 1) := by decide +kernel
theorem d_Pool_sumOfSizes_41 : decode prog_4_method_15_code 41 = .ok (.ireturn, 1) := by decide +kernel
theorem d_Pool_remove_0 : decode prog_4_method_12_code 0 = .ok (.aload_n 0, 1) := by decide +kernel
theorem d_Pool_remove_1 : decode prog_4_method_12_code 1 = .ok (.dup, 1) := by decide +kernel
theorem d_Pool_remove_2 : decode prog_4_method_12_code 2 = .ok (.getfield 18, 3) := by decide +kernel
theorem d_Pool_remove_5 : decode prog_4_method_12_code 5 = .ok (.lload_n 1, 1) := by decide +kernel
theorem d_Pool_remove_6 : decode prog_4_method_12_code 6 = .ok (.ldc2_w 46, 3) := by decide +kernel
theorem d_Pool_remove_9 : decode prog_4_method_12_code 9 = .ok (.lxor, 1) := by decide +kernel
theorem d_Pool_remove_10 : decode prog_4_method_12_code 10 = .ok (.land, 1) := by decide +kernel
theorem d_Pool_remove_11 : decode prog_4_method_12_code 11 = .ok (.putfield 18, 3) := by decide +kernel
theorem d_Pool_remove_14 : decode prog_4_method_12_code 14 = .ok (.iconst 0, 1) := by decide +kernel
theorem d_Pool_remove_15 : decode prog_4_method_12_code 15 = .ok (.istore_n 3, 1) := by decide +kernel
theorem d_Pool_remove_16 : decode prog_4_method_12_code 16 = .ok (.iload_n 3, 1) := by decide +kernel
theorem d_Pool_remove_17 : decode prog_4_method_12_code 17 = .ok (.bipush 41, 2) := by decide +kernel
theorem d_Pool_remove_19 : decode prog_4_method_12_code 19 = .ok (.if_icmp .ge 47, 3) := by decide +kernel
theorem d_Pool_remove_22 : decode prog_4_method_12_code 22 = .ok (.aload_n 0, 1) := by decide +kernel
theorem d_Pool_remove_23 : decode prog_4_method_12_code 23 = .ok (.getfield 11, 3) := by decide +kernel
theorem d_Pool_remove_26 : decode prog_4_method_12_code 26 = .ok (.iload_n 3, 1) := by decide +kernel
theorem d_Pool_remove_27 : decode prog_4_method_12_code 27 = .ok (.aaload, 1) := by decide +kernel
theorem d_Pool_remove_28 : decode prog_4_method_12_code 28 = .ok (.dup, 1) := by decide +kernel
theorem d_Pool_remove_29 : decode prog_4_method_12_code 29 = .ok (.getfield 117, 3) := by decide +kernel
theorem d_Pool_remove_32 : decode prog_4_method_12_code 32 = .ok (.lload_n 1, 1) := by decide +kernel
theorem d_Pool_remove_33 : decode prog_4_method_12_code 33 = .ok (.ldc2_w 46, 3) := by decide +kernel
theorem d_Pool_remove_36 : decode prog_4_method_12_code 36 = .ok (.lxor, 1) := by decide +kernel
theorem d_Pool_remove_37 : decode prog_4_method_12_code 37 = .ok (.land, 1) := by decide +kernel
theorem d_Pool_remove_38 : decode prog_4_method_12_code 38 = .ok (.putfield 117, 3) := by decide +kernel
theorem d_Pool_remove_41 : decode prog_4_method_12_code 41 = .ok (.aload_n 0, 1) := by decide +kernel
theorem d_Pool_remove_42 : decode prog_4_method_12_code 42 = .ok (.getfield 11, 3) := by decide +kernel
theorem d_Pool_remove_45 : decode prog_4_method_12_code 45 = .ok (.iload_n 3, 1) := by decide +kernel
theorem d_Pool_remove_46 : decode prog_4_method_12_code 46 = .ok (.aaload, 1) := by decide +kernel
theorem d_Pool_remove_47 : decode prog_4_method_12_code 47 = .ok (.dup, 1) := by decide +kernel
theorem d_Pool_remove_48 : decode prog_4_method_12_code 48 = .ok (.getfield 120, 3) := by decide +kernel
theorem d_Pool_remove_51 : decode prog_4_method_12_code 51 = .ok (.lload_n 1, 1) := by decide +kernel
theorem d_Pool_remove_52 : decode prog_4_method_12_code 52 = .ok (.ldc2_w 46, 3) := by decide +kernel
theorem d_Pool_remove_55 : decode prog_4_method_12_code 55 = .ok (.lxor, 1) := by decide +kernel
theorem d_Pool_remove_56 : decode prog_4_method_12_code 56 = .ok (.land, 1) := by decide +kernel
theorem d_Pool_remove_57 : decode prog_4_method_12_code 57 = .ok (.putfield 120, 3) := by decide +kernel
theorem d_Pool_remove_60 : decode prog_4_method_12_code 60 = .ok (.iinc 3 1, 3) := by decide +kernel
theorem d_Pool_remove_63 : decode prog_4_method_12_code 63 = .ok (.goto (-47), 3) := by decide +kernel
theorem d_Pool_remove_66 : decode prog_4_method_12_code 66 = .ok (.return_, 1) := by decide +kernel
theorem d_Pool_findSpender_0 : decode prog_4_method_3_code 0 = .ok (.iconst 0, 1) := by decide +kernel
theorem d_Pool_findSpender_1 : decode prog_4_method_3_code 1 = .ok (.istore_n 3, 1) := by decide +kernel
theorem d_Pool_findSpender_2 : decode prog_4_method_3_code 2 = .ok (.iload_n 3, 1) := by decide +kernel
theorem d_Pool_findSpender_3 : decode prog_4_method_3_code 3 = .ok (.bipush 41, 2) := by decide +kernel
theorem d_Pool_findSpender_5 : decode prog_4_method_3_code 5 = .ok (.if_icmp .ge 39, 3) := by decide +kernel
theorem d_Pool_findSpender_8 : decode prog_4_method_3_code 8 = .ok (.aload_n 0, 1) := by decide +kernel
theorem d_Pool_findSpender_9 : decode prog_4_method_3_code 9 = .ok (.getfield 18, 3) := by decide +kernel
theorem d_Pool_findSpender_12 : decode prog_4_method_3_code 12 = .ok (.iload_n 3, 1) := by decide +kernel
theorem d_Pool_findSpender_13 : decode prog_4_method_3_code 13 = .ok (.invokestatic 22, 3) := by decide +kernel
theorem d_Pool_findSpender_16 : decode prog_4_method_3_code 16 = .ok (.ifCond .eq 22, 3) := by decide +kernel
theorem d_Pool_findSpender_19 : decode prog_4_method_3_code 19 = .ok (.aload_n 0, 1) := by decide +kernel
theorem d_Pool_findSpender_20 : decode prog_4_method_3_code 20 = .ok (.getfield 11, 3) := by decide +kernel
theorem d_Pool_findSpender_23 : decode prog_4_method_3_code 23 = .ok (.iload_n 3, 1) := by decide +kernel
theorem d_Pool_findSpender_24 : decode prog_4_method_3_code 24 = .ok (.aaload, 1) := by decide +kernel
theorem d_Pool_findSpender_25 : decode prog_4_method_3_code 25 = .ok (.getfield 36, 3) := by decide +kernel
theorem d_Pool_findSpender_28 : decode prog_4_method_3_code 28 = .ok (.aload_n 1, 1) := by decide +kernel
theorem d_Pool_findSpender_29 : decode prog_4_method_3_code 29 = .ok (.iload_n 2, 1) := by decide +kernel
theorem d_Pool_findSpender_30 : decode prog_4_method_3_code 30 = .ok (.invokevirtual 40, 3) := by decide +kernel
theorem d_Pool_findSpender_33 : decode prog_4_method_3_code 33 = .ok (.ifCond .eq 5, 3) := by decide +kernel
theorem d_Pool_findSpender_36 : decode prog_4_method_3_code 36 = .ok (.iload_n 3, 1) := by decide +kernel
theorem d_Pool_findSpender_37 : decode prog_4_method_3_code 37 = .ok (.ireturn, 1) := by decide +kernel
theorem d_Pool_findSpender_38 : decode prog_4_method_3_code 38 = .ok (.iinc 3 1, 3) := by decide +kernel
theorem d_Pool_findSpender_41 : decode prog_4_method_3_code 41 = .ok (.goto (-39), 3) := by decide +kernel
theorem d_Pool_findSpender_44 : decode prog_4_method_3_code 44 = .ok (.iconst (-1), 1) := by decide +kernel
theorem d_Pool_findSpender_45 : decode prog_4_method_3_code 45 = .ok (.ireturn, 1) := by decide +kernel
theorem d_Pool_bestPaying_0 : decode prog_4_method_18_code 0 = .ok (.iconst (-1), 1) := by decide +kernel
theorem d_Pool_bestPaying_1 : decode prog_4_method_18_code 1 = .ok (.istore 4, 2) := by decide +kernel
theorem d_Pool_bestPaying_3 : decode prog_4_method_18_code 3 = .ok (.iconst 0, 1) := by decide +kernel
theorem d_Pool_bestPaying_4 : decode prog_4_method_18_code 4 = .ok (.istore 5, 2) := by decide +kernel
theorem d_Pool_bestPaying_6 : decode prog_4_method_18_code 6 = .ok (.iload 5, 2) := by decide +kernel
theorem d_Pool_bestPaying_8 : decode prog_4_method_18_code 8 = .ok (.bipush 41, 2) := by decide +kernel
theorem d_Pool_bestPaying_10 : decode prog_4_method_18_code 10 = .ok (.if_icmp .ge 101, 3) := by decide +kernel
theorem d_Pool_bestPaying_13 : decode prog_4_method_18_code 13 = .ok (.aload_n 0, 1) := by decide +kernel
theorem d_Pool_bestPaying_14 : decode prog_4_method_18_code 14 = .ok (.getfield 18, 3) := by decide +kernel
theorem d_Pool_bestPaying_17 : decode prog_4_method_18_code 17 = .ok (.lload_n 1, 1) := by decide +kernel
theorem d_Pool_bestPaying_18 : decode prog_4_method_18_code 18 = .ok (.ldc2_w 46, 3) := by decide +kernel
theorem d_Pool_bestPaying_21 : decode prog_4_method_18_code 21 = .ok (.lxor, 1) := by decide +kernel
theorem d_Pool_bestPaying_22 : decode prog_4_method_18_code 22 = .ok (.land, 1) := by decide +kernel
theorem d_Pool_bestPaying_23 : decode prog_4_method_18_code 23 = .ok (.iload 5, 2) := by decide +kernel
theorem d_Pool_bestPaying_25 : decode prog_4_method_18_code 25 = .ok (.invokestatic 22, 3) := by decide +kernel
theorem d_Pool_bestPaying_28 : decode prog_4_method_18_code 28 = .ok (.ifCond .ne 6, 3) := by decide +kernel
theorem d_Pool_bestPaying_31 : decode prog_4_method_18_code 31 = .ok (.goto 74, 3) := by decide +kernel
theorem d_Pool_bestPaying_34 : decode prog_4_method_18_code 34 = .ok (.aload_n 0, 1) := by decide +kernel
theorem d_Pool_bestPaying_35 : decode prog_4_method_18_code 35 = .ok (.getfield 11, 3) := by decide +kernel
theorem d_Pool_bestPaying_38 : decode prog_4_method_18_code 38 = .ok (.iload 5, 2) := by decide +kernel
theorem d_Pool_bestPaying_40 : decode prog_4_method_18_code 40 = .ok (.aaload, 1) := by decide +kernel
theorem d_Pool_bestPaying_41 : decode prog_4_method_18_code 41 = .ok (.astore 6, 2) := by decide +kernel
theorem d_Pool_bestPaying_43 : decode prog_4_method_18_code 43 = .ok (.aload 6, 2) := by decide +kernel
theorem d_Pool_bestPaying_45 : decode prog_4_method_18_code 45 = .ok (.getfield 117, 3) := by decide +kernel
theorem d_Pool_bestPaying_48 : decode prog_4_method_18_code 48 = .ok (.lload_n 1, 1) := by decide +kernel
theorem d_Pool_bestPaying_49 : decode prog_4_method_18_code 49 = .ok (.ldc2_w 46, 3) := by decide +kernel
theorem d_Pool_bestPaying_52 : decode prog_4_method_18_code 52 = .ok (.lxor, 1) := by decide +kernel
theorem d_Pool_bestPaying_53 : decode prog_4_method_18_code 53 = .ok (.land, 1) := by decide +kernel
theorem d_Pool_bestPaying_54 : decode prog_4_method_18_code 54 = .ok (.lconst 0, 1) := by decide +kernel
theorem d_Pool_bestPaying_55 : decode prog_4_method_18_code 55 = .ok (.lcmp, 1) := by decide +kernel
theorem d_Pool_bestPaying_56 : decode prog_4_method_18_code 56 = .ok (.ifCond .ne 16, 3) := by decide +kernel
theorem d_Pool_bestPaying_59 : decode prog_4_method_18_code 59 = .ok (.aload 6, 2) := by decide +kernel
theorem d_Pool_bestPaying_61 : decode prog_4_method_18_code 61 = .ok (.getfield 132, 3) := by decide +kernel
theorem d_Pool_bestPaying_64 : decode prog_4_method_18_code 64 = .ok (.iload_n 3, 1) := by decide +kernel
theorem d_Pool_bestPaying_65 : decode prog_4_method_18_code 65 = .ok (.if_icmp .gt 7, 3) := by decide +kernel
theorem d_Pool_bestPaying_68 : decode prog_4_method_18_code 68 = .ok (.iconst 1, 1) := by decide +kernel
theorem d_Pool_bestPaying_69 : decode prog_4_method_18_code 69 = .ok (.goto 4, 3) := by decide +kernel
theorem d_Pool_bestPaying_72 : decode prog_4_method_18_code 72 = .ok (.iconst 0, 1) := by decide +kernel
theorem d_Pool_bestPaying_73 : decode prog_4_method_18_code 73 = .ok (.istore 7, 2) := by decide +kernel
theorem d_Pool_bestPaying_75 : decode prog_4_method_18_code 75 = .ok (.iload 7, 2) := by decide +kernel
theorem d_Pool_bestPaying_77 : decode prog_4_method_18_code 77 = .ok (.ifCond .eq 28, 3) := by decide +kernel
theorem d_Pool_bestPaying_80 : decode prog_4_method_18_code 80 = .ok (.iload 4, 2) := by decide +kernel
theorem d_Pool_bestPaying_82 : decode prog_4_method_18_code 82 = .ok (.iconst (-1), 1) := by decide +kernel
theorem d_Pool_bestPaying_83 : decode prog_4_method_18_code 83 = .ok (.if_icmp .eq 18, 3) := by decide +kernel
theorem d_Pool_bestPaying_86 : decode prog_4_method_18_code 86 = .ok (.aload 6, 2) := by decide +kernel
theorem d_Pool_bestPaying_88 : decode prog_4_method_18_code 88 = .ok (.aload_n 0, 1) := by decide +kernel
theorem d_Pool_bestPaying_89 : decode prog_4_method_18_code 89 = .ok (.getfield 11, 3) := by decide +kernel
theorem d_Pool_bestPaying_92 : decode prog_4_method_18_code 92 = .ok (.iload 4, 2) := by decide +kernel
theorem d_Pool_bestPaying_94 : decode prog_4_method_18_code 94 = .ok (.aaload, 1) := by decide +kernel
theorem d_Pool_bestPaying_95 : decode prog_4_method_18_code 95 = .ok (.invokestatic 148, 3) := by decide +kernel
theorem d_Pool_bestPaying_98 : decode prog_4_method_18_code 98 = .ok (.ifCond .eq 7, 3) := by decide +kernel
theorem d_Pool_bestPaying_101 : decode prog_4_method_18_code 101 = .ok (.iload 5, 2) := by decide +kernel
theorem d_Pool_bestPaying_103 : decode prog_4_method_18_code 103 = .ok (.istore 4, 2) := by decide +kernel
theorem d_Pool_bestPaying_105 : decode prog_4_method_18_code 105 = .ok (.iinc 5 1, 3) := by decide +kernel
theorem d_Pool_bestPaying_108 : decode prog_4_method_18_code 108 = .ok (.goto (-102), 3) := by decide +kernel
theorem d_Pool_bestPaying_111 : decode prog_4_method_18_code 111 = .ok (.iload 4, 2) := by decide +kernel
theorem d_Pool_bestPaying_113 : decode prog_4_method_18_code 113 = .ok (.ireturn, 1) := by decide +kernel
theorem d_Pool_paysBetter_0 : decode prog_4_method_19_code 0 = .ok (.aload_n 0, 1) := by decide +kernel
theorem d_Pool_paysBetter_1 : decode prog_4_method_19_code 1 = .ok (.getfield 129, 3) := by decide +kernel
theorem d_Pool_paysBetter_4 : decode prog_4_method_19_code 4 = .ok (.aload_n 0, 1) := by decide +kernel
theorem d_Pool_paysBetter_5 : decode prog_4_method_19_code 5 = .ok (.getfield 132, 3) := by decide +kernel
theorem d_Pool_paysBetter_8 : decode prog_4_method_19_code 8 = .ok (.i2l, 1) := by decide +kernel
theorem d_Pool_paysBetter_9 : decode prog_4_method_19_code 9 = .ok (.aload_n 1, 1) := by decide +kernel
theorem d_Pool_paysBetter_10 : decode prog_4_method_19_code 10 = .ok (.getfield 129, 3) := by decide +kernel
theorem d_Pool_paysBetter_13 : decode prog_4_method_19_code 13 = .ok (.aload_n 1, 1) := by decide +kernel
theorem d_Pool_paysBetter_14 : decode prog_4_method_19_code 14 = .ok (.getfield 132, 3) := by decide +kernel
theorem d_Pool_paysBetter_17 : decode prog_4_method_19_code 17 = .ok (.i2l, 1) := by decide +kernel
theorem d_Pool_paysBetter_18 : decode prog_4_method_19_code 18 = .ok (.invokestatic 144, 3) := by decide +kernel
theorem d_Pool_paysBetter_21 : decode prog_4_method_19_code 21 = .ok (.istore_n 2, 1) := by decide +kernel
theorem d_Pool_paysBetter_22 : decode prog_4_method_19_code 22 = .ok (.iload_n 2, 1) := by decide +kernel
theorem d_Pool_paysBetter_23 : decode prog_4_method_19_code 23 = .ok (.ifCond .gt 18, 3) := by decide +kernel
theorem d_Pool_paysBetter_26 : decode prog_4_method_19_code 26 = .ok (.iload_n 2, 1) := by decide +kernel
theorem d_Pool_paysBetter_27 : decode prog_4_method_19_code 27 = .ok (.ifCond .ne 18, 3) := by decide +kernel
theorem d_Pool_paysBetter_30 : decode prog_4_method_19_code 30 = .ok (.aload_n 0, 1) := by decide +kernel
theorem d_Pool_paysBetter_31 : decode prog_4_method_19_code 31 = .ok (.getfield 126, 3) := by decide +kernel
theorem d_Pool_paysBetter_34 : decode prog_4_method_19_code 34 = .ok (.aload_n 1, 1) := by decide +kernel
theorem d_Pool_paysBetter_35 : decode prog_4_method_19_code 35 = .ok (.getfield 126, 3) := by decide +kernel
theorem d_Pool_paysBetter_38 : decode prog_4_method_19_code 38 = .ok (.if_icmp .ge 7, 3) := by decide +kernel
theorem d_Pool_paysBetter_41 : decode prog_4_method_19_code 41 = .ok (.iconst 1, 1) := by decide +kernel
theorem d_Pool_paysBetter_42 : decode prog_4_method_19_code 42 = .ok (.goto 4, 3) := by decide +kernel
theorem d_Pool_paysBetter_45 : decode prog_4_method_19_code 45 = .ok (.iconst 0, 1) := by decide +kernel
theorem d_Pool_paysBetter_46 : decode prog_4_method_19_code 46 = .ok (.ireturn, 1) := by decide +kernel
theorem d_Pool_sumOfKeys_0 : decode prog_4_method_16_code 0 = .ok (.iconst 0, 1) := by decide +kernel
theorem d_Pool_sumOfKeys_1 : decode prog_4_method_16_code 1 = .ok (.istore_n 1, 1) := by decide +kernel
theorem d_Pool_sumOfKeys_2 : decode prog_4_method_16_code 2 = .ok (.iconst 0, 1) := by decide +kernel
theorem d_Pool_sumOfKeys_3 : decode prog_4_method_16_code 3 = .ok (.istore_n 2, 1) := by decide +kernel
theorem d_Pool_sumOfKeys_4 : decode prog_4_method_16_code 4 = .ok (.iload_n 2, 1) := by decide +kernel
theorem d_Pool_sumOfKeys_5 : decode prog_4_method_16_code 5 = .ok (.bipush 41, 2) := by decide +kernel
theorem d_Pool_sumOfKeys_7 : decode prog_4_method_16_code 7 = .ok (.if_icmp .ge 35, 3) := by decide +kernel
theorem d_Pool_sumOfKeys_10 : decode prog_4_method_16_code 10 = .ok (.aload_n 0, 1) := by decide +kernel
theorem d_Pool_sumOfKeys_11 : decode prog_4_method_16_code 11 = .ok (.getfield 18, 3) := by decide +kernel
theorem d_Pool_sumOfKeys_14 : decode prog_4_method_16_code 14 = .ok (.iload_n 2, 1) := by decide +kernel
theorem d_Pool_sumOfKeys_15 : decode prog_4_method_16_code 15 = .ok (.invokestatic 22, 3) := by decide +kernel
theorem d_Pool_sumOfKeys_18 : decode prog_4_method_16_code 18 = .ok (.ifCond .eq 18, 3) := by decide +kernel
theorem d_Pool_sumOfKeys_21 : decode prog_4_method_16_code 21 = .ok (.iload_n 1, 1) := by decide +kernel
theorem d_Pool_sumOfKeys_22 : decode prog_4_method_16_code 22 = .ok (.aload_n 0, 1) := by decide +kernel
theorem d_Pool_sumOfKeys_23 : decode prog_4_method_16_code 23 = .ok (.getfield 11, 3) := by decide +kernel
theorem d_Pool_sumOfKeys_26 : decode prog_4_method_16_code 26 = .ok (.iload_n 2, 1) := by decide +kernel
theorem d_Pool_sumOfKeys_27 : decode prog_4_method_16_code 27 = .ok (.aaload, 1) := by decide +kernel
theorem d_Pool_sumOfKeys_28 : decode prog_4_method_16_code 28 = .ok (.getfield 36, 3) := by decide +kernel
theorem d_Pool_sumOfKeys_31 : decode prog_4_method_16_code 31 = .ok (.getfield 135, 3) := by decide +kernel
theorem d_Pool_sumOfKeys_34 : decode prog_4_method_16_code 34 = .ok (.iadd, 1) := by decide +kernel
theorem d_Pool_sumOfKeys_35 : decode prog_4_method_16_code 35 = .ok (.istore_n 1, 1) := by decide +kernel
theorem d_Pool_sumOfKeys_36 : decode prog_4_method_16_code 36 = .ok (.iinc 2 1, 3) := by decide +kernel
theorem d_Pool_sumOfKeys_39 : decode prog_4_method_16_code 39 = .ok (.goto (-35), 3) := by decide +kernel
theorem d_Pool_sumOfKeys_42 : decode prog_4_method_16_code 42 = .ok (.iload_n 1, 1) := by decide +kernel
theorem d_Pool_sumOfKeys_43 : decode prog_4_method_16_code 43 = .ok (.ireturn, 1) := by decide +kernel
