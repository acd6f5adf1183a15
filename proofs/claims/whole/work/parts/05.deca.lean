theorem d_Desk_init_0 : decode prog_1_method_1_code 0 = .ok (.aload_n 0, 1) := by decide +kernel
theorem d_Desk_init_1 : decode prog_1_method_1_code 1 = .ok (.invokespecial 3, 3) := by decide +kernel
theorem d_Desk_init_4 : decode prog_1_method_1_code 4 = .ok (.aload_n 0, 1) := by decide +kernel
theorem d_Desk_init_5 : decode prog_1_method_1_code 5 = .ok (.new 9, 3) := by decide +kernel
theorem d_Desk_init_8 : decode prog_1_method_1_code 8 = .ok (.dup, 1) := by decide +kernel
theorem d_Desk_init_9 : decode prog_1_method_1_code 9 = .ok (.invokespecial 11, 3) := by decide +kernel
theorem d_Desk_init_12 : decode prog_1_method_1_code 12 = .ok (.putfield 12, 3) := by decide +kernel
theorem d_Desk_init_15 : decode prog_1_method_1_code 15 = .ok (.aload_n 0, 1) := by decide +kernel
theorem d_Desk_init_16 : decode prog_1_method_1_code 16 = .ok (.new 16, 3) := by decide +kernel
theorem d_Desk_init_19 : decode prog_1_method_1_code 19 = .ok (.dup, 1) := by decide +kernel
theorem d_Desk_init_20 : decode prog_1_method_1_code 20 = .ok (.invokespecial 18, 3) := by decide +kernel
theorem d_Desk_init_23 : decode prog_1_method_1_code 23 = .ok (.putfield 19, 3) := by decide +kernel
theorem d_Desk_init_26 : decode prog_1_method_1_code 26 = .ok (.aload_n 0, 1) := by decide +kernel
theorem d_Desk_init_27 : decode prog_1_method_1_code 27 = .ok (.new 23, 3) := by decide +kernel
theorem d_Desk_init_30 : decode prog_1_method_1_code 30 = .ok (.dup, 1) := by decide +kernel
theorem d_Desk_init_31 : decode prog_1_method_1_code 31 = .ok (.invokespecial 25, 3) := by decide +kernel
theorem d_Desk_init_34 : decode prog_1_method_1_code 34 = .ok (.putfield 26, 3) := by decide +kernel
theorem d_Desk_init_37 : decode prog_1_method_1_code 37 = .ok (.aload_n 0, 1) := by decide +kernel
theorem d_Desk_init_38 : decode prog_1_method_1_code 38 = .ok (.new 30, 3) := by decide +kernel
theorem d_Desk_init_41 : decode prog_1_method_1_code 41 = .ok (.dup, 1) := by decide +kernel
theorem d_Desk_init_42 : decode prog_1_method_1_code 42 = .ok (.invokespecial 32, 3) := by decide +kernel
theorem d_Desk_init_45 : decode prog_1_method_1_code 45 = .ok (.putfield 33, 3) := by decide +kernel
theorem d_Desk_init_48 : decode prog_1_method_1_code 48 = .ok (.return_, 1) := by decide +kernel
theorem d_Name_init_0 : decode prog_3_method_1_code 0 = .ok (.aload_n 0, 1) := by decide +kernel
theorem d_Name_init_1 : decode prog_3_method_1_code 1 = .ok (.invokespecial 3, 3) := by decide +kernel
theorem d_Name_init_4 : decode prog_3_method_1_code 4 = .ok (.return_, 1) := by decide +kernel
theorem d_Keys_init_0 : decode prog_2_method_1_code 0 = .ok (.aload_n 0, 1) := by decide +kernel
theorem d_Keys_init_1 : decode prog_2_method_1_code 1 = .ok (.invokespecial 3, 3) := by decide +kernel
theorem d_Keys_init_4 : decode prog_2_method_1_code 4 = .ok (.aload_n 0, 1) := by decide +kernel
theorem d_Keys_init_5 : decode prog_2_method_1_code 5 = .ok (.bipush 32, 2) := by decide +kernel
theorem d_Keys_init_7 : decode prog_2_method_1_code 7 = .ok (.newarray .long, 2) := by decide +kernel
theorem d_Keys_init_9 : decode prog_2_method_1_code 9 = .ok (.putfield 9, 3) := by decide +kernel
theorem d_Keys_init_12 : decode prog_2_method_1_code 12 = .ok (.aload_n 0, 1) := by decide +kernel
theorem d_Keys_init_13 : decode prog_2_method_1_code 13 = .ok (.bipush 8, 2) := by decide +kernel
theorem d_Keys_init_15 : decode prog_2_method_1_code 15 = .ok (.newarray .int, 2) := by decide +kernel
theorem d_Keys_init_17 : decode prog_2_method_1_code 17 = .ok (.putfield 15, 3) := by decide +kernel
theorem d_Keys_init_20 : decode prog_2_method_1_code 20 = .ok (.return_, 1) := by decide +kernel
theorem d_Tx_init_0 : decode prog_6_method_1_code 0 = .ok (.aload_n 0, 1) := by decide +kernel
theorem d_Tx_init_1 : decode prog_6_method_1_code 1 = .ok (.invokespecial 1, 3) := by decide +kernel
theorem d_Tx_init_4 : decode prog_6_method_1_code 4 = .ok (.aload_n 0, 1) := by decide +kernel
theorem d_Tx_init_5 : decode prog_6_method_1_code 5 = .ok (.new 7, 3) := by decide +kernel
theorem d_Tx_init_8 : decode prog_6_method_1_code 8 = .ok (.dup, 1) := by decide +kernel
theorem d_Tx_init_9 : decode prog_6_method_1_code 9 = .ok (.invokespecial 9, 3) := by decide +kernel
theorem d_Tx_init_12 : decode prog_6_method_1_code 12 = .ok (.putfield 10, 3) := by decide +kernel
theorem d_Tx_init_15 : decode prog_6_method_1_code 15 = .ok (.aload_n 0, 1) := by decide +kernel
theorem d_Tx_init_16 : decode prog_6_method_1_code 16 = .ok (.new 16, 3) := by decide +kernel
theorem d_Tx_init_19 : decode prog_6_method_1_code 19 = .ok (.dup, 1) := by decide +kernel
theorem d_Tx_init_20 : decode prog_6_method_1_code 20 = .ok (.invokespecial 18, 3) := by decide +kernel
theorem d_Tx_init_23 : decode prog_6_method_1_code 23 = .ok (.putfield 19, 3) := by decide +kernel
theorem d_Tx_init_26 : decode prog_6_method_1_code 26 = .ok (.return_, 1) := by decide +kernel
theorem d_Row_init_0 : decode prog_5_method_1_code 0 = .ok (.aload_n 0, 1) := by decide +kernel
theorem d_Row_init_1 : decode prog_5_method_1_code 1 = .ok (.invokespecial 3, 3) := by decide +kernel
theorem d_Row_init_4 : decode prog_5_method_1_code 4 = .ok (.aload_n 0, 1) := by decide +kernel
theorem d_Row_init_5 : decode prog_5_method_1_code 5 = .ok (.sipush 164, 3) := by decide +kernel
theorem d_Row_init_8 : decode prog_5_method_1_code 8 = .ok (.newarray .long, 2) := by decide +kernel
theorem d_Row_init_10 : decode prog_5_method_1_code 10 = .ok (.putfield 9, 3) := by decide +kernel
theorem d_Row_init_13 : decode prog_5_method_1_code 13 = .ok (.return_, 1) := by decide +kernel
theorem d_Desk_name_0 : decode prog_1_method_2_code 0 = .ok (.aload_n 0, 1) := by decide +kernel
theorem d_Desk_name_1 : decode prog_1_method_2_code 1 = .ok (.getfield 12, 3) := by decide +kernel
theorem d_Desk_name_4 : decode prog_1_method_2_code 4 = .ok (.lload_n 1, 1) := by decide +kernel
theorem d_Desk_name_5 : decode prog_1_method_2_code 5 = .ok (.lload_n 3, 1) := by decide +kernel
theorem d_Desk_name_6 : decode prog_1_method_2_code 6 = .ok (.lload 5, 2) := by decide +kernel
theorem d_Desk_name_8 : decode prog_1_method_2_code 8 = .ok (.lload 7, 2) := by decide +kernel
theorem d_Desk_name_10 : decode prog_1_method_2_code 10 = .ok (.invokevirtual 37, 3) := by decide +kernel
theorem d_Desk_name_13 : decode prog_1_method_2_code 13 = .ok (.return_, 1) := by decide +kernel
theorem d_Name_set_0 : decode prog_3_method_2_code 0 = .ok (.aload_n 0, 1) := by decide +kernel
theorem d_Name_set_1 : decode prog_3_method_2_code 1 = .ok (.lload_n 1, 1) := by decide +kernel
theorem d_Name_set_2 : decode prog_3_method_2_code 2 = .ok (.putfield 9, 3) := by decide +kernel
theorem d_Name_set_5 : decode prog_3_method_2_code 5 = .ok (.aload_n 0, 1) := by decide +kernel
theorem d_Name_set_6 : decode prog_3_method_2_code 6 = .ok (.lload_n 3, 1) := by decide +kernel
theorem d_Name_set_7 : decode prog_3_method_2_code 7 = .ok (.putfield 15, 3) := by decide +kernel
theorem d_Name_set_10 : decode prog_3_method_2_code 10 = .ok (.aload_n 0, 1) := by decide +kernel
theorem d_Name_set_11 : decode prog_3_method_2_code 11 = .ok (.lload 5, 2) := by decide +kernel
theorem d_Name_set_13 : decode prog_3_method_2_code 13 = .ok (.putfield 18, 3) := by decide +kernel
theorem d_Name_set_16 : decode prog_3_method_2_code 16 = .ok (.aload_n 0, 1) := by decide +kernel
theorem d_Name_set_17 : decode prog_3_method_2_code 17 = .ok (.lload 7, 2) := by decide +kernel
theorem d_Name_set_19 : decode prog_3_method_2_code 19 = .ok (.putfield 21, 3) := by decide +kernel
theorem d_Name_set_22 : decode prog_3_method_2_code 22 = .ok (.return_, 1) := by decide +kernel
theorem d_Desk_spend_0 : decode prog_1_method_3_code 0 = .ok (.aload_n 0, 1) := by decide +kernel
theorem d_Desk_spend_1 : decode prog_1_method_3_code 1 = .ok (.getfield 19, 3) := by decide +kernel
theorem d_Desk_spend_4 : decode prog_1_method_3_code 4 = .ok (.aload_n 0, 1) := by decide +kernel
theorem d_Desk_spend_5 : decode prog_1_method_3_code 5 = .ok (.getfield 12, 3) := by decide +kernel
theorem d_Desk_spend_8 : decode prog_1_method_3_code 8 = .ok (.iload_n 1, 1) := by decide +kernel
theorem d_Desk_spend_9 : decode prog_1_method_3_code 9 = .ok (.invokevirtual 41, 3) := by decide +kernel
theorem d_Desk_spend_12 : decode prog_1_method_3_code 12 = .ok (.ireturn, 1) := by decide +kernel
theorem d_Keys_add_0 : decode prog_2_method_3_code 0 = .ok (.aload_n 0, 1) := by decide +kernel
theorem d_Keys_add_1 : decode prog_2_method_3_code 1 = .ok (.getfield 19, 3) := by decide +kernel
theorem d_Keys_add_4 : decode prog_2_method_3_code 4 = .ok (.bipush 8, 2) := by decide +kernel
theorem d_Keys_add_6 : decode prog_2_method_3_code 6 = .ok (.if_icmp .ge 12, 3) := by decide +kernel
theorem d_Keys_add_9 : decode prog_2_method_3_code 9 = .ok (.aload_n 0, 1) := by decide +kernel
theorem d_Keys_add_10 : decode prog_2_method_3_code 10 = .ok (.aload_n 1, 1) := by decide +kernel
theorem d_Keys_add_11 : decode prog_2_method_3_code 11 = .ok (.iload_n 2, 1) := by decide +kernel
theorem d_Keys_add_12 : decode prog_2_method_3_code 12 = .ok (.invokevirtual 23, 3) := by decide +kernel
theorem d_Keys_add_15 : decode prog_2_method_3_code 15 = .ok (.ifCond .eq 5, 3) := by decide +kernel
theorem d_Keys_add_18 : decode prog_2_method_3_code 18 = .ok (.iconst 0, 1) := by decide +kernel
theorem d_Keys_add_19 : decode prog_2_method_3_code 19 = .ok (.ireturn, 1) := by decide +kernel
theorem d_Keys_add_20 : decode prog_2_method_3_code 20 = .ok (.aload_n 1, 1) := by decide +kernel
theorem d_Keys_add_21 : decode prog_2_method_3_code 21 = .ok (.aload_n 0, 1) := by decide +kernel
theorem d_Keys_add_22 : decode prog_2_method_3_code 22 = .ok (.getfield 9, 3) := by decide +kernel
theorem d_Keys_add_25 : decode prog_2_method_3_code 25 = .ok (.aload_n 0, 1) := by decide +kernel
theorem d_Keys_add_26 : decode prog_2_method_3_code 26 = .ok (.getfield 19, 3) := by decide +kernel
theorem d_Keys_add_29 : decode prog_2_method_3_code 29 = .ok (.iconst 4, 1) := by decide +kernel
theorem d_Keys_add_30 : decode prog_2_method_3_code 30 = .ok (.imul, 1) := by decide +kernel
theorem d_Keys_add_31 : decode prog_2_method_3_code 31 = .ok (.invokevirtual 27, 3) := by decide +kernel
theorem d_Keys_add_34 : decode prog_2_method_3_code 34 = .ok (.aload_n 0, 1) := by decide +kernel
theorem d_Keys_add_35 : decode prog_2_method_3_code 35 = .ok (.getfield 15, 3) := by decide +kernel
theorem d_Keys_add_38 : decode prog_2_method_3_code 38 = .ok (.aload_n 0, 1) := by decide +kernel
theorem d_Keys_add_39 : decode prog_2_method_3_code 39 = .ok (.getfield 19, 3) := by decide +kernel
theorem d_Keys_add_42 : decode prog_2_method_3_code 42 = .ok (.iload_n 2, 1) := by decide +kernel
theorem d_Keys_add_43 : decode prog_2_method_3_code 43 = .ok (.iastore, 1) := by decide +kernel
theorem d_Keys_add_44 : decode prog_2_method_3_code 44 = .ok (.aload_n 0, 1) := by decide +kernel
theorem d_Keys_add_45 : decode prog_2_method_3_code 45 = .ok (.dup, 1) := by decide +kernel
theorem d_Keys_add_46 : decode prog_2_method_3_code 46 = .ok (.getfield 19, 3) := by decide +kernel
theorem d_Keys_add_49 : decode prog_2_method_3_code 49 = .ok (.iconst 1, 1) := by decide +kernel
theorem d_Keys_add_50 : decode prog_2_method_3_code 50 = .ok (.iadd, 1) := by decide +kernel
theorem d_Keys_add_51 : decode prog_2_method_3_code 51 = .ok (.putfield 19, 3) := by decide +kernel
theorem d_Keys_add_54 : decode prog_2_method_3_code 54 = .ok (.iconst 1, 1) := by decide +kernel
theorem d_Keys_add_55 : decode prog_2_method_3_code 55 = .ok (.ireturn, 1) := by decide +kernel
theorem d_Keys_contains_0 : decode prog_2_method_5_code 0 = .ok (.iconst 0, 1) := by decide +kernel
theorem d_Keys_contains_1 : decode prog_2_method_5_code 1 = .ok (.istore_n 3, 1) := by decide +kernel
theorem d_Keys_contains_2 : decode prog_2_method_5_code 2 = .ok (.iload_n 3, 1) := by decide +kernel
theorem d_Keys_contains_3 : decode prog_2_method_5_code 3 = .ok (.aload_n 0, 1) := by decide +kernel
theorem d_Keys_contains_4 : decode prog_2_method_5_code 4 = .ok (.getfield 19, 3) := by decide +kernel
theorem d_Keys_contains_7 : decode prog_2_method_5_code 7 = .ok (.if_icmp .ge 30, 3) := by decide +kernel
theorem d_Keys_contains_10 : decode prog_2_method_5_code 10 = .ok (.aload_n 0, 1) := by decide +kernel
theorem d_Keys_contains_11 : decode prog_2_method_5_code 11 = .ok (.getfield 15, 3) := by decide +kernel
theorem d_Keys_contains_14 : decode prog_2_method_5_code 14 = .ok (.iload_n 3, 1) := by decide +kernel
theorem d_Keys_contains_15 : decode prog_2_method_5_code 15 = .ok (.iaload, 1) := by decide +kernel
theorem d_Keys_contains_16 : decode prog_2_method_5_code 16 = .ok (.iload_n 2, 1) := by decide +kernel
theorem d_Keys_contains_17 : decode prog_2_method_5_code 17 = .ok (.if_icmp .ne 14, 3) := by decide +kernel
theorem d_Keys_contains_20 : decode prog_2_method_5_code 20 = .ok (.aload_n 0, 1) := by decide +kernel
theorem d_Keys_contains_21 : decode prog_2_method_5_code 21 = .ok (.iload_n 3, 1) := by decide +kernel
theorem d_Keys_contains_22 : decode prog_2_method_5_code 22 = .ok (.aload_n 1, 1) := by decide +kernel
theorem d_Keys_contains_23 : decode prog_2_method_5_code 23 = .ok (.invokevirtual 39, 3) := by decide +kernel
theorem d_Keys_contains_26 : decode prog_2_method_5_code 26 = .ok (.ifCond .eq 5, 3) := by decide +kernel
theorem d_Keys_contains_29 : decode prog_2_method_5_code 29 = .ok (.iconst 1, 1) := by decide +kernel
theorem d_Keys_contains_30 : decode prog_2_method_5_code 30 = .ok (.ireturn, 1) := by decide +kernel
theorem d_Keys_contains_31 : decode prog_2_method_5_code 31 = .ok (.iinc 3 1, 3) := by decide +kernel
theorem d_Keys_contains_34 : decode prog_2_method_5_code 34 = .ok (.goto (-32), 3) := by decide +kernel
theorem d_Keys_contains_37 : decode prog_2_method_5_code 37 = .ok (.iconst 0, 1) := by decide +kernel
theorem d_Keys_contains_38 : decode prog_2_method_5_code 38 = .ok (.ireturn, 1) := by decide +kernel
theorem d_Keys_isOf_0 : decode prog_2_method_9_code 0 = .ok (.iload_n 1, 1) := by decide +kernel
theorem d_Keys_isOf_1 : decode prog_2_method_9_code 1 = .ok (.iconst 4, 1) := by decide +kernel
theorem d_Keys_isOf_2 : decode prog_2_method_9_code 2 = .ok (.imul, 1) := by decide +kernel
theorem d_Keys_isOf_3 : decode prog_2_method_9_code 3 = .ok (.istore_n 3, 1) := by decide +kernel
theorem d_Keys_isOf_4 : decode prog_2_method_9_code 4 = .ok (.aload_n 0, 1) := by decide +kernel
theorem d_Keys_isOf_5 : decode prog_2_method_9_code 5 = .ok (.getfield 9, 3) := by decide +kernel
theorem d_Keys_isOf_8 : decode prog_2_method_9_code 8 = .ok (.iload_n 3, 1) := by decide +kernel
theorem d_Keys_isOf_9 : decode prog_2_method_9_code 9 = .ok (.laload, 1) := by decide +kernel
theorem d_Keys_isOf_10 : decode prog_2_method_9_code 10 = .ok (.aload_n 2, 1) := by decide +kernel
theorem d_Keys_isOf_11 : decode prog_2_method_9_code 11 = .ok (.getfield 47, 3) := by decide +kernel
theorem d_Keys_isOf_14 : decode prog_2_method_9_code 14 = .ok (.lcmp, 1) := by decide +kernel
theorem d_Keys_isOf_15 : decode prog_2_method_9_code 15 = .ok (.ifCond .ne 55, 3) := by decide +kernel
theorem d_Keys_isOf_18 : decode prog_2_method_9_code 18 = .ok (.aload_n 0, 1) := by decide +kernel
theorem d_Keys_isOf_19 : decode prog_2_method_9_code 19 = .ok (.getfield 9, 3) := by decide +kernel
theorem d_Keys_isOf_22 : decode prog_2_method_9_code 22 = .ok (.iload_n 3, 1) := by decide +kernel
theorem d_Keys_isOf_23 : decode prog_2_method_9_code 23 = .ok (.iconst 1, 1) := by decide +kernel
theorem d_Keys_isOf_24 : decode prog_2_method_9_code 24 = .ok (.iadd, 1) := by decide +kernel
theorem d_Keys_isOf_25 : decode prog_2_method_9_code 25 = .ok (.laload, 1) := by decide +kernel
theorem d_Keys_isOf_26 : decode prog_2_method_9_code 26 = .ok (.aload_n 2, 1) := by decide +kernel
theorem d_Keys_isOf_27 : decode prog_2_method_9_code 27 = .ok (.getfield 51, 3) := by decide +kernel
theorem d_Keys_isOf_30 : decode prog_2_method_9_code 30 = .ok (.lcmp, 1) := by decide +kernel
theorem d_Keys_isOf_31 : decode prog_2_method_9_code 31 = .ok (.ifCond .ne 39, 3) := by decide +kernel
theorem d_Keys_isOf_34 : decode prog_2_method_9_code 34 = .ok (.aload_n 0, 1) := by decide +kernel
theorem d_Keys_isOf_35 : decode prog_2_method_9_code 35 = .ok (.getfield 9, 3) := by decide +kernel
theorem d_Keys_isOf_38 : decode prog_2_method_9_code 38 = .ok (.iload_n 3, 1) := by decide +kernel
theorem d_Keys_isOf_39 : decode prog_2_method_9_code 39 = .ok (.iconst 2, 1) := by decide +kernel
theorem d_Keys_isOf_40 : decode prog_2_method_9_code 40 = .ok (.iadd, 1) := by decide +kernel
theorem d_Keys_isOf_41 : decode prog_2_method_9_code 41 = .ok (.laload, 1) := by decide +kernel
theorem d_Keys_isOf_42 : decode prog_2_method_9_code 42 = .ok (.aload_n 2, 1) := by decide +kernel
theorem d_Keys_isOf_43 : decode prog_2_method_9_code 43 = .ok (.getfield 54, 3) := by decide +kernel
theorem d_Keys_isOf_46 : decode prog_2_method_9_code 46 = .ok (.lcmp, 1) := by decide +kernel
theorem d_Keys_isOf_47 : decode prog_2_method_9_code 47 = .ok (.ifCond .ne 23, 3) := by decide +kernel
theorem d_Keys_isOf_50 : decode prog_2_method_9_code 50 = .ok (.aload_n 0, 1) := by decide +kernel
theorem d_Keys_isOf_51 : decode prog_2_method_9_code 51 = .ok (.getfield 9, 3) := by decide +kernel
theorem d_Keys_isOf_54 : decode prog_2_method_9_code 54 = .ok (.iload_n 3, 1) := by decide +kernel
theorem d_Keys_isOf_55 : decode prog_2_method_9_code 55 = .ok (.iconst 3, 1) := by decide +kernel
theorem d_Keys_isOf_56 : decode prog_2_method_9_code 56 = .ok (.iadd, 1) := by decide +kernel
theorem d_Keys_isOf_57 : decode prog_2_method_9_code 57 = .ok (.laload, 1) := by decide +kernel
theorem d_Keys_isOf_58 : decode prog_2_method_9_code 58 = .ok (.aload_n 2, 1) := by decide +kernel
theorem d_Keys_isOf_59 : decode prog_2_method_9_code 59 = .ok (.getfield 57, 3) := by decide +kernel
theorem d_Keys_isOf_62 : decode prog_2_method_9_code 62 = .ok (.lcmp, 1) := by decide +kernel
theorem d_Keys_isOf_63 : decode prog_2_method_9_code 63 = .ok (.ifCond .ne 7, 3) := by decide +kernel
theorem d_Keys_isOf_66 : decode prog_2_method_9_code 66 = .ok (.iconst 1, 1) := by decide +kernel
theorem d_Keys_isOf_67 : decode prog_2_method_9_code 67 = .ok (.goto 4, 3) := by decide +kernel
theorem d_Keys_isOf_70 : decode prog_2_method_9_code 70 = .ok (.iconst 0, 1) := by decide +kernel
theorem d_Keys_isOf_71 : decode prog_2_method_9_code 71 = .ok (.ireturn, 1) := by decide +kernel
theorem d_Name_write_0 : decode prog_3_method_3_code 0 = .ok (.iload_n 2, 1) := by decide +kernel
theorem d_Name_write_1 : decode prog_3_method_3_code 1 = .ok (.ifCond .lt 11, 3) := by decide +kernel
theorem d_Name_write_4 : decode prog_3_method_3_code 4 = .ok (.iload_n 2, 1) := by decide +kernel
theorem d_Name_write_5 : decode prog_3_method_3_code 5 = .ok (.aload_n 1, 1) := by decide +kernel
theorem d_Name_write_6 : decode prog_3_method_3_code 6 = .ok (.arraylength, 1) := by decide +kernel
theorem d_Name_write_7 : decode prog_3_method_3_code 7 = .ok (.iconst 4, 1) := by decide +kernel
theorem d_Name_write_8 : decode prog_3_method_3_code 8 = .ok (.isub, 1) := by decide +kernel
theorem d_Name_write_9 : decode prog_3_method_3_code 9 = .ok (.if_icmp .le 4, 3) := by decide +kernel
theorem d_Name_write_12 : decode prog_3_method_3_code 12 = .ok (.return_, 1) := by decide +kernel
theorem d_Name_write_13 : decode prog_3_method_3_code 13 = .ok (.aload_n 1, 1) := by decide +kernel
theorem d_Name_write_14 : decode prog_3_method_3_code 14 = .ok (.iload_n 2, 1) := by decide +kernel
theorem d_Name_write_15 : decode prog_3_method_3_code 15 = .ok (.aload_n 0, 1) := by decide +kernel
theorem d_Name_write_16 : decode prog_3_method_3_code 16 = .ok (.getfield 9, 3) := by decide +kernel
theorem d_Name_write_19 : decode prog_3_method_3_code 19 = .ok (.lastore, 1) := by decide +kernel
theorem d_Name_write_20 : decode prog_3_method_3_code 20 = .ok (.aload_n 1, 1) := by decide +kernel
theorem d_Name_write_21 : decode prog_3_method_3_code 21 = .ok (.iload_n 2, 1) := by decide +kernel
theorem d_Name_write_22 : decode prog_3_method_3_code 22 = .ok (.iconst 1, 1) := by decide +kernel
theorem d_Name_write_23 : decode prog_3_method_3_code 23 = .ok (.iadd, 1) := by decide +kernel
theorem d_Name_write_24 : decode prog_3_method_3_code 24 = .ok (.aload_n 0, 1) := by decide +kernel
theorem d_Name_write_25 : decode prog_3_method_3_code 25 = .ok (.getfield 15, 3) := by decide +kernel
theorem d_Name_write_28 : decode prog_3_method_3_code 28 = .ok (.lastore, 1) := by decide +kernel
theorem d_Name_write_29 : decode prog_3_method_3_code 29 = .ok (.aload_n 1, 1) := by decide +kernel
theorem d_Name_write_30 : decode prog_3_method_3_code 30 = .ok (.iload_n 2, 1) := by decide +kernel
theorem d_Name_write_31 : decode prog_3_method_3_code 31 = .ok (.iconst 2, 1) := by decide +kernel
theorem d_Name_write_32 : decode prog_3_method_3_code 32 = .ok (.iadd, 1) := by decide +kernel
theorem d_Name_write_33 : decode prog_3_method_3_code 33 = .ok (.aload_n 0, 1) := by decide +kernel
theorem d_Name_write_34 : decode prog_3_method_3_code 34 = .ok (.getfield 18, 3) := by decide +kernel
theorem d_Name_write_37 : decode prog_3_method_3_code 37 = .ok (.lastore, 1) := by decide +kernel
theorem d_Name_write_38 : decode prog_3_method_3_code 38 = .ok (.aload_n 1, 1) := by decide +kernel
theorem d_Name_write_39 : decode prog_3_method_3_code 39 = .ok (.iload_n 2, 1) := by decide +kernel
theorem d_Name_write_40 : decode prog_3_method_3_code 40 = .ok (.iconst 3, 1) := by decide +kernel
theorem d_Name_write_41 : decode prog_3_method_3_code 41 = .ok (.iadd, 1) := by decide +kernel
theorem d_Name_write_42 : decode prog_3_method_3_code 42 = .ok (.aload_n 0, 1) := by decide +kernel
theorem d_Name_write_43 : decode prog_3_method_3_code 43 = .ok (.getfield 21, 3) := by decide +kernel
theorem d_Name_write_46 : decode prog_3_method_3_code 46 = .ok (.lastore, 1) := by decide +kernel
theorem d_Name_write_47 : decode prog_3_method_3_code 47 = .ok (.return_, 1) := by decide +kernel
theorem d_Desk_enter_0 : decode prog_1_method_4_code 0 = .ok (.aload_n 0, 1) := by decide +kernel
theorem d_Desk_enter_1 : decode prog_1_method_4_code 1 = .ok (.getfield 19, 3) := by decide +kernel
theorem d_Desk_enter_4 : decode prog_1_method_4_code 4 = .ok (.getfield 45, 3) := by decide +kernel
theorem d_Desk_enter_7 : decode prog_1_method_4_code 7 = .ok (.ifCond .eq 13, 3) := by decide +kernel
theorem d_Desk_enter_10 : decode prog_1_method_4_code 10 = .ok (.lload_n 1, 1) := by decide +kernel
theorem d_Desk_enter_11 : decode prog_1_method_4_code 11 = .ok (.iload_n 3, 1) := by decide +kernel
theorem d_Desk_enter_12 : decode prog_1_method_4_code 12 = .ok (.iload 4, 2) := by decide +kernel
theorem d_Desk_enter_14 : decode prog_1_method_4_code 14 = .ok (.invokestatic 49, 3) := by decide +kernel
theorem d_Desk_enter_17 : decode prog_1_method_4_code 17 = .ok (.ifCond .ne 5, 3) := by decide +kernel
theorem d_Desk_enter_20 : decode prog_1_method_4_code 20 = .ok (.iconst (-1), 1) := by decide +kernel
theorem d_Desk_enter_21 : decode prog_1_method_4_code 21 = .ok (.ireturn, 1) := by decide +kernel
theorem d_Desk_enter_22 : decode prog_1_method_4_code 22 = .ok (.aload_n 0, 1) := by decide +kernel
theorem d_Desk_enter_23 : decode prog_1_method_4_code 23 = .ok (.getfield 26, 3) := by decide +kernel
theorem d_Desk_enter_26 : decode prog_1_method_4_code 26 = .ok (.aload_n 0, 1) := by decide +kernel
theorem d_Desk_enter_27 : decode prog_1_method_4_code 27 = .ok (.getfield 12, 3) := by decide +kernel
theorem d_Desk_enter_30 : decode prog_1_method_4_code 30 = .ok (.aload_n 0, 1) := by decide +kernel
theorem d_Desk_enter_31 : decode prog_1_method_4_code 31 = .ok (.getfield 19, 3) := by decide +kernel
theorem d_Desk_enter_34 : decode prog_1_method_4_code 34 = .ok (.iload 4, 2) := by decide +kernel
theorem d_Desk_enter_36 : decode prog_1_method_4_code 36 = .ok (.invokevirtual 53, 3) := by decide +kernel
theorem d_Desk_enter_39 : decode prog_1_method_4_code 39 = .ok (.istore 5, 2) := by decide +kernel
theorem d_Desk_enter_41 : decode prog_1_method_4_code 41 = .ok (.iload 5, 2) := by decide +kernel
theorem d_Desk_enter_43 : decode prog_1_method_4_code 43 = .ok (.ifCond .ne 13, 3) := by decide +kernel
theorem d_Desk_enter_46 : decode prog_1_method_4_code 46 = .ok (.aload_n 0, 1) := by decide +kernel
theorem d_Desk_enter_47 : decode prog_1_method_4_code 47 = .ok (.lload_n 1, 1) := by decide +kernel
theorem d_Desk_enter_48 : decode prog_1_method_4_code 48 = .ok (.iload_n 3, 1) := by decide +kernel
theorem d_Desk_enter_49 : decode prog_1_method_4_code 49 = .ok (.iload 4, 2) := by decide +kernel
theorem d_Desk_enter_51 : decode prog_1_method_4_code 51 = .ok (.invokevirtual 57, 3) := by decide +kernel
theorem d_Desk_enter_54 : decode prog_1_method_4_code 54 = .ok (.istore 5, 2) := by decide +kernel
theorem d_Desk_enter_56 : decode prog_1_method_4_code 56 = .ok (.aload_n 0, 1) := by decide +kernel
theorem d_Desk_enter_57 : decode prog_1_method_4_code 57 = .ok (.getfield 19, 3) := by decide +kernel
theorem d_Desk_enter_60 : decode prog_1_method_4_code 60 = .ok (.invokevirtual 61, 3) := by decide +kernel
theorem d_Desk_enter_63 : decode prog_1_method_4_code 63 = .ok (.iload 5, 2) := by decide +kernel
theorem d_Desk_enter_65 : decode prog_1_method_4_code 65 = .ok (.ireturn, 1) := by decide +kernel
theorem d_Desk_isTransaction_0 : decode prog_1_method_13_code 0 = .ok (.lload_n 0, 1) := by decide +kernel
theorem d_Desk_isTransaction_1 : decode prog_1_method_13_code 1 = .ok (.lconst 0, 1) := by decide +kernel
theorem d_Desk_isTransaction_2 : decode prog_1_method_13_code 2 = .ok (.lcmp, 1) := by decide +kernel
theorem d_Desk_isTransaction_3 : decode prog_1_method_13_code 3 = .ok (.ifCond .lt 37, 3) := by decide +kernel
theorem d_Desk_isTransaction_6 : decode prog_1_method_13_code 6 = .ok (.lload_n 0, 1) := by decide +kernel
theorem d_Desk_isTransaction_7 : decode prog_1_method_13_code 7 = .ok (.ldc2_w 158, 3) := by decide +kernel
theorem d_Desk_isTransaction_10 : decode prog_1_method_13_code 10 = .ok (.lcmp, 1) := by decide +kernel
theorem d_Desk_isTransaction_11 : decode prog_1_method_13_code 11 = .ok (.ifCond .gt 29, 3) := by decide +kernel
theorem d_Desk_isTransaction_14 : decode prog_1_method_13_code 14 = .ok (.iload_n 2, 1) := by decide +kernel
theorem d_Desk_isTransaction_15 : decode prog_1_method_13_code 15 = .ok (.iconst 1, 1) := by decide +kernel
theorem d_Desk_isTransaction_16 : decode prog_1_method_13_code 16 = .ok (.if_icmp .lt 24, 3) := by decide +kernel
theorem d_Desk_isTransaction_19 : decode prog_1_method_13_code 19 = .ok (.iload_n 2, 1) := by decide +kernel
theorem d_Desk_isTransaction_20 : decode prog_1_method_13_code 20 = .ok (.sipush 2000, 3) := by decide +kernel
theorem d_Desk_isTransaction_23 : decode prog_1_method_13_code 23 = .ok (.if_icmp .gt 17, 3) := by decide +kernel
theorem d_Desk_isTransaction_26 : decode prog_1_method_13_code 26 = .ok (.iload_n 3, 1) := by decide +kernel
theorem d_Desk_isTransaction_27 : decode prog_1_method_13_code 27 = .ok (.ifCond .lt 13, 3) := by decide +kernel
theorem d_Desk_isTransaction_30 : decode prog_1_method_13_code 30 = .ok (.iload_n 3, 1) := by decide +kernel
theorem d_Desk_isTransaction_31 : decode prog_1_method_13_code 31 = .ok (.bipush 8, 2) := by decide +kernel
theorem d_Desk_isTransaction_33 : decode prog_1_method_13_code 33 = .ok (.if_icmp .gt 7, 3) := by decide +kernel
theorem d_Desk_isTransaction_36 : decode prog_1_method_13_code 36 = .ok (.iconst 1, 1) := by decide +kernel
theorem d_Desk_isTransaction_37 : decode prog_1_method_13_code 37 = .ok (.goto 4, 3) := by decide +kernel
theorem d_Desk_isTransaction_40 : decode prog_1_method_13_code 40 = .ok (.iconst 0, 1) := by decide +kernel
theorem d_Desk_isTransaction_41 : decode prog_1_method_13_code 41 = .ok (.ireturn, 1) := by decide +kernel
theorem d_Desk_has_0 : decode prog_1_method_17_code 0 = .ok (.lload_n 0, 1) := by decide +kernel
theorem d_Desk_has_1 : decode prog_1_method_17_code 1 = .ok (.iload_n 2, 1) := by decide +kernel
theorem d_Desk_has_2 : decode prog_1_method_17_code 2 = .ok (.invokestatic 68, 3) := by decide +kernel
theorem d_Desk_has_5 : decode prog_1_method_17_code 5 = .ok (.land, 1) := by decide +kernel
theorem d_Desk_has_6 : decode prog_1_method_17_code 6 = .ok (.lconst 0, 1) := by decide +kernel
theorem d_Desk_has_7 : decode prog_1_method_17_code 7 = .ok (.lcmp, 1) := by decide +kernel
theorem d_Desk_has_8 : decode prog_1_method_17_code 8 = .ok (.ifCond .eq 7, 3) := by decide +kernel
theorem d_Desk_has_11 : decode prog_1_method_17_code 11 = .ok (.iconst 1, 1) := by decide +kernel
theorem d_Desk_has_12 : decode prog_1_method_17_code 12 = .ok (.goto 4, 3) := by decide +kernel
theorem d_Desk_has_15 : decode prog_1_method_17_code 15 = .ok (.iconst 0, 1) := by decide +kernel
theorem d_Desk_has_16 : decode prog_1_method_17_code 16 = .ok (.ireturn, 1) := by decide +kernel
theorem d_Desk_bit_0 : decode prog_1_method_16_code 0 = .ok (.lconst 1, 1) := by decide +kernel
theorem d_Desk_bit_1 : decode prog_1_method_16_code 1 = .ok (.iload_n 0, 1) := by decide +kernel
theorem d_Desk_bit_2 : decode prog_1_method_16_code 2 = .ok (.lshl, 1) := by decide +kernel
theorem d_Desk_bit_3 : decode prog_1_method_16_code 3 = .ok (.lreturn, 1) := by decide +kernel
theorem d_Name_same_0 : decode prog_3_method_4_code 0 = .ok (.aload_n 0, 1) := by decide +kernel
theorem d_Name_same_1 : decode prog_3_method_4_code 1 = .ok (.getfield 9, 3) := by decide +kernel
theorem d_Name_same_4 : decode prog_3_method_4_code 4 = .ok (.aload_n 1, 1) := by decide +kernel
theorem d_Name_same_5 : decode prog_3_method_4_code 5 = .ok (.getfield 9, 3) := by decide +kernel
theorem d_Name_same_8 : decode prog_3_method_4_code 8 = .ok (.lcmp, 1) := by decide +kernel
theorem d_Name_same_9 : decode prog_3_method_4_code 9 = .ok (.ifCond .ne 43, 3) := by decide +kernel
theorem d_Name_same_12 : decode prog_3_method_4_code 12 = .ok (.aload_n 0, 1) := by decide +kernel
theorem d_Name_same_13 : decode prog_3_method_4_code 13 = .ok (.getfield 15, 3) := by decide +kernel
theorem d_Name_same_16 : decode prog_3_method_4_code 16 = .ok (.aload_n 1, 1) := by decide +kernel
theorem d_Name_same_17 : decode prog_3_method_4_code 17 = .ok (.getfield 15, 3) := by decide +kernel
theorem d_Name_same_20 : decode prog_3_method_4_code 20 = .ok (.lcmp, 1) := by decide +kernel
theorem d_Name_same_21 : decode prog_3_method_4_code 21 = .ok (.ifCond .ne 31, 3) := by decide +kernel
theorem d_Name_same_24 : decode prog_3_method_4_code 24 = .ok (.aload_n 0, 1) := by decide +kernel
theorem d_Name_same_25 : decode prog_3_method_4_code 25 = .ok (.getfield 18, 3) := by decide +kernel
theorem d_Name_same_28 : decode prog_3_method_4_code 28 = .ok (.aload_n 1, 1) := by decide +kernel
theorem d_Name_same_29 : decode prog_3_method_4_code 29 = .ok (.getfield 18, 3) := by decide +kernel
theorem d_Name_same_32 : decode prog_3_method_4_code 32 = .ok (.lcmp, 1) := by decide +kernel
theorem d_Name_same_33 : decode prog_3_method_4_code 33 = .ok (.ifCond .ne 19, 3) := by decide +kernel
theorem d_Name_same_36 : decode prog_3_method_4_code 36 = .ok (.aload_n 0, 1) := by decide +kernel
theorem d_Name_same_37 : decode prog_3_method_4_code 37 = .ok (.getfield 21, 3) := by decide +kernel
theorem d_Name_same_40 : decode prog_3_method_4_code 40 = .ok (.aload_n 1, 1) := by decide +kernel
theorem d_Name_same_41 : decode prog_3_method_4_code 41 = .ok (.getfield 21, 3) := by decide +kernel
theorem d_Name_same_44 : decode prog_3_method_4_code 44 = .ok (.lcmp, 1) := by decide +kernel
theorem d_Name_same_45 : decode prog_3_method_4_code 45 = .ok (.ifCond .ne 7, 3) := by decide +kernel
theorem d_Name_same_48 : decode prog_3_method_4_code 48 = .ok (.iconst 1, 1) := by decide +kernel
theorem d_Name_same_49 : decode prog_3_method_4_code 49 = .ok (.goto 4, 3) := by decide +kernel
theorem d_Name_same_52 : decode prog_3_method_4_code 52 = .ok (.iconst 0, 1) := by decide +kernel
theorem d_Name_same_53 : decode prog_3_method_4_code 53 = .ok (.ireturn, 1) := by decide +kernel
theorem d_Keys_containsOneOf_0 : decode prog_2_method_6_code 0 = .ok (.iconst 0, 1) := by decide +kernel
theorem d_Keys_containsOneOf_1 : decode prog_2_method_6_code 1 = .ok (.istore_n 2, 1) := by decide +kernel
theorem d_Keys_containsOneOf_2 : decode prog_2_method_6_code 2 = .ok (.iload_n 2, 1) := by decide +kernel
theorem d_Keys_containsOneOf_3 : decode prog_2_method_6_code 3 = .ok (.aload_n 0, 1) := by decide +kernel
theorem d_Keys_containsOneOf_4 : decode prog_2_method_6_code 4 = .ok (.getfield 19, 3) := by decide +kernel
theorem d_Keys_containsOneOf_7 : decode prog_2_method_6_code 7 = .ok (.if_icmp .ge 52, 3) := by decide +kernel
theorem d_Keys_containsOneOf_10 : decode prog_2_method_6_code 10 = .ok (.iconst 0, 1) := by decide +kernel
theorem d_Keys_containsOneOf_11 : decode prog_2_method_6_code 11 = .ok (.istore_n 3, 1) := by decide +kernel
theorem d_Keys_containsOneOf_12 : decode prog_2_method_6_code 12 = .ok (.iload_n 3, 1) := by decide +kernel
theorem d_Keys_containsOneOf_13 : decode prog_2_method_6_code 13 = .ok (.aload_n 1, 1) := by decide +kernel
theorem d_Keys_containsOneOf_14 : decode prog_2_method_6_code 14 = .ok (.getfield 19, 3) := by decide +kernel
theorem d_Keys_containsOneOf_17 : decode prog_2_method_6_code 17 = .ok (.if_icmp .ge 36, 3) := by decide +kernel
theorem d_Keys_containsOneOf_20 : decode prog_2_method_6_code 20 = .ok (.aload_n 0, 1) := by decide +kernel
theorem d_Keys_containsOneOf_21 : decode prog_2_method_6_code 21 = .ok (.getfield 15, 3) := by decide +kernel
theorem d_Keys_containsOneOf_24 : decode prog_2_method_6_code 24 = .ok (.iload_n 2, 1) := by decide +kernel
theorem d_Keys_containsOneOf_25 : decode prog_2_method_6_code 25 = .ok (.iaload, 1) := by decide +kernel
theorem d_Keys_containsOneOf_26 : decode prog_2_method_6_code 26 = .ok (.aload_n 1, 1) := by decide +kernel
theorem d_Keys_containsOneOf_27 : decode prog_2_method_6_code 27 = .ok (.getfield 15, 3) := by decide +kernel
theorem d_Keys_containsOneOf_30 : decode prog_2_method_6_code 30 = .ok (.iload_n 3, 1) := by decide +kernel
theorem d_Keys_containsOneOf_31 : decode prog_2_method_6_code 31 = .ok (.iaload, 1) := by decide +kernel
theorem d_Keys_containsOneOf_32 : decode prog_2_method_6_code 32 = .ok (.if_icmp .ne 15, 3) := by decide +kernel
theorem d_Keys_containsOneOf_35 : decode prog_2_method_6_code 35 = .ok (.aload_n 0, 1) := by decide +kernel
theorem d_Keys_containsOneOf_36 : decode prog_2_method_6_code 36 = .ok (.iload_n 2, 1) := by decide +kernel
theorem d_Keys_containsOneOf_37 : decode prog_2_method_6_code 37 = .ok (.aload_n 1, 1) := by decide +kernel
theorem d_Keys_containsOneOf_38 : decode prog_2_method_6_code 38 = .ok (.iload_n 3, 1) := by decide +kernel
theorem d_Keys_containsOneOf_39 : decode prog_2_method_6_code 39 = .ok (.invokevirtual 43, 3) := by decide +kernel
theorem d_Keys_containsOneOf_42 : decode prog_2_method_6_code 42 = .ok (.ifCond .eq 5, 3) := by decide +kernel
theorem d_Keys_containsOneOf_45 : decode prog_2_method_6_code 45 = .ok (.iconst 1, 1) := by decide +kernel
theorem d_Keys_containsOneOf_46 : decode prog_2_method_6_code 46 = .ok (.ireturn, 1) := by decide +kernel
theorem d_Keys_containsOneOf_47 : decode prog_2_method_6_code 47 = .ok (.iinc 3 1, 3) := by decide +kernel
theorem d_Keys_containsOneOf_50 : decode prog_2_method_6_code 50 = .ok (.goto (-38), 3) := by decide +kernel
theorem d_Keys_containsOneOf_53 : decode prog_2_method_6_code 53 = .ok (.iinc 2 1, 3) := by decide +kernel
theorem d_Keys_containsOneOf_56 : decode prog_2_method_6_code 56 = .ok (.goto (-54), 3) := by decide +kernel
theorem d_Keys_containsOneOf_59 : decode prog_2_method_6_code 59 = .ok (.iconst 0, 1) := by decide +kernel
theorem d_Keys_containsOneOf_60 : decode prog_2_method_6_code 60 = .ok (.ireturn, 1) := by decide +kernel
theorem d_Keys_sameName_0 : decode prog_2_method_10_code 0 = .ok (.iconst 0, 1) := by decide +kernel
theorem d_Keys_sameName_1 : decode prog_2_method_10_code 1 = .ok (.istore 4, 2) := by decide +kernel
theorem d_Keys_sameName_3 : decode prog_2_method_10_code 3 = .ok (.iload 4, 2) := by decide +kernel
theorem d_Keys_sameName_5 : decode prog_2_method_10_code 5 = .ok (.iconst 4, 1) := by decide +kernel
theorem d_Keys_sameName_6 : decode prog_2_method_10_code 6 = .ok (.if_icmp .ge 37, 3) := by decide +kernel
theorem d_Keys_sameName_9 : decode prog_2_method_10_code 9 = .ok (.aload_n 0, 1) := by decide +kernel
theorem d_Keys_sameName_10 : decode prog_2_method_10_code 10 = .ok (.getfield 9, 3) := by decide +kernel
theorem d_Keys_sameName_13 : decode prog_2_method_10_code 13 = .ok (.iload_n 1, 1) := by decide +kernel
theorem d_Keys_sameName_14 : decode prog_2_method_10_code 14 = .ok (.iconst 4, 1) := by decide +kernel
theorem d_Keys_sameName_15 : decode prog_2_method_10_code 15 = .ok (.imul, 1) := by decide +kernel
theorem d_Keys_sameName_16 : decode prog_2_method_10_code 16 = .ok (.iload 4, 2) := by decide +kernel
theorem d_Keys_sameName_18 : decode prog_2_method_10_code 18 = .ok (.iadd, 1) := by decide +kernel
theorem d_Keys_sameName_19 : decode prog_2_method_10_code 19 = .ok (.laload, 1) := by decide +kernel
theorem d_Keys_sameName_20 : decode prog_2_method_10_code 20 = .ok (.aload_n 2, 1) := by decide +kernel
theorem d_Keys_sameName_21 : decode prog_2_method_10_code 21 = .ok (.getfield 9, 3) := by decide +kernel
theorem d_Keys_sameName_24 : decode prog_2_method_10_code 24 = .ok (.iload_n 3, 1) := by decide +kernel
theorem d_Keys_sameName_25 : decode prog_2_method_10_code 25 = .ok (.iconst 4, 1) := by decide +kernel
theorem d_Keys_sameName_26 : decode prog_2_method_10_code 26 = .ok (.imul, 1) := by decide +kernel
theorem d_Keys_sameName_27 : decode prog_2_method_10_code 27 = .ok (.iload 4, 2) := by decide +kernel
theorem d_Keys_sameName_29 : decode prog_2_method_10_code 29 = .ok (.iadd, 1) := by decide +kernel
theorem d_Keys_sameName_30 : decode prog_2_method_10_code 30 = .ok (.laload, 1) := by decide +kernel
theorem d_Keys_sameName_31 : decode prog_2_method_10_code 31 = .ok (.lcmp, 1) := by decide +kernel
theorem d_Keys_sameName_32 : decode prog_2_method_10_code 32 = .ok (.ifCond .eq 5, 3) := by decide +kernel
theorem d_Keys_sameName_35 : decode prog_2_method_10_code 35 = .ok (.iconst 0, 1) := by decide +kernel
theorem d_Keys_sameName_36 : decode prog_2_method_10_code 36 = .ok (.ireturn, 1) := by decide +kernel
theorem d_Keys_sameName_37 : decode prog_2_method_10_code 37 = .ok (.iinc 4 1, 3) := by decide +kernel
theorem d_Keys_sameName_40 : decode prog_2_method_10_code 40 = .ok (.goto (-37), 3) := by decide +kernel
theorem d_Keys_sameName_43 : decode prog_2_method_10_code 43 = .ok (.iconst 1, 1) := by decide +kernel
theorem d_Keys_sameName_44 : decode prog_2_method_10_code 44 = .ok (.ireturn, 1) := by decide +kernel
theorem d_Keys_misses_0 : decode prog_2_method_8_code 0 = .ok (.iconst 0, 1) := by decide +kernel
theorem d_Keys_misses_1 : decode prog_2_method_8_code 1 = .ok (.istore_n 3, 1) := by decide +kernel
theorem d_Keys_misses_2 : decode prog_2_method_8_code 2 = .ok (.iload_n 3, 1) := by decide +kernel
theorem d_Keys_misses_3 : decode prog_2_method_8_code 3 = .ok (.aload_n 0, 1) := by decide +kernel
theorem d_Keys_misses_4 : decode prog_2_method_8_code 4 = .ok (.getfield 19, 3) := by decide +kernel
theorem d_Keys_misses_7 : decode prog_2_method_8_code 7 = .ok (.if_icmp .ge 39, 3) := by decide +kernel
theorem d_Keys_misses_10 : decode prog_2_method_8_code 10 = .ok (.aload_n 0, 1) := by decide +kernel
theorem d_Keys_misses_11 : decode prog_2_method_8_code 11 = .ok (.getfield 15, 3) := by decide +kernel
theorem d_Keys_misses_14 : decode prog_2_method_8_code 14 = .ok (.iload_n 3, 1) := by decide +kernel
theorem d_Keys_misses_15 : decode prog_2_method_8_code 15 = .ok (.iaload, 1) := by decide +kernel
theorem d_Keys_misses_16 : decode prog_2_method_8_code 16 = .ok (.ifCond .lt 13, 3) := by decide +kernel
theorem d_Keys_misses_19 : decode prog_2_method_8_code 19 = .ok (.aload_n 0, 1) := by decide +kernel
theorem d_Keys_misses_20 : decode prog_2_method_8_code 20 = .ok (.getfield 15, 3) := by decide +kernel
theorem d_Keys_misses_23 : decode prog_2_method_8_code 23 = .ok (.iload_n 3, 1) := by decide +kernel
theorem d_Keys_misses_24 : decode prog_2_method_8_code 24 = .ok (.iaload, 1) := by decide +kernel
theorem d_Keys_misses_25 : decode prog_2_method_8_code 25 = .ok (.iload_n 2, 1) := by decide +kernel
theorem d_Keys_misses_26 : decode prog_2_method_8_code 26 = .ok (.if_icmp .lt 14, 3) := by decide +kernel
theorem d_Keys_misses_29 : decode prog_2_method_8_code 29 = .ok (.aload_n 0, 1) := by decide +kernel
theorem d_Keys_misses_30 : decode prog_2_method_8_code 30 = .ok (.iload_n 3, 1) := by decide +kernel
theorem d_Keys_misses_31 : decode prog_2_method_8_code 31 = .ok (.aload_n 1, 1) := by decide +kernel
theorem d_Keys_misses_32 : decode prog_2_method_8_code 32 = .ok (.invokevirtual 39, 3) := by decide +kernel
theorem d_Keys_misses_35 : decode prog_2_method_8_code 35 = .ok (.ifCond .eq 5, 3) := by decide +kernel
theorem d_Keys_misses_38 : decode prog_2_method_8_code 38 = .ok (.iconst 1, 1) := by decide +kernel
theorem d_Keys_misses_39 : decode prog_2_method_8_code 39 = .ok (.ireturn, 1) := by decide +kernel
theorem d_Keys_misses_40 : decode prog_2_method_8_code 40 = .ok (.iinc 3 1, 3) := by decide +kernel
theorem d_Keys_misses_43 : decode prog_2_method_8_code 43 = .ok (.goto (-41), 3) := by decide +kernel
theorem d_Keys_misses_46 : decode prog_2_method_8_code 46 = .ok (.iconst 0, 1) := by decide +kernel
theorem d_Keys_misses_47 : decode prog_2_method_8_code 47 = .ok (.ireturn, 1) := by decide +kernel
theorem d_Keys_bears_0 : decode prog_2_method_7_code 0 = .ok (.iconst 0, 1) := by decide +kernel
theorem d_Keys_bears_1 : decode prog_2_method_7_code 1 = .ok (.istore_n 2, 1) := by decide +kernel
theorem d_Keys_bears_2 : decode prog_2_method_7_code 2 = .ok (.iload_n 2, 1) := by decide +kernel
theorem d_Keys_bears_3 : decode prog_2_method_7_code 3 = .ok (.aload_n 0, 1) := by decide +kernel
theorem d_Keys_bears_4 : decode prog_2_method_7_code 4 = .ok (.getfield 19, 3) := by decide +kernel
theorem d_Keys_bears_7 : decode prog_2_method_7_code 7 = .ok (.if_icmp .ge 20, 3) := by decide +kernel
theorem d_Keys_bears_10 : decode prog_2_method_7_code 10 = .ok (.aload_n 0, 1) := by decide +kernel
theorem d_Keys_bears_11 : decode prog_2_method_7_code 11 = .ok (.iload_n 2, 1) := by decide +kernel
theorem d_Keys_bears_12 : decode prog_2_method_7_code 12 = .ok (.aload_n 1, 1) := by decide +kernel
theorem d_Keys_bears_13 : decode prog_2_method_7_code 13 = .ok (.invokevirtual 39, 3) := by decide +kernel
theorem d_Keys_bears_16 : decode prog_2_method_7_code 16 = .ok (.ifCond .eq 5, 3) := by decide +kernel
theorem d_Keys_bears_19 : decode prog_2_method_7_code 19 = .ok (.iconst 1, 1) := by decide +kernel
theorem d_Keys_bears_20 : decode prog_2_method_7_code 20 = .ok (.ireturn, 1) := by decide +kernel
theorem d_Keys_bears_21 : decode prog_2_method_7_code 21 = .ok (.iinc 2 1, 3) := by decide +kernel
theorem d_Keys_bears_24 : decode prog_2_method_7_code 24 = .ok (.goto (-22), 3) := by decide +kernel
theorem d_Keys_bears_27 : decode prog_2_method_7_code 27 = .ok (.iconst 0, 1) := by decide +kernel
theorem d_Keys_bears_28 : decode prog_2_method_7_code 28 = .ok (.ireturn, 1) := by decide +kernel
theorem d_Desk_lowest_0 : decode prog_1_method_18_code 0 = .ok (.lload_n 0, 1) := by decide +kernel
theorem d_Desk_lowest_1 : decode prog_1_method_18_code 1 = .ok (.lload_n 0, 1) := by decide +kernel
theorem d_Desk_lowest_2 : decode prog_1_method_18_code 2 = .ok (.lneg, 1) := by decide +kernel
theorem d_Desk_lowest_3 : decode prog_1_method_18_code 3 = .ok (.land, 1) := by decide +kernel
theorem d_Desk_lowest_4 : decode prog_1_method_18_code 4 = .ok (.lconst 1, 1) := by decide +kernel
theorem d_Desk_lowest_5 : decode prog_1_method_18_code 5 = .ok (.lsub, 1) := by decide +kernel
theorem d_Desk_lowest_6 : decode prog_1_method_18_code 6 = .ok (.invokestatic 108, 3) := by decide +kernel
theorem d_Desk_lowest_9 : decode prog_1_method_18_code 9 = .ok (.ireturn, 1) := by decide +kernel
theorem d_Long_bitCount_0 : decode prog_9_method_50_code 0 = .ok (.lload_n 0, 1) := by decide +kernel
theorem d_Long_bitCount_1 : decode prog_9_method_50_code 1 = .ok (.lload_n 0, 1) := by decide +kernel
theorem d_Long_bitCount_2 : decode prog_9_method_50_code 2 = .ok (.iconst 1, 1) := by decide +kernel
theorem d_Long_bitCount_3 : decode prog_9_method_50_code 3 = .ok (.lushr, 1) := by decide +kernel
theorem d_Long_bitCount_4 : decode prog_9_method_50_code 4 = .ok (.ldc2_w 314, 3) := by decide +kernel
theorem d_Long_bitCount_7 : decode prog_9_method_50_code 7 = .ok (.land, 1) := by decide +kernel
theorem d_Long_bitCount_8 : decode prog_9_method_50_code 8 = .ok (.lsub, 1) := by decide +kernel
theorem d_Long_bitCount_9 : decode prog_9_method_50_code 9 = .ok (.lstore_n 0, 1) := by decide +kernel
theorem d_Long_bitCount_10 : decode prog_9_method_50_code 10 = .ok (.lload_n 0, 1) := by decide +kernel
theorem d_Long_bitCount_11 : decode prog_9_method_50_code 11 = .ok (.ldc2_w 316, 3) := by decide +kernel
theorem d_Long_bitCount_14 : decode prog_9_method_50_code 14 = .ok (.land, 1) := by decide +kernel
theorem d_Long_bitCount_15 : decode prog_9_method_50_code 15 = .ok (.lload_n 0, 1) := by decide +kernel
theorem d_Long_bitCount_16 : decode prog_9_method_50_code 16 = .ok (.iconst 2, 1) := by decide +kernel
theorem d_Long_bitCount_17 : decode prog_9_method_50_code 17 = .ok (.lushr, 1) := by decide +kernel
theorem d_Long_bitCount_18 : decode prog_9_method_50_code 18 = .ok (.ldc2_w 316, 3) := by decide +kernel
theorem d_Long_bitCount_21 : decode prog_9_method_50_code 21 = .ok (.land, 1) := by decide +kernel
theorem d_Long_bitCount_22 : decode prog_9_method_50_code 22 = .ok (.ladd, 1) := by decide +kernel
theorem d_Long_bitCount_23 : decode prog_9_method_50_code 23 = .ok (.lstore_n 0, 1) := by decide +kernel
theorem d_Long_bitCount_24 : decode prog_9_method_50_code 24 = .ok (.lload_n 0, 1) := by decide +kernel
theorem d_Long_bitCount_25 : decode prog_9_method_50_code 25 = .ok (.lload_n 0, 1) := by decide +kernel
theorem d_Long_bitCount_26 : decode prog_9_method_50_code 26 = .ok (.iconst 4, 1) := by decide +kernel
theorem d_Long_bitCount_27 : decode prog_9_method_50_code 27 = .ok (.lushr, 1) := by decide +kernel
theorem d_Long_bitCount_28 : decode prog_9_method_50_code 28 = .ok (.ladd, 1) := by decide +kernel
theorem d_Long_bitCount_29 : decode prog_9_method_50_code 29 = .ok (.ldc2_w 318, 3) := by decide +kernel
theorem d_Long_bitCount_32 : decode prog_9_method_50_code 32 = .ok (.land, 1) := by decide +kernel
theorem d_Long_bitCount_33 : decode prog_9_method_50_code 33 = .ok (.lstore_n 0, 1) := by decide +kernel
theorem d_Long_bitCount_34 : decode prog_9_method_50_code 34 = .ok (.lload_n 0, 1) := by decide +kernel
theorem d_Long_bitCount_35 : decode prog_9_method_50_code 35 = .ok (.lload_n 0, 1) := by decide +kernel
theorem d_Long_bitCount_36 : decode prog_9_method_50_code 36 = .ok (.bipush 8, 2) := by decide +kernel
theorem d_Long_bitCount_38 : decode prog_9_method_50_code 38 = .ok (.lushr, 1) := by decide +kernel
theorem d_Long_bitCount_39 : decode prog_9_method_50_code 39 = .ok (.ladd, 1) := by decide +kernel
theorem d_Long_bitCount_40 : decode prog_9_method_50_code 40 = .ok (.lstore_n 0, 1) := by decide +kernel
theorem d_Long_bitCount_41 : decode prog_9_method_50_code 41 = .ok (.lload_n 0, 1) := by decide +kernel
theorem d_Long_bitCount_42 : decode prog_9_method_50_code 42 = .ok (.lload_n 0, 1) := by decide +kernel
theorem d_Long_bitCount_43 : decode prog_9_method_50_code 43 = .ok (.bipush 16, 2) := by decide +kernel
theorem d_Long_bitCount_45 : decode prog_9_method_50_code 45 = .ok (.lushr, 1) := by decide +kernel
theorem d_Long_bitCount_46 : decode prog_9_method_50_code 46 = .ok (.ladd, 1) := by decide +kernel
theorem d_Long_bitCount_47 : decode prog_9_method_50_code 47 = .ok (.lstore_n 0, 1) := by decide +kernel
theorem d_Long_bitCount_48 : decode prog_9_method_50_code 48 = .ok (.lload_n 0, 1) := by decide +kernel
theorem d_Long_bitCount_49 : decode prog_9_method_50_code 49 = .ok (.lload_n 0, 1) := by decide +kernel
theorem d_Long_bitCount_50 : decode prog_9_method_50_code 50 = .ok (.bipush 32, 2) := by decide +kernel
theorem d_Long_bitCount_52 : decode prog_9_method_50_code 52 = .ok (.lushr, 1) := by decide +kernel
theorem d_Long_bitCount_53 : decode prog_9_method_50_code 53 = .ok (.ladd, 1) := by decide +kernel
theorem d_Long_bitCount_54 : decode prog_9_method_50_code 54 = .ok (.lstore_n 0, 1) := by decide +kernel
theorem d_Long_bitCount_55 : decode prog_9_method_50_code 55 = .ok (.lload_n 0, 1) := by decide +kernel
theorem d_Long_bitCount_56 : decode prog_9_method_50_code 56 = .ok (.l2i, 1) := by decide +kernel
theorem d_Long_bitCount_57 : decode prog_9_method_50_code 57 = .ok (.bipush 127, 2) := by decide +kernel
theorem d_Long_bitCount_59 : decode prog_9_method_50_code 59 = .ok (.iand, 1) := by decide +kernel
theorem d_Long_bitCount_60 : decode prog_9_method_50_code 60 = .ok (.ireturn, 1) := by decide +kernel
theorem d_Desk_letIn_0 : decode prog_1_method_14_code 0 = .ok (.aload_n 0, 1) := by decide +kernel
theorem d_Desk_letIn_1 : decode prog_1_method_14_code 1 = .ok (.getfield 26, 3) := by decide +kernel
theorem d_Desk_letIn_4 : decode prog_1_method_14_code 4 = .ok (.invokevirtual 160, 3) := by decide +kernel
theorem d_Desk_letIn_7 : decode prog_1_method_14_code 7 = .ok (.istore 5, 2) := by decide +kernel
theorem d_Desk_letIn_9 : decode prog_1_method_14_code 9 = .ok (.iload 5, 2) := by decide +kernel
theorem d_Desk_letIn_11 : decode prog_1_method_14_code 11 = .ok (.iconst (-1), 1) := by decide +kernel
theorem d_Desk_letIn_12 : decode prog_1_method_14_code 12 = .ok (.if_icmp .ne 5, 3) := by decide +kernel
theorem d_Desk_letIn_15 : decode prog_1_method_14_code 15 = .ok (.iconst (-1), 1) := by decide +kernel
theorem d_Desk_letIn_16 : decode prog_1_method_14_code 16 = .ok (.ireturn, 1) := by decide +kernel
theorem d_Desk_letIn_17 : decode prog_1_method_14_code 17 = .ok (.aload_n 0, 1) := by decide +kernel
theorem d_Desk_letIn_18 : decode prog_1_method_14_code 18 = .ok (.getfield 26, 3) := by decide +kernel
theorem d_Desk_letIn_21 : decode prog_1_method_14_code 21 = .ok (.getfield 86, 3) := by decide +kernel
theorem d_Desk_letIn_24 : decode prog_1_method_14_code 24 = .ok (.iload 5, 2) := by decide +kernel
theorem d_Desk_letIn_26 : decode prog_1_method_14_code 26 = .ok (.aaload, 1) := by decide +kernel
theorem d_Desk_letIn_27 : decode prog_1_method_14_code 27 = .ok (.lload_n 1, 1) := by decide +kernel
theorem d_Desk_letIn_28 : decode prog_1_method_14_code 28 = .ok (.iload_n 3, 1) := by decide +kernel
theorem d_Desk_letIn_29 : decode prog_1_method_14_code 29 = .ok (.iload 4, 2) := by decide +kernel
theorem d_Desk_letIn_31 : decode prog_1_method_14_code 31 = .ok (.invokevirtual 163, 3) := by decide +kernel
theorem d_Desk_letIn_34 : decode prog_1_method_14_code 34 = .ok (.aload_n 0, 1) := by decide +kernel
theorem d_Desk_letIn_35 : decode prog_1_method_14_code 35 = .ok (.getfield 26, 3) := by decide +kernel
theorem d_Desk_letIn_38 : decode prog_1_method_14_code 38 = .ok (.iload 5, 2) := by decide +kernel
theorem d_Desk_letIn_40 : decode prog_1_method_14_code 40 = .ok (.aload_n 0, 1) := by decide +kernel
theorem d_Desk_letIn_41 : decode prog_1_method_14_code 41 = .ok (.getfield 12, 3) := by decide +kernel
theorem d_Desk_letIn_44 : decode prog_1_method_14_code 44 = .ok (.aload_n 0, 1) := by decide +kernel
theorem d_Desk_letIn_45 : decode prog_1_method_14_code 45 = .ok (.getfield 19, 3) := by decide +kernel
theorem d_Desk_letIn_48 : decode prog_1_method_14_code 48 = .ok (.invokevirtual 167, 3) := by decide +kernel
theorem d_Desk_letIn_51 : decode prog_1_method_14_code 51 = .ok (.aload_n 0, 1) := by decide +kernel
theorem d_Desk_letIn_52 : decode prog_1_method_14_code 52 = .ok (.getfield 26, 3) := by decide +kernel
theorem d_Desk_letIn_55 : decode prog_1_method_14_code 55 = .ok (.getfield 148, 3) := by decide +kernel
theorem d_Desk_letIn_58 : decode prog_1_method_14_code 58 = .ok (.invokestatic 108, 3) := by decide +kernel
theorem d_Desk_letIn_61 : decode prog_1_method_14_code 61 = .ok (.bipush 40, 2) := by decide +kernel
theorem d_Desk_letIn_63 : decode prog_1_method_14_code 63 = .ok (.if_icmp .gt 5, 3) := by decide +kernel
theorem d_Desk_letIn_66 : decode prog_1_method_14_code 66 = .ok (.iconst 0, 1) := by decide +kernel
theorem d_Desk_letIn_67 : decode prog_1_method_14_code 67 = .ok (.ireturn, 1) := by decide +kernel
theorem d_Desk_letIn_68 : decode prog_1_method_14_code 68 = .ok (.aload_n 0, 1) := by decide +kernel
theorem d_Desk_letIn_69 : decode prog_1_method_14_code 69 = .ok (.aload_n 0, 1) := by decide +kernel
theorem d_Desk_letIn_70 : decode prog_1_method_14_code 70 = .ok (.getfield 26, 3) := by decide +kernel
theorem d_Desk_letIn_73 : decode prog_1_method_14_code 73 = .ok (.invokevirtual 171, 3) := by decide +kernel
theorem d_Desk_letIn_76 : decode prog_1_method_14_code 76 = .ok (.invokevirtual 76, 3) := by decide +kernel
theorem d_Desk_letIn_79 : decode prog_1_method_14_code 79 = .ok (.pop, 1) := by decide +kernel
theorem d_Desk_letIn_80 : decode prog_1_method_14_code 80 = .ok (.aload_n 0, 1) := by decide +kernel
theorem d_Desk_letIn_81 : decode prog_1_method_14_code 81 = .ok (.getfield 26, 3) := by decide +kernel
theorem d_Desk_letIn_84 : decode prog_1_method_14_code 84 = .ok (.getfield 148, 3) := by decide +kernel
theorem d_Desk_letIn_87 : decode prog_1_method_14_code 87 = .ok (.iload 5, 2) := by decide +kernel
theorem d_Desk_letIn_89 : decode prog_1_method_14_code 89 = .ok (.invokestatic 174, 3) := by decide +kernel
theorem d_Desk_letIn_92 : decode prog_1_method_14_code 92 = .ok (.ifCond .eq 7, 3) := by decide +kernel
theorem d_Desk_letIn_95 : decode prog_1_method_14_code 95 = .ok (.iconst 0, 1) := by decide +kernel
theorem d_Desk_letIn_96 : decode prog_1_method_14_code 96 = .ok (.goto 4, 3) := by decide +kernel
theorem d_Desk_letIn_99 : decode prog_1_method_14_code 99 = .ok (.iconst 5, 1) := by decide +kernel
theorem d_Desk_letIn_100 : decode prog_1_method_14_code 100 = .ok (.ireturn, 1) := by decide +kernel
theorem d_Tx_describe_0 : decode prog_6_method_2_code 0 = .ok (.aload_n 0, 1) := by decide +kernel
theorem d_Tx_describe_1 : decode prog_6_method_2_code 1 = .ok (.lload_n 1, 1) := by decide +kernel
theorem d_Tx_describe_2 : decode prog_6_method_2_code 2 = .ok (.putfield 23, 3) := by decide +kernel
theorem d_Tx_describe_5 : decode prog_6_method_2_code 5 = .ok (.aload_n 0, 1) := by decide +kernel
theorem d_Tx_describe_6 : decode prog_6_method_2_code 6 = .ok (.iload_n 3, 1) := by decide +kernel
theorem d_Tx_describe_7 : decode prog_6_method_2_code 7 = .ok (.putfield 27, 3) := by decide +kernel
theorem d_Tx_describe_10 : decode prog_6_method_2_code 10 = .ok (.aload_n 0, 1) := by decide +kernel
theorem d_Tx_describe_11 : decode prog_6_method_2_code 11 = .ok (.iload 4, 2) := by decide +kernel
theorem d_Tx_describe_13 : decode prog_6_method_2_code 13 = .ok (.putfield 31, 3) := by decide +kernel
theorem d_Tx_describe_16 : decode prog_6_method_2_code 16 = .ok (.return_, 1) := by decide +kernel
theorem d_Keys_copy_0 : decode prog_2_method_4_code 0 = .ok (.aload_n 1, 1) := by decide +kernel
theorem d_Keys_copy_1 : decode prog_2_method_4_code 1 = .ok (.getfield 9, 3) := by decide +kernel
theorem d_Keys_copy_4 : decode prog_2_method_4_code 4 = .ok (.iconst 0, 1) := by decide +kernel
theorem d_Keys_copy_5 : decode prog_2_method_4_code 5 = .ok (.aload_n 0, 1) := by decide +kernel
theorem d_Keys_copy_6 : decode prog_2_method_4_code 6 = .ok (.getfield 9, 3) := by decide +kernel
theorem d_Keys_copy_9 : decode prog_2_method_4_code 9 = .ok (.iconst 0, 1) := by decide +kernel
theorem d_Keys_copy_10 : decode prog_2_method_4_code 10 = .ok (.bipush 32, 2) := by decide +kernel
theorem d_Keys_copy_12 : decode prog_2_method_4_code 12 = .ok (.invokestatic 33, 3) := by decide +kernel
theorem d_Keys_copy_15 : decode prog_2_method_4_code 15 = .ok (.aload_n 1, 1) := by decide +kernel
theorem d_Keys_copy_16 : decode prog_2_method_4_code 16 = .ok (.getfield 15, 3) := by decide +kernel
theorem d_Keys_copy_19 : decode prog_2_method_4_code 19 = .ok (.iconst 0, 1) := by decide +kernel
theorem d_Keys_copy_20 : decode prog_2_method_4_code 20 = .ok (.aload_n 0, 1) := by decide +kernel
theorem d_Keys_copy_21 : decode prog_2_method_4_code 21 = .ok (.getfield 15, 3) := by decide +kernel
theorem d_Keys_copy_24 : decode prog_2_method_4_code 24 = .ok (.iconst 0, 1) := by decide +kernel
theorem d_Keys_copy_25 : decode prog_2_method_4_code 25 = .ok (.bipush 8, 2) := by decide +kernel
theorem d_Keys_copy_27 : decode prog_2_method_4_code 27 = .ok (.invokestatic 33, 3) := by decide +kernel
theorem d_Keys_copy_30 : decode prog_2_method_4_code 30 = .ok (.aload_n 0, 1) := by decide +kernel
theorem d_Keys_copy_31 : decode prog_2_method_4_code 31 = .ok (.aload_n 1, 1) := by decide +kernel
theorem d_Keys_copy_32 : decode prog_2_method_4_code 32 = .ok (.getfield 19, 3) := by decide +kernel
theorem d_Keys_copy_35 : decode prog_2_method_4_code 35 = .ok (.putfield 19, 3) := by decide +kernel
theorem d_Keys_copy_38 : decode prog_2_method_4_code 38 = .ok (.return_, 1) := by decide +kernel
theorem d_Desk_compareRates_0 : decode prog_1_method_19_code 0 = .ok (.lload_n 2, 1) := by decide +kernel
theorem d_Desk_compareRates_1 : decode prog_1_method_19_code 1 = .ok (.lconst 1, 1) := by decide +kernel
theorem d_Desk_compareRates_2 : decode prog_1_method_19_code 2 = .ok (.lcmp, 1) := by decide +kernel
theorem d_Desk_compareRates_3 : decode prog_1_method_19_code 3 = .ok (.ifCond .lt 10, 3) := by decide +kernel
theorem d_Desk_compareRates_6 : decode prog_1_method_19_code 6 = .ok (.lload 6, 2) := by decide +kernel
theorem d_Desk_compareRates_8 : decode prog_1_method_19_code 8 = .ok (.lconst 1, 1) := by decide +kernel
theorem d_Desk_compareRates_9 : decode prog_1_method_19_code 9 = .ok (.lcmp, 1) := by decide +kernel
theorem d_Desk_compareRates_10 : decode prog_1_method_19_code 10 = .ok (.ifCond .ge 5, 3) := by decide +kernel
theorem d_Desk_compareRates_13 : decode prog_1_method_19_code 13 = .ok (.iconst 0, 1) := by decide +kernel
theorem d_Desk_compareRates_14 : decode prog_1_method_19_code 14 = .ok (.ireturn, 1) := by decide +kernel
theorem d_Desk_compareRates_15 : decode prog_1_method_19_code 15 = .ok (.lload_n 0, 1) := by decide +kernel
theorem d_Desk_compareRates_16 : decode prog_1_method_19_code 16 = .ok (.lload_n 2, 1) := by decide +kernel
theorem d_Desk_compareRates_17 : decode prog_1_method_19_code 17 = .ok (.ldiv, 1) := by decide +kernel
theorem d_Desk_compareRates_18 : decode prog_1_method_19_code 18 = .ok (.lload 4, 2) := by decide +kernel
theorem d_Desk_compareRates_20 : decode prog_1_method_19_code 20 = .ok (.lload 6, 2) := by decide +kernel
theorem d_Desk_compareRates_22 : decode prog_1_method_19_code 22 = .ok (.ldiv, 1) := by decide +kernel
theorem d_Desk_compareRates_23 : decode prog_1_method_19_code 23 = .ok (.invokestatic 178, 3) := by decide +kernel
theorem d_Desk_compareRates_26 : decode prog_1_method_19_code 26 = .ok (.istore 8, 2) := by decide +kernel
theorem d_Desk_compareRates_28 : decode prog_1_method_19_code 28 = .ok (.iload 8, 2) := by decide +kernel
theorem d_Desk_compareRates_30 : decode prog_1_method_19_code 30 = .ok (.ifCond .eq 6, 3) := by decide +kernel
theorem d_Desk_compareRates_33 : decode prog_1_method_19_code 33 = .ok (.iload 8, 2) := by decide +kernel
theorem d_Desk_compareRates_35 : decode prog_1_method_19_code 35 = .ok (.ireturn, 1) := by decide +kernel
theorem d_Desk_compareRates_36 : decode prog_1_method_19_code 36 = .ok (.lload_n 0, 1) := by decide +kernel
theorem d_Desk_compareRates_37 : decode prog_1_method_19_code 37 = .ok (.lload_n 2, 1) := by decide +kernel
theorem d_Desk_compareRates_38 : decode prog_1_method_19_code 38 = .ok (.lrem, 1) := by decide +kernel
theorem d_Desk_compareRates_39 : decode prog_1_method_19_code 39 = .ok (.lload 6, 2) := by decide +kernel
theorem d_Desk_compareRates_41 : decode prog_1_method_19_code 41 = .ok (.lmul, 1) := by decide +kernel
theorem d_Desk_compareRates_42 : decode prog_1_method_19_code 42 = .ok (.lload 4, 2) := by decide +kernel
theorem d_Desk_compareRates_44 : decode prog_1_method_19_code 44 = .ok (.lload 6, 2) := by decide +kernel
theorem d_Desk_compareRates_46 : decode prog_1_method_19_code 46 = .ok (.lrem, 1) := by decide +kernel
theorem d_Desk_compareRates_47 : decode prog_1_method_19_code 47 = .ok (.lload_n 2, 1) := by decide +kernel
theorem d_Desk_compareRates_48 : decode prog_1_method_19_code 48 = .ok (.lmul, 1) := by decide +kernel
theorem d_Desk_compareRates_49 : decode prog_1_method_19_code 49 = .ok (.invokestatic 178, 3) := by decide +kernel
theorem d_Desk_compareRates_52 : decode prog_1_method_19_code 52 = .ok (.ireturn, 1) := by decide +kernel
theorem d_Long_compare_0 : decode prog_9_method_42_code 0 = .ok (.lload_n 0, 1) := by decide +kernel
theorem d_Long_compare_1 : decode prog_9_method_42_code 1 = .ok (.lload_n 2, 1) := by decide +kernel
theorem d_Long_compare_2 : decode prog_9_method_42_code 2 = .ok (.lcmp, 1) := by decide +kernel
theorem d_Long_compare_3 : decode prog_9_method_42_code 3 = .ok (.ifCond .ge 7, 3) := by decide +kernel
theorem d_Long_compare_6 : decode prog_9_method_42_code 6 = .ok (.iconst (-1), 1) := by decide +kernel
theorem d_Long_compare_7 : decode prog_9_method_42_code 7 = .ok (.goto 14, 3) := by decide +kernel
theorem d_Long_compare_10 : decode prog_9_method_42_code 10 = .ok (.lload_n 0, 1) := by decide +kernel
theorem d_Long_compare_11 : decode prog_9_method_42_code 11 = .ok (.lload_n 2, 1) := by decide +kernel
theorem d_Long_compare_12 : decode prog_9_method_42_code 12 = .ok (.lcmp, 1) := by decide +kernel
theorem d_Long_compare_13 : decode prog_9_method_42_code 13 = .ok (.ifCond .ne 7, 3) := by decide +kernel
theorem d_Long_compare_16 : decode prog_9_method_42_code 16 = .ok (.iconst 0, 1) := by decide +kernel
theorem d_Long_compare_17 : decode prog_9_method_42_code 17 = .ok (.goto 4, 3) := by decide +kernel
theorem d_Long_compare_20 : decode prog_9_method_42_code 20 = .ok (.iconst 1, 1) := by decide +kernel
theorem d_Long_compare_21 : decode prog_9_method_42_code 21 = .ok (.ireturn, 1) := by decide +kernel
theorem d_Desk_removeFamily_0 : decode prog_1_method_15_code 0 = .ok (.iload_n 1, 1) := by decide +kernel
theorem d_Desk_removeFamily_1 : decode prog_1_method_15_code 1 = .ok (.iconst (-1), 1) := by decide +kernel
theorem d_Desk_removeFamily_2 : decode prog_1_method_15_code 2 = .ok (.if_icmp .ne 5, 3) := by decide +kernel
theorem d_Desk_removeFamily_5 : decode prog_1_method_15_code 5 = .ok (.iconst 0, 1) := by decide +kernel
theorem d_Desk_removeFamily_6 : decode prog_1_method_15_code 6 = .ok (.ireturn, 1) := by decide +kernel
theorem d_Desk_removeFamily_7 : decode prog_1_method_15_code 7 = .ok (.aload_n 0, 1) := by decide +kernel
theorem d_Desk_removeFamily_8 : decode prog_1_method_15_code 8 = .ok (.getfield 26, 3) := by decide +kernel
theorem d_Desk_removeFamily_11 : decode prog_1_method_15_code 11 = .ok (.iload_n 1, 1) := by decide +kernel
theorem d_Desk_removeFamily_12 : decode prog_1_method_15_code 12 = .ok (.invokestatic 68, 3) := by decide +kernel
theorem d_Desk_removeFamily_15 : decode prog_1_method_15_code 15 = .ok (.invokevirtual 117, 3) := by decide +kernel
theorem d_Desk_removeFamily_18 : decode prog_1_method_15_code 18 = .ok (.lstore_n 2, 1) := by decide +kernel
theorem d_Desk_removeFamily_19 : decode prog_1_method_15_code 19 = .ok (.aload_n 0, 1) := by decide +kernel
theorem d_Desk_removeFamily_20 : decode prog_1_method_15_code 20 = .ok (.getfield 26, 3) := by decide +kernel
theorem d_Desk_removeFamily_23 : decode prog_1_method_15_code 23 = .ok (.lload_n 2, 1) := by decide +kernel
theorem d_Desk_removeFamily_24 : decode prog_1_method_15_code 24 = .ok (.invokevirtual 72, 3) := by decide +kernel
theorem d_Desk_removeFamily_27 : decode prog_1_method_15_code 27 = .ok (.lload_n 2, 1) := by decide +kernel
theorem d_Desk_removeFamily_28 : decode prog_1_method_15_code 28 = .ok (.invokestatic 108, 3) := by decide +kernel
theorem d_Desk_removeFamily_31 : decode prog_1_method_15_code 31 = .ok (.ireturn, 1) := by decide +kernel
theorem d_Keys_clear_0 : decode prog_2_method_2_code 0 = .ok (.aload_n 0, 1) := by decide +kernel
theorem d_Keys_clear_1 : decode prog_2_method_2_code 1 = .ok (.iconst 0, 1) := by decide +kernel
theorem d_Keys_clear_2 : decode prog_2_method_2_code 2 = .ok (.putfield 19, 3) := by decide +kernel
theorem d_Keys_clear_5 : decode prog_2_method_2_code 5 = .ok (.return_, 1) := by decide +kernel
theorem d_Desk_take_0 : decode prog_1_method_5_code 0 = .ok (.aload_n 0, 1) := by decide +kernel
theorem d_Desk_take_1 : decode prog_1_method_5_code 1 = .ok (.getfield 26, 3) := by decide +kernel
theorem d_Desk_take_4 : decode prog_1_method_5_code 4 = .ok (.aload_n 0, 1) := by decide +kernel
theorem d_Desk_take_5 : decode prog_1_method_5_code 5 = .ok (.getfield 12, 3) := by decide +kernel
theorem d_Desk_take_8 : decode prog_1_method_5_code 8 = .ok (.invokevirtual 64, 3) := by decide +kernel
theorem d_Desk_take_11 : decode prog_1_method_5_code 11 = .ok (.istore_n 1, 1) := by decide +kernel
theorem d_Desk_take_12 : decode prog_1_method_5_code 12 = .ok (.iload_n 1, 1) := by decide +kernel
theorem d_Desk_take_13 : decode prog_1_method_5_code 13 = .ok (.iconst (-1), 1) := by decide +kernel
theorem d_Desk_take_14 : decode prog_1_method_5_code 14 = .ok (.if_icmp .ne 5, 3) := by decide +kernel
theorem d_Desk_take_17 : decode prog_1_method_5_code 17 = .ok (.iconst 0, 1) := by decide +kernel
theorem d_Desk_take_18 : decode prog_1_method_5_code 18 = .ok (.ireturn, 1) := by decide +kernel
theorem d_Desk_take_19 : decode prog_1_method_5_code 19 = .ok (.aload_n 0, 1) := by decide +kernel
theorem d_Desk_take_20 : decode prog_1_method_5_code 20 = .ok (.getfield 26, 3) := by decide +kernel
theorem d_Desk_take_23 : decode prog_1_method_5_code 23 = .ok (.iload_n 1, 1) := by decide +kernel
theorem d_Desk_take_24 : decode prog_1_method_5_code 24 = .ok (.invokestatic 68, 3) := by decide +kernel
theorem d_Desk_take_27 : decode prog_1_method_5_code 27 = .ok (.invokevirtual 72, 3) := by decide +kernel
theorem d_Desk_take_30 : decode prog_1_method_5_code 30 = .ok (.iconst 1, 1) := by decide +kernel
theorem d_Desk_take_31 : decode prog_1_method_5_code 31 = .ok (.ireturn, 1) := by decide +kernel
theorem d_Desk_drop_0 : decode prog_1_method_6_code 0 = .ok (.aload_n 0, 1) := by decide +kernel
theorem d_Desk_drop_1 : decode prog_1_method_6_code 1 = .ok (.aload_n 0, 1) := by decide +kernel
theorem d_Desk_drop_2 : decode prog_1_method_6_code 2 = .ok (.getfield 26, 3) := by decide +kernel
theorem d_Desk_drop_5 : decode prog_1_method_6_code 5 = .ok (.aload_n 0, 1) := by decide +kernel
theorem d_Desk_drop_6 : decode prog_1_method_6_code 6 = .ok (.getfield 12, 3) := by decide +kernel
theorem d_Desk_drop_9 : decode prog_1_method_6_code 9 = .ok (.invokevirtual 64, 3) := by decide +kernel
theorem d_Desk_drop_12 : decode prog_1_method_6_code 12 = .ok (.invokevirtual 76, 3) := by decide +kernel
theorem d_Desk_drop_15 : decode prog_1_method_6_code 15 = .ok (.ireturn, 1) := by decide +kernel
theorem d_Desk_strike_0 : decode prog_1_method_7_code 0 = .ok (.aload_n 0, 1) := by decide +kernel
theorem d_Desk_strike_1 : decode prog_1_method_7_code 1 = .ok (.aload_n 0, 1) := by decide +kernel
theorem d_Desk_strike_2 : decode prog_1_method_7_code 2 = .ok (.getfield 26, 3) := by decide +kernel
theorem d_Desk_strike_5 : decode prog_1_method_7_code 5 = .ok (.aload_n 0, 1) := by decide +kernel
theorem d_Desk_strike_6 : decode prog_1_method_7_code 6 = .ok (.getfield 12, 3) := by decide +kernel
theorem d_Desk_strike_9 : decode prog_1_method_7_code 9 = .ok (.iload_n 1, 1) := by decide +kernel
theorem d_Desk_strike_10 : decode prog_1_method_7_code 10 = .ok (.invokevirtual 80, 3) := by decide +kernel
theorem d_Desk_strike_13 : decode prog_1_method_7_code 13 = .ok (.invokevirtual 76, 3) := by decide +kernel
theorem d_Desk_strike_16 : decode prog_1_method_7_code 16 = .ok (.ireturn, 1) := by decide +kernel
theorem d_Desk_look_0 : decode prog_1_method_8_code 0 = .ok (.aload_n 0, 1) := by decide +kernel
theorem d_Desk_look_1 : decode prog_1_method_8_code 1 = .ok (.getfield 26, 3) := by decide +kernel
theorem d_Desk_look_4 : decode prog_1_method_8_code 4 = .ok (.aload_n 0, 1) := by decide +kernel
theorem d_Desk_look_5 : decode prog_1_method_8_code 5 = .ok (.getfield 12, 3) := by decide +kernel
theorem d_Desk_look_8 : decode prog_1_method_8_code 8 = .ok (.invokevirtual 64, 3) := by decide +kernel
theorem d_Desk_look_11 : decode prog_1_method_8_code 11 = .ok (.istore_n 2, 1) := by decide +kernel
theorem d_Desk_look_12 : decode prog_1_method_8_code 12 = .ok (.iload_n 2, 1) := by decide +kernel
theorem d_Desk_look_13 : decode prog_1_method_8_code 13 = .ok (.iconst (-1), 1) := by decide +kernel
theorem d_Desk_look_14 : decode prog_1_method_8_code 14 = .ok (.if_icmp .ne 7, 3) := by decide +kernel
theorem d_Desk_look_17 : decode prog_1_method_8_code 17 = .ok (.ldc2_w 84, 3) := by decide +kernel
theorem d_Desk_look_20 : decode prog_1_method_8_code 20 = .ok (.lreturn, 1) := by decide +kernel
theorem d_Desk_look_21 : decode prog_1_method_8_code 21 = .ok (.aload_n 0, 1) := by decide +kernel
theorem d_Desk_look_22 : decode prog_1_method_8_code 22 = .ok (.getfield 26, 3) := by decide +kernel
theorem d_Desk_look_25 : decode prog_1_method_8_code 25 = .ok (.getfield 86, 3) := by decide +kernel
theorem d_Desk_look_28 : decode prog_1_method_8_code 28 = .ok (.iload_n 2, 1) := by decide +kernel
theorem d_Desk_look_29 : decode prog_1_method_8_code 29 = .ok (.aaload, 1) := by decide +kernel
theorem d_Desk_look_30 : decode prog_1_method_8_code 30 = .ok (.astore_n 3, 1) := by decide +kernel
theorem d_Desk_look_31 : decode prog_1_method_8_code 31 = .ok (.iload_n 1, 1) := by decide +kernel
theorem d_Desk_look_32 : decode prog_1_method_8_code 32 = .ok (.tableswitch 161 0 9 #[56, 61, 67, 73, 82, 91, 100, 116, 135, 155], 56) := by decide +kernel
theorem d_Desk_look_88 : decode prog_1_method_8_code 88 = .ok (.aload_n 3, 1) := by decide +kernel
theorem d_Desk_look_89 : decode prog_1_method_8_code 89 = .ok (.getfield 90, 3) := by decide +kernel
theorem d_Desk_look_92 : decode prog_1_method_8_code 92 = .ok (.lreturn, 1) := by decide +kernel
theorem d_Desk_look_93 : decode prog_1_method_8_code 93 = .ok (.aload_n 3, 1) := by decide +kernel
theorem d_Desk_look_94 : decode prog_1_method_8_code 94 = .ok (.getfield 96, 3) := by decide +kernel
theorem d_Desk_look_97 : decode prog_1_method_8_code 97 = .ok (.i2l, 1) := by decide +kernel
theorem d_Desk_look_98 : decode prog_1_method_8_code 98 = .ok (.lreturn, 1) := by decide +kernel
theorem d_Desk_look_99 : decode prog_1_method_8_code 99 = .ok (.aload_n 3, 1) := by decide +kernel
theorem d_Desk_look_100 : decode prog_1_method_8_code 100 = .ok (.getfield 99, 3) := by decide +kernel
theorem d_Desk_look_103 : decode prog_1_method_8_code 103 = .ok (.i2l, 1) := by decide +kernel
theorem d_Desk_look_104 : decode prog_1_method_8_code 104 = .ok (.lreturn, 1) := by decide +kernel
theorem d_Desk_look_105 : decode prog_1_method_8_code 105 = .ok (.aload_n 3, 1) := by decide +kernel
theorem d_Desk_look_106 : decode prog_1_method_8_code 106 = .ok (.getfield 102, 3) := by decide +kernel
theorem d_Desk_look_109 : decode prog_1_method_8_code 109 = .ok (.getfield 45, 3) := by decide +kernel
theorem d_Desk_look_112 : decode prog_1_method_8_code 112 = .ok (.i2l, 1) := by decide +kernel
theorem d_Desk_look_113 : decode prog_1_method_8_code 113 = .ok (.lreturn, 1) := by decide +kernel
theorem d_Desk_look_114 : decode prog_1_method_8_code 114 = .ok (.aload_n 3, 1) := by decide +kernel
theorem d_Desk_look_115 : decode prog_1_method_8_code 115 = .ok (.getfield 105, 3) := by decide +kernel
theorem d_Desk_look_118 : decode prog_1_method_8_code 118 = .ok (.invokestatic 108, 3) := by decide +kernel
theorem d_Desk_look_121 : decode prog_1_method_8_code 121 = .ok (.i2l, 1) := by decide +kernel
theorem d_Desk_look_122 : decode prog_1_method_8_code 122 = .ok (.lreturn, 1) := by decide +kernel
theorem d_Desk_look_123 : decode prog_1_method_8_code 123 = .ok (.aload_n 3, 1) := by decide +kernel
theorem d_Desk_look_124 : decode prog_1_method_8_code 124 = .ok (.getfield 114, 3) := by decide +kernel
theorem d_Desk_look_127 : decode prog_1_method_8_code 127 = .ok (.invokestatic 108, 3) := by decide +kernel
theorem d_Desk_look_130 : decode prog_1_method_8_code 130 = .ok (.i2l, 1) := by decide +kernel
theorem d_Desk_look_131 : decode prog_1_method_8_code 131 = .ok (.lreturn, 1) := by decide +kernel
theorem d_Desk_look_132 : decode prog_1_method_8_code 132 = .ok (.aload_n 0, 1) := by decide +kernel
theorem d_Desk_look_133 : decode prog_1_method_8_code 133 = .ok (.getfield 26, 3) := by decide +kernel
theorem d_Desk_look_136 : decode prog_1_method_8_code 136 = .ok (.iload_n 2, 1) := by decide +kernel
theorem d_Desk_look_137 : decode prog_1_method_8_code 137 = .ok (.invokestatic 68, 3) := by decide +kernel
theorem d_Desk_look_140 : decode prog_1_method_8_code 140 = .ok (.invokevirtual 117, 3) := by decide +kernel
theorem d_Desk_look_143 : decode prog_1_method_8_code 143 = .ok (.invokestatic 108, 3) := by decide +kernel
theorem d_Desk_look_146 : decode prog_1_method_8_code 146 = .ok (.i2l, 1) := by decide +kernel
theorem d_Desk_look_147 : decode prog_1_method_8_code 147 = .ok (.lreturn, 1) := by decide +kernel
theorem d_Desk_look_148 : decode prog_1_method_8_code 148 = .ok (.aload_n 0, 1) := by decide +kernel
theorem d_Desk_look_149 : decode prog_1_method_8_code 149 = .ok (.getfield 26, 3) := by decide +kernel
theorem d_Desk_look_152 : decode prog_1_method_8_code 152 = .ok (.aload_n 0, 1) := by decide +kernel
theorem d_Desk_look_153 : decode prog_1_method_8_code 153 = .ok (.getfield 26, 3) := by decide +kernel
theorem d_Desk_look_156 : decode prog_1_method_8_code 156 = .ok (.iload_n 2, 1) := by decide +kernel
theorem d_Desk_look_157 : decode prog_1_method_8_code 157 = .ok (.invokestatic 68, 3) := by decide +kernel
theorem d_Desk_look_160 : decode prog_1_method_8_code 160 = .ok (.invokevirtual 117, 3) := by decide +kernel
theorem d_Desk_look_163 : decode prog_1_method_8_code 163 = .ok (.invokevirtual 121, 3) := by decide +kernel
theorem d_Desk_look_166 : decode prog_1_method_8_code 166 = .ok (.lreturn, 1) := by decide +kernel
theorem d_Desk_look_167 : decode prog_1_method_8_code 167 = .ok (.aload_n 0, 1) := by decide +kernel
theorem d_Desk_look_168 : decode prog_1_method_8_code 168 = .ok (.getfield 26, 3) := by decide +kernel
theorem d_Desk_look_171 : decode prog_1_method_8_code 171 = .ok (.aload_n 0, 1) := by decide +kernel
theorem d_Desk_look_172 : decode prog_1_method_8_code 172 = .ok (.getfield 26, 3) := by decide +kernel
theorem d_Desk_look_175 : decode prog_1_method_8_code 175 = .ok (.iload_n 2, 1) := by decide +kernel
theorem d_Desk_look_176 : decode prog_1_method_8_code 176 = .ok (.invokestatic 68, 3) := by decide +kernel
theorem d_Desk_look_179 : decode prog_1_method_8_code 179 = .ok (.invokevirtual 117, 3) := by decide +kernel
theorem d_Desk_look_182 : decode prog_1_method_8_code 182 = .ok (.invokevirtual 124, 3) := by decide +kernel
theorem d_Desk_look_185 : decode prog_1_method_8_code 185 = .ok (.i2l, 1) := by decide +kernel
theorem d_Desk_look_186 : decode prog_1_method_8_code 186 = .ok (.lreturn, 1) := by decide +kernel
theorem d_Desk_look_187 : decode prog_1_method_8_code 187 = .ok (.aload_n 3, 1) := by decide +kernel
theorem d_Desk_look_188 : decode prog_1_method_8_code 188 = .ok (.getfield 127, 3) := by decide +kernel
theorem d_Desk_look_191 : decode prog_1_method_8_code 191 = .ok (.i2l, 1) := by decide +kernel
theorem d_Desk_look_192 : decode prog_1_method_8_code 192 = .ok (.lreturn, 1) := by decide +kernel
theorem d_Desk_look_193 : decode prog_1_method_8_code 193 = .ok (.ldc2_w 84, 3) := by decide +kernel
theorem d_Desk_look_196 : decode prog_1_method_8_code 196 = .ok (.lreturn, 1) := by decide +kernel
theorem d_Desk_order_0 : decode prog_1_method_9_code 0 = .ok (.aload_n 0, 1) := by decide +kernel
theorem d_Desk_order_1 : decode prog_1_method_9_code 1 = .ok (.getfield 33, 3) := by decide +kernel
theorem d_Desk_order_4 : decode prog_1_method_9_code 4 = .ok (.invokevirtual 130, 3) := by decide +kernel
theorem d_Desk_order_7 : decode prog_1_method_9_code 7 = .ok (.lconst 0, 1) := by decide +kernel
theorem d_Desk_order_8 : decode prog_1_method_9_code 8 = .ok (.lstore_n 2, 1) := by decide +kernel
theorem d_Desk_order_9 : decode prog_1_method_9_code 9 = .ok (.iload_n 1, 1) := by decide +kernel
theorem d_Desk_order_10 : decode prog_1_method_9_code 10 = .ok (.istore 4, 2) := by decide +kernel
theorem d_Desk_order_12 : decode prog_1_method_9_code 12 = .ok (.iconst 0, 1) := by decide +kernel
theorem d_Desk_order_13 : decode prog_1_method_9_code 13 = .ok (.istore 5, 2) := by decide +kernel
theorem d_Desk_order_15 : decode prog_1_method_9_code 15 = .ok (.iload 5, 2) := by decide +kernel
theorem d_Desk_order_17 : decode prog_1_method_9_code 17 = .ok (.bipush 41, 2) := by decide +kernel
theorem d_Desk_order_19 : decode prog_1_method_9_code 19 = .ok (.if_icmp .ge 72, 3) := by decide +kernel
theorem d_Desk_order_22 : decode prog_1_method_9_code 22 = .ok (.aload_n 0, 1) := by decide +kernel
theorem d_Desk_order_23 : decode prog_1_method_9_code 23 = .ok (.getfield 26, 3) := by decide +kernel
theorem d_Desk_order_26 : decode prog_1_method_9_code 26 = .ok (.lload_n 2, 1) := by decide +kernel
theorem d_Desk_order_27 : decode prog_1_method_9_code 27 = .ok (.iload 4, 2) := by decide +kernel
theorem d_Desk_order_29 : decode prog_1_method_9_code 29 = .ok (.invokevirtual 131, 3) := by decide +kernel
theorem d_Desk_order_32 : decode prog_1_method_9_code 32 = .ok (.istore 6, 2) := by decide +kernel
theorem d_Desk_order_34 : decode prog_1_method_9_code 34 = .ok (.iload 6, 2) := by decide +kernel
theorem d_Desk_order_36 : decode prog_1_method_9_code 36 = .ok (.iconst (-1), 1) := by decide +kernel
theorem d_Desk_order_37 : decode prog_1_method_9_code 37 = .ok (.if_icmp .ne 6, 3) := by decide +kernel
theorem d_Desk_order_40 : decode prog_1_method_9_code 40 = .ok (.goto 51, 3) := by decide +kernel
theorem d_Desk_order_43 : decode prog_1_method_9_code 43 = .ok (.aload_n 0, 1) := by decide +kernel
theorem d_Desk_order_44 : decode prog_1_method_9_code 44 = .ok (.getfield 26, 3) := by decide +kernel
theorem d_Desk_order_47 : decode prog_1_method_9_code 47 = .ok (.getfield 86, 3) := by decide +kernel
theorem d_Desk_order_50 : decode prog_1_method_9_code 50 = .ok (.iload 6, 2) := by decide +kernel
theorem d_Desk_order_52 : decode prog_1_method_9_code 52 = .ok (.aaload, 1) := by decide +kernel
theorem d_Desk_order_53 : decode prog_1_method_9_code 53 = .ok (.astore 7, 2) := by decide +kernel
theorem d_Desk_order_55 : decode prog_1_method_9_code 55 = .ok (.aload_n 0, 1) := by decide +kernel
theorem d_Desk_order_56 : decode prog_1_method_9_code 56 = .ok (.getfield 33, 3) := by decide +kernel
theorem d_Desk_order_59 : decode prog_1_method_9_code 59 = .ok (.aload 7, 2) := by decide +kernel
theorem d_Desk_order_61 : decode prog_1_method_9_code 61 = .ok (.getfield 135, 3) := by decide +kernel
theorem d_Desk_order_64 : decode prog_1_method_9_code 64 = .ok (.invokevirtual 138, 3) := by decide +kernel
theorem d_Desk_order_67 : decode prog_1_method_9_code 67 = .ok (.lload_n 2, 1) := by decide +kernel
theorem d_Desk_order_68 : decode prog_1_method_9_code 68 = .ok (.iload 6, 2) := by decide +kernel
theorem d_Desk_order_70 : decode prog_1_method_9_code 70 = .ok (.invokestatic 68, 3) := by decide +kernel
theorem d_Desk_order_73 : decode prog_1_method_9_code 73 = .ok (.lor, 1) := by decide +kernel
theorem d_Desk_order_74 : decode prog_1_method_9_code 74 = .ok (.lstore_n 2, 1) := by decide +kernel
theorem d_Desk_order_75 : decode prog_1_method_9_code 75 = .ok (.iload 4, 2) := by decide +kernel
theorem d_Desk_order_77 : decode prog_1_method_9_code 77 = .ok (.aload 7, 2) := by decide +kernel
theorem d_Desk_order_79 : decode prog_1_method_9_code 79 = .ok (.getfield 96, 3) := by decide +kernel
theorem d_Desk_order_82 : decode prog_1_method_9_code 82 = .ok (.isub, 1) := by decide +kernel
theorem d_Desk_order_83 : decode prog_1_method_9_code 83 = .ok (.istore 4, 2) := by decide +kernel
theorem d_Desk_order_85 : decode prog_1_method_9_code 85 = .ok (.iinc 5 1, 3) := by decide +kernel
theorem d_Desk_order_88 : decode prog_1_method_9_code 88 = .ok (.goto (-73), 3) := by decide +kernel
theorem d_Desk_order_91 : decode prog_1_method_9_code 91 = .ok (.aload_n 0, 1) := by decide +kernel
theorem d_Desk_order_92 : decode prog_1_method_9_code 92 = .ok (.getfield 33, 3) := by decide +kernel
theorem d_Desk_order_95 : decode prog_1_method_9_code 95 = .ok (.getfield 141, 3) := by decide +kernel
theorem d_Desk_order_98 : decode prog_1_method_9_code 98 = .ok (.ireturn, 1) := by decide +kernel
theorem d_Row_clear_0 : decode prog_5_method_2_code 0 = .ok (.aload_n 0, 1) := by decide +kernel
theorem d_Row_clear_1 : decode prog_5_method_2_code 1 = .ok (.iconst 0, 1) := by decide +kernel
theorem d_Row_clear_2 : decode prog_5_method_2_code 2 = .ok (.putfield 15, 3) := by decide +kernel
theorem d_Row_clear_5 : decode prog_5_method_2_code 5 = .ok (.return_, 1) := by decide +kernel
theorem d_Row_add_0 : decode prog_5_method_3_code 0 = .ok (.aload_n 0, 1) := by decide +kernel
theorem d_Row_add_1 : decode prog_5_method_3_code 1 = .ok (.getfield 15, 3) := by decide +kernel
theorem d_Row_add_4 : decode prog_5_method_3_code 4 = .ok (.bipush 41, 2) := by decide +kernel
theorem d_Row_add_6 : decode prog_5_method_3_code 6 = .ok (.if_icmp .lt 4, 3) := by decide +kernel
theorem d_Row_add_9 : decode prog_5_method_3_code 9 = .ok (.return_, 1) := by decide +kernel
theorem d_Row_add_10 : decode prog_5_method_3_code 10 = .ok (.aload_n 1, 1) := by decide +kernel
theorem d_Row_add_11 : decode prog_5_method_3_code 11 = .ok (.aload_n 0, 1) := by decide +kernel
theorem d_Row_add_12 : decode prog_5_method_3_code 12 = .ok (.getfield 9, 3) := by decide +kernel
theorem d_Row_add_15 : decode prog_5_method_3_code 15 = .ok (.aload_n 0, 1) := by decide +kernel
theorem d_Row_add_16 : decode prog_5_method_3_code 16 = .ok (.getfield 15, 3) := by decide +kernel
theorem d_Row_add_19 : decode prog_5_method_3_code 19 = .ok (.iconst 4, 1) := by decide +kernel
theorem d_Row_add_20 : decode prog_5_method_3_code 20 = .ok (.imul, 1) := by decide +kernel
theorem d_Row_add_21 : decode prog_5_method_3_code 21 = .ok (.invokevirtual 19, 3) := by decide +kernel
theorem d_Row_add_24 : decode prog_5_method_3_code 24 = .ok (.aload_n 0, 1) := by decide +kernel
theorem d_Row_add_25 : decode prog_5_method_3_code 25 = .ok (.dup, 1) := by decide +kernel
theorem d_Row_add_26 : decode prog_5_method_3_code 26 = .ok (.getfield 15, 3) := by decide +kernel
theorem d_Row_add_29 : decode prog_5_method_3_code 29 = .ok (.iconst 1, 1) := by decide +kernel
theorem d_Row_add_30 : decode prog_5_method_3_code 30 = .ok (.iadd, 1) := by decide +kernel
theorem d_Row_add_31 : decode prog_5_method_3_code 31 = .ok (.putfield 15, 3) := by decide +kernel
theorem d_Row_add_34 : decode prog_5_method_3_code 34 = .ok (.return_, 1) := by decide +kernel
theorem d_Desk_row_0 : decode prog_1_method_10_code 0 = .ok (.aload_n 0, 1) := by decide +kernel
theorem d_Desk_row_1 : decode prog_1_method_10_code 1 = .ok (.getfield 33, 3) := by decide +kernel
theorem d_Desk_row_4 : decode prog_1_method_10_code 4 = .ok (.iload_n 1, 1) := by decide +kernel
theorem d_Desk_row_5 : decode prog_1_method_10_code 5 = .ok (.iload_n 2, 1) := by decide +kernel
theorem d_Desk_row_6 : decode prog_1_method_10_code 6 = .ok (.invokevirtual 144, 3) := by decide +kernel
theorem d_Desk_row_9 : decode prog_1_method_10_code 9 = .ok (.lreturn, 1) := by decide +kernel
theorem d_Row_word_0 : decode prog_5_method_4_code 0 = .ok (.iload_n 1, 1) := by decide +kernel
theorem d_Row_word_1 : decode prog_5_method_4_code 1 = .ok (.ifCond .lt 20, 3) := by decide +kernel
theorem d_Row_word_4 : decode prog_5_method_4_code 4 = .ok (.iload_n 1, 1) := by decide +kernel
theorem d_Row_word_5 : decode prog_5_method_4_code 5 = .ok (.aload_n 0, 1) := by decide +kernel
theorem d_Row_word_6 : decode prog_5_method_4_code 6 = .ok (.getfield 15, 3) := by decide +kernel
theorem d_Row_word_9 : decode prog_5_method_4_code 9 = .ok (.if_icmp .ge 12, 3) := by decide +kernel
theorem d_Row_word_12 : decode prog_5_method_4_code 12 = .ok (.iload_n 2, 1) := by decide +kernel
theorem d_Row_word_13 : decode prog_5_method_4_code 13 = .ok (.ifCond .lt 8, 3) := by decide +kernel
theorem d_Row_word_16 : decode prog_5_method_4_code 16 = .ok (.iload_n 2, 1) := by decide +kernel
theorem d_Row_word_17 : decode prog_5_method_4_code 17 = .ok (.iconst 4, 1) := by decide +kernel
theorem d_Row_word_18 : decode prog_5_method_4_code 18 = .ok (.if_icmp .lt 5, 3) := by decide +kernel
theorem d_Row_word_21 : decode prog_5_method_4_code 21 = .ok (.lconst 0, 1) := by decide +kernel
theorem d_Row_word_22 : decode prog_5_method_4_code 22 = .ok (.lreturn, 1) := by decide +kernel
theorem d_Row_word_23 : decode prog_5_method_4_code 23 = .ok (.aload_n 0, 1) := by decide +kernel
theorem d_Row_word_24 : decode prog_5_method_4_code 24 = .ok (.getfield 9, 3) := by decide +kernel
theorem d_Row_word_27 : decode prog_5_method_4_code 27 = .ok (.iload_n 1, 1) := by decide +kernel
theorem d_Row_word_28 : decode prog_5_method_4_code 28 = .ok (.iconst 4, 1) := by decide +kernel
theorem d_Row_word_29 : decode prog_5_method_4_code 29 = .ok (.imul, 1) := by decide +kernel
theorem d_Row_word_30 : decode prog_5_method_4_code 30 = .ok (.iload_n 2, 1) := by decide +kernel
theorem d_Row_word_31 : decode prog_5_method_4_code 31 = .ok (.iadd, 1) := by decide +kernel
theorem d_Row_word_32 : decode prog_5_method_4_code 32 = .ok (.laload, 1) := by decide +kernel
theorem d_Row_word_33 : decode prog_5_method_4_code 33 = .ok (.lreturn, 1) := by decide +kernel
theorem d_Desk_count_0 : decode prog_1_method_11_code 0 = .ok (.iload_n 1, 1) := by decide +kernel
theorem d_Desk_count_1 : decode prog_1_method_11_code 1 = .ok (.tableswitch 85 0 4 #[35, 46, 54, 69, 77], 35) := by decide +kernel
theorem d_Desk_count_36 : decode prog_1_method_11_code 36 = .ok (.aload_n 0, 1) := by decide +kernel
theorem d_Desk_count_37 : decode prog_1_method_11_code 37 = .ok (.getfield 26, 3) := by decide +kernel
theorem d_Desk_count_40 : decode prog_1_method_11_code 40 = .ok (.getfield 148, 3) := by decide +kernel
theorem d_Desk_count_43 : decode prog_1_method_11_code 43 = .ok (.invokestatic 108, 3) := by decide +kernel
theorem d_Desk_count_46 : decode prog_1_method_11_code 46 = .ok (.ireturn, 1) := by decide +kernel
theorem d_Desk_count_47 : decode prog_1_method_11_code 47 = .ok (.aload_n 0, 1) := by decide +kernel
theorem d_Desk_count_48 : decode prog_1_method_11_code 48 = .ok (.getfield 26, 3) := by decide +kernel
theorem d_Desk_count_51 : decode prog_1_method_11_code 51 = .ok (.invokevirtual 151, 3) := by decide +kernel
theorem d_Desk_count_54 : decode prog_1_method_11_code 54 = .ok (.ireturn, 1) := by decide +kernel
theorem d_Desk_count_55 : decode prog_1_method_11_code 55 = .ok (.aload_n 0, 1) := by decide +kernel
theorem d_Desk_count_56 : decode prog_1_method_11_code 56 = .ok (.getfield 26, 3) := by decide +kernel
theorem d_Desk_count_59 : decode prog_1_method_11_code 59 = .ok (.aload_n 0, 1) := by decide +kernel
theorem d_Desk_count_60 : decode prog_1_method_11_code 60 = .ok (.getfield 26, 3) := by decide +kernel
theorem d_Desk_count_63 : decode prog_1_method_11_code 63 = .ok (.getfield 148, 3) := by decide +kernel
theorem d_Desk_count_66 : decode prog_1_method_11_code 66 = .ok (.invokevirtual 124, 3) := by decide +kernel
theorem d_Desk_count_69 : decode prog_1_method_11_code 69 = .ok (.ireturn, 1) := by decide +kernel
theorem d_Desk_count_70 : decode prog_1_method_11_code 70 = .ok (.aload_n 0, 1) := by decide +kernel
theorem d_Desk_count_71 : decode prog_1_method_11_code 71 = .ok (.getfield 19, 3) := by decide +kernel
theorem d_Desk_count_74 : decode prog_1_method_11_code 74 = .ok (.getfield 45, 3) := by decide +kernel
theorem d_Desk_count_77 : decode prog_1_method_11_code 77 = .ok (.ireturn, 1) := by decide +kernel
theorem d_Desk_count_78 : decode prog_1_method_11_code 78 = .ok (.aload_n 0, 1) := by decide +kernel
theorem d_Desk_count_79 : decode prog_1_method_11_code 79 = .ok (.getfield 26, 3) := by decide +kernel
theorem d_Desk_count_82 : decode prog_1_method_11_code 82 = .ok (.getfield 155, 3) := by decide +kernel
theorem d_Desk_count_85 : decode prog_1_method_11_code 85 = .ok (.ireturn, 1) := by decide +kernel
theorem d_Desk_count_86 : decode prog_1_method_11_code 86 = .ok (.iconst (-1), 1) := by decide +kernel
theorem d_Desk_count_87 : decode prog_1_method_11_code 87 = .ok (.ireturn, 1) := by decide +kernel
theorem d_Desk_fees_0 : decode prog_1_method_12_code 0 = .ok (.aload_n 0, 1) := by decide +kernel
theorem d_Desk_fees_1 : decode prog_1_method_12_code 1 = .ok (.getfield 26, 3) := by decide +kernel
theorem d_Desk_fees_4 : decode prog_1_method_12_code 4 = .ok (.aload_n 0, 1) := by decide +kernel
theorem d_Desk_fees_5 : decode prog_1_method_12_code 5 = .ok (.getfield 26, 3) := by decide +kernel
theorem d_Desk_fees_8 : decode prog_1_method_12_code 8 = .ok (.getfield 148, 3) := by decide +kernel
theorem d_Desk_fees_11 : decode prog_1_method_12_code 11 = .ok (.invokevirtual 121, 3) := by decide +kernel
theorem d_Desk_fees_14 : decode prog_1_method_12_code 14 = .ok (.lreturn, 1) := by decide +kernel
theorem ka_Name : ma_Kc "PoolDesk$Name" F_Name 4 t_Name := ⟨by decide +kernel, by decide +kernel, by decide +kernel⟩
theorem ka_Keys : ma_Kc "PoolDesk$Keys" F_Keys 3 t_Keys := ⟨by decide +kernel, by decide +kernel, by decide +kernel⟩
theorem ka_Tx : ma_Kc "PoolDesk$Transaction" F_Tx 8 t_Tx := ⟨by decide +kernel, by decide +kernel, by decide +kernel⟩
theorem ka_Pool : ma_Kc "PoolDesk$Pool" F_Pool 3 t_Pool := ⟨by decide +kernel, by decide +kernel, by decide +kernel⟩
theorem ka_Row : ma_Kc "PoolDesk$Row" F_Row 2 t_Row := ⟨by decide +kernel, by decide +kernel, by decide +kernel⟩
theorem ka_Desk : ma_Kc "PoolDesk" F_Desk 4 t_Desk := ⟨by decide +kernel, by decide +kernel, by decide +kernel⟩
theorem ka_Model : ma_Kc "PoolDeskModel" F_Model 17 t_Model := ⟨by decide +kernel, by decide +kernel, by decide +kernel⟩
theorem ok_Desk_init : ma_Ok M_Desk_init 0 := ⟨by decide +kernel, ⟨by decide +kernel, by decide +kernel, by decide +kernel⟩, by decide +kernel, by decide +kernel, by decide +kernel⟩
theorem ok_Name_init : ma_Ok M_Name_init 0 := ⟨by decide +kernel, ⟨by decide +kernel, by decide +kernel, by decide +kernel⟩, by decide +kernel, by decide +kernel, by decide +kernel⟩
theorem ok_Keys_init : ma_Ok M_Keys_init 0 := ⟨by decide +kernel, ⟨by decide +kernel, by decide +kernel, by decide +kernel⟩, by decide +kernel, by decide +kernel, by decide +kernel⟩
theorem ok_Pool_init : ma_Ok M_Pool_init 0 := ⟨by decide +kernel, ⟨by decide +kernel, by decide +kernel, by decide +kernel⟩, by decide +kernel, by decide +kernel, by decide +kernel⟩
theorem ok_Tx_init : ma_Ok M_Tx_init 0 := ⟨by decide +kernel, ⟨by decide +kernel, by decide +kernel, by decide +kernel⟩, by decide +kernel, by decide +kernel, by decide +kernel⟩
theorem ok_Row_init : ma_Ok M_Row_init 0 := ⟨by decide +kernel, ⟨by decide +kernel, by decide +kernel, by decide +kernel⟩, by decide +kernel, by decide +kernel, by decide +kernel⟩
theorem ok_Desk_name : ma_Ok M_Desk_name 4 := ⟨by decide +kernel, ⟨by decide +kernel, by decide +kernel, by decide +kernel⟩, by decide +kernel, by decide +kernel, by decide +kernel⟩
theorem ok_Name_set : ma_Ok M_Name_set 4 := ⟨by decide +kernel, ⟨by decide +kernel, by decide +kernel, by decide +kernel⟩, by decide +kernel, by decide +kernel, by decide +kernel⟩
theorem ok_Desk_spend : ma_Ok M_Desk_spend 1 := ⟨by decide +kernel, ⟨by decide +kernel, by decide +kernel, by decide +kernel⟩, by decide +kernel, by decide +kernel, by decide +kernel⟩
theorem ok_Keys_add : ma_Ok M_Keys_add 2 := ⟨by decide +kernel, ⟨by decide +kernel, by decide +kernel, by decide +kernel⟩, by decide +kernel, by decide +kernel, by decide +kernel⟩
theorem ok_Keys_contains : ma_Ok M_Keys_contains 2 := ⟨by decide +kernel, ⟨by decide +kernel, by decide +kernel, by decide +kernel⟩, by decide +kernel, by decide +kernel, by decide +kernel⟩
theorem ok_Keys_isOf : ma_Ok M_Keys_isOf 2 := ⟨by decide +kernel, ⟨by decide +kernel, by decide +kernel, by decide +kernel⟩, by decide +kernel, by decide +kernel, by decide +kernel⟩
theorem ok_Name_write : ma_Ok M_Name_write 2 := ⟨by decide +kernel, ⟨by decide +kernel, by decide +kernel, by decide +kernel⟩, by decide +kernel, by decide +kernel, by decide +kernel⟩
theorem ok_Desk_enter : ma_Ok M_Desk_enter 3 := ⟨by decide +kernel, ⟨by decide +kernel, by decide +kernel, by decide +kernel⟩, by decide +kernel, by decide +kernel, by decide +kernel⟩
theorem ok_Desk_isTransaction : ma_Ok M_Desk_isTransaction 3 := ⟨by decide +kernel, ⟨by decide +kernel, by decide +kernel, by decide +kernel⟩, by decide +kernel, by decide +kernel, by decide +kernel⟩
theorem ok_Pool_hindrance : ma_Ok M_Pool_hindrance 3 := ⟨by decide +kernel, ⟨by decide +kernel, by decide +kernel, by decide +kernel⟩, by decide +kernel, by decide +kernel, by decide +kernel⟩
theorem ok_Pool_find : ma_Ok M_Pool_find 1 := ⟨by decide +kernel, ⟨by decide +kernel, by decide +kernel, by decide +kernel⟩, by decide +kernel, by decide +kernel, by decide +kernel⟩
theorem ok_Desk_has : ma_Ok M_Desk_has 2 := ⟨by decide +kernel, ⟨by decide +kernel, by decide +kernel, by decide +kernel⟩, by decide +kernel, by decide +kernel, by decide +kernel⟩
theorem ok_Desk_bit : ma_Ok M_Desk_bit 1 := ⟨by decide +kernel, ⟨by decide +kernel, by decide +kernel, by decide +kernel⟩, by decide +kernel, by decide +kernel, by decide +kernel⟩
theorem ok_Name_same : ma_Ok M_Name_same 1 := ⟨by decide +kernel, ⟨by decide +kernel, by decide +kernel, by decide +kernel⟩, by decide +kernel, by decide +kernel, by decide +kernel⟩
theorem ok_Pool_isSpent : ma_Ok M_Pool_isSpent 1 := ⟨by decide +kernel, ⟨by decide +kernel, by decide +kernel, by decide +kernel⟩, by decide +kernel, by decide +kernel, by decide +kernel⟩
theorem ok_Keys_containsOneOf : ma_Ok M_Keys_containsOneOf 1 := ⟨by decide +kernel, ⟨by decide +kernel, by decide +kernel, by decide +kernel⟩, by decide +kernel, by decide +kernel, by decide +kernel⟩
theorem ok_Keys_sameName : ma_Ok M_Keys_sameName 3 := ⟨by decide +kernel, ⟨by decide +kernel, by decide +kernel, by decide +kernel⟩, by decide +kernel, by decide +kernel, by decide +kernel⟩
theorem ok_Pool_missesOutput : ma_Ok M_Pool_missesOutput 3 := ⟨by decide +kernel, ⟨by decide +kernel, by decide +kernel, by decide +kernel⟩, by decide +kernel, by decide +kernel, by decide +kernel⟩
theorem ok_Keys_misses : ma_Ok M_Keys_misses 2 := ⟨by decide +kernel, ⟨by decide +kernel, by decide +kernel, by decide +kernel⟩, by decide +kernel, by decide +kernel, by decide +kernel⟩
theorem ok_Pool_hangsOnItself : ma_Ok M_Pool_hangsOnItself 2 := ⟨by decide +kernel, ⟨by decide +kernel, by decide +kernel, by decide +kernel⟩, by decide +kernel, by decide +kernel, by decide +kernel⟩
theorem ok_Keys_bears : ma_Ok M_Keys_bears 1 := ⟨by decide +kernel, ⟨by decide +kernel, by decide +kernel, by decide +kernel⟩, by decide +kernel, by decide +kernel, by decide +kernel⟩
theorem ok_Pool_spendersOf : ma_Ok M_Pool_spendersOf 1 := ⟨by decide +kernel, ⟨by decide +kernel, by decide +kernel, by decide +kernel⟩, by decide +kernel, by decide +kernel, by decide +kernel⟩
theorem ok_Pool_family : ma_Ok M_Pool_family 1 := ⟨by decide +kernel, ⟨by decide +kernel, by decide +kernel, by decide +kernel⟩, by decide +kernel, by decide +kernel, by decide +kernel⟩
theorem ok_Desk_lowest : ma_Ok M_Desk_lowest 1 := ⟨by decide +kernel, ⟨by decide +kernel, by decide +kernel, by decide +kernel⟩, by decide +kernel, by decide +kernel, by decide +kernel⟩
theorem ok_Long_bitCount : ma_Ok M_Long_bitCount 1 := ⟨by decide +kernel, ⟨by decide +kernel, by decide +kernel, by decide +kernel⟩, by decide +kernel, by decide +kernel, by decide +kernel⟩
theorem ok_Pool_named : ma_Ok M_Pool_named 1 := ⟨by decide +kernel, ⟨by decide +kernel, by decide +kernel, by decide +kernel⟩, by decide +kernel, by decide +kernel, by decide +kernel⟩
theorem ok_Desk_letIn : ma_Ok M_Desk_letIn 3 := ⟨by decide +kernel, ⟨by decide +kernel, by decide +kernel, by decide +kernel⟩, by decide +kernel, by decide +kernel, by decide +kernel⟩
theorem ok_Pool_freePlace : ma_Ok M_Pool_freePlace 0 := ⟨by decide +kernel, ⟨by decide +kernel, by decide +kernel, by decide +kernel⟩, by decide +kernel, by decide +kernel, by decide +kernel⟩
theorem ok_Tx_describe : ma_Ok M_Tx_describe 3 := ⟨by decide +kernel, ⟨by decide +kernel, by decide +kernel, by decide +kernel⟩, by decide +kernel, by decide +kernel, by decide +kernel⟩
theorem ok_Pool_settle : ma_Ok M_Pool_settle 3 := ⟨by decide +kernel, ⟨by decide +kernel, by decide +kernel, by decide +kernel⟩, by decide +kernel, by decide +kernel, by decide +kernel⟩
theorem ok_Keys_copy : ma_Ok M_Keys_copy 1 := ⟨by decide +kernel, ⟨by decide +kernel, by decide +kernel, by decide +kernel⟩, by decide +kernel, by decide +kernel, by decide +kernel⟩
theorem ok_Pool_leastPaying : ma_Ok M_Pool_leastPaying 0 := ⟨by decide +kernel, ⟨by decide +kernel, by decide +kernel, by decide +kernel⟩, by decide +kernel, by decide +kernel, by decide +kernel⟩
theorem ok_Pool_sumOfFees : ma_Ok M_Pool_sumOfFees 1 := ⟨by decide +kernel, ⟨by decide +kernel, by decide +kernel, by decide +kernel⟩, by decide +kernel, by decide +kernel, by decide +kernel⟩
theorem ok_Pool_sumOfSizes : ma_Ok M_Pool_sumOfSizes 1 := ⟨by decide +kernel, ⟨by decide +kernel, by decide +kernel, by decide +kernel⟩, by decide +kernel, by decide +kernel, by decide +kernel⟩
theorem ok_Desk_compareRates : ma_Ok M_Desk_compareRates 4 := ⟨by decide +kernel, ⟨by decide +kernel, by decide +kernel, by decide +kernel⟩, by decide +kernel, by decide +kernel, by decide +kernel⟩
theorem ok_Long_compare : ma_Ok M_Long_compare 2 := ⟨by decide +kernel, ⟨by decide +kernel, by decide +kernel, by decide +kernel⟩, by decide +kernel, by decide +kernel, by decide +kernel⟩
theorem ok_Desk_removeFamily : ma_Ok M_Desk_removeFamily 1 := ⟨by decide +kernel, ⟨by decide +kernel, by decide +kernel, by decide +kernel⟩, by decide +kernel, by decide +kernel, by decide +kernel⟩
theorem ok_Pool_remove : ma_Ok M_Pool_remove 1 := ⟨by decide +kernel, ⟨by decide +kernel, by decide +kernel, by decide +kernel⟩, by decide +kernel, by decide +kernel, by decide +kernel⟩
theorem ok_Keys_clear : ma_Ok M_Keys_clear 0 := ⟨by decide +kernel, ⟨by decide +kernel, by decide +kernel, by decide +kernel⟩, by decide +kernel, by decide +kernel, by decide +kernel⟩
theorem ok_Desk_take : ma_Ok M_Desk_take 0 := ⟨by decide +kernel, ⟨by decide +kernel, by decide +kernel, by decide +kernel⟩, by decide +kernel, by decide +kernel, by decide +kernel⟩
theorem ok_Desk_drop : ma_Ok M_Desk_drop 0 := ⟨by decide +kernel, ⟨by decide +kernel, by decide +kernel, by decide +kernel⟩, by decide +kernel, by decide +kernel, by decide +kernel⟩
theorem ok_Desk_strike : ma_Ok M_Desk_strike 1 := ⟨by decide +kernel, ⟨by decide +kernel, by decide +kernel, by decide +kernel⟩, by decide +kernel, by decide +kernel, by decide +kernel⟩
theorem ok_Pool_findSpender : ma_Ok M_Pool_findSpender 2 := ⟨by decide +kernel, ⟨by decide +kernel, by decide +kernel, by decide +kernel⟩, by decide +kernel, by decide +kernel, by decide +kernel⟩
theorem ok_Desk_look : ma_Ok M_Desk_look 1 := ⟨by decide +kernel, ⟨by decide +kernel, by decide +kernel, by decide +kernel⟩, by decide +kernel, by decide +kernel, by decide +kernel⟩
theorem ok_Desk_order : ma_Ok M_Desk_order 1 := ⟨by decide +kernel, ⟨by decide +kernel, by decide +kernel, by decide +kernel⟩, by decide +kernel, by decide +kernel, by decide +kernel⟩
theorem ok_Row_clear : ma_Ok M_Row_clear 0 := ⟨by decide +kernel, ⟨by decide +kernel, by decide +kernel, by decide +kernel⟩, by decide +kernel, by decide +kernel, by decide +kernel⟩
theorem ok_Pool_bestPaying : ma_Ok M_Pool_bestPaying 2 := ⟨by decide +kernel, ⟨by decide +kernel, by decide +kernel, by decide +kernel⟩, by decide +kernel, by decide +kernel, by decide +kernel⟩
theorem ok_Pool_paysBetter : ma_Ok M_Pool_paysBetter 2 := ⟨by decide +kernel, ⟨by decide +kernel, by decide +kernel, by decide +kernel⟩, by decide +kernel, by decide +kernel, by decide +kernel⟩
theorem ok_Row_add : ma_Ok M_Row_add 1 := ⟨by decide +kernel, ⟨by decide +kernel, by decide +kernel, by decide +kernel⟩, by decide +kernel, by decide +kernel, by decide +kernel⟩
theorem ok_Desk_row : ma_Ok M_Desk_row 2 := ⟨by decide +kernel, ⟨by decide +kernel, by decide +kernel, by decide +kernel⟩, by decide +kernel, by decide +kernel, by decide +kernel⟩
theorem ok_Row_word : ma_Ok M_Row_word 2 := ⟨by decide +kernel, ⟨by decide +kernel, by decide +kernel, by decide +kernel⟩, by decide +kernel, by decide +kernel, by decide +kernel⟩
theorem ok_Desk_count : ma_Ok M_Desk_count 1 := ⟨by decide +kernel, ⟨by decide +kernel, by decide +kernel, by decide +kernel⟩, by decide +kernel, by decide +kernel, by decide +kernel⟩
theorem ok_Pool_sumOfKeys : ma_Ok M_Pool_sumOfKeys 0 := ⟨by decide +kernel, ⟨by decide +kernel, by decide +kernel, by decide +kernel⟩, by decide +kernel, by decide +kernel, by decide +kernel⟩
theorem ok_Desk_fees : ma_Ok M_Desk_fees 0 := ⟨by decide +kernel, ⟨by decide +kernel, by decide +kernel, by decide +kernel⟩, by decide +kernel, by decide +kernel, by decide +kernel⟩
