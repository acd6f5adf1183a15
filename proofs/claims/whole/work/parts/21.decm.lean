theorem d_Model_init_0 : decode prog_8_method_1_code 0 = .ok (.aload_n 0, 1) := by decide +kernel
theorem d_Model_init_1 : decode prog_8_method_1_code 1 = .ok (.invokespecial 1, 3) := by decide +kernel
theorem d_Model_init_4 : decode prog_8_method_1_code 4 = .ok (.aload_n 0, 1) := by decide +kernel
theorem d_Model_init_5 : decode prog_8_method_1_code 5 = .ok (.sipush 168, 3) := by decide +kernel
theorem d_Model_init_8 : decode prog_8_method_1_code 8 = .ok (.newarray .long, 2) := by decide +kernel
theorem d_Model_init_10 : decode prog_8_method_1_code 10 = .ok (.putfield 7, 3) := by decide +kernel
theorem d_Model_init_13 : decode prog_8_method_1_code 13 = .ok (.aload_n 0, 1) := by decide +kernel
theorem d_Model_init_14 : decode prog_8_method_1_code 14 = .ok (.bipush 42, 2) := by decide +kernel
theorem d_Model_init_16 : decode prog_8_method_1_code 16 = .ok (.newarray .int, 2) := by decide +kernel
theorem d_Model_init_18 : decode prog_8_method_1_code 18 = .ok (.putfield 13, 3) := by decide +kernel
theorem d_Model_init_21 : decode prog_8_method_1_code 21 = .ok (.aload_n 0, 1) := by decide +kernel
theorem d_Model_init_22 : decode prog_8_method_1_code 22 = .ok (.sipush 1344, 3) := by decide +kernel
theorem d_Model_init_25 : decode prog_8_method_1_code 25 = .ok (.newarray .long, 2) := by decide +kernel
theorem d_Model_init_27 : decode prog_8_method_1_code 27 = .ok (.putfield 17, 3) := by decide +kernel
theorem d_Model_init_30 : decode prog_8_method_1_code 30 = .ok (.aload_n 0, 1) := by decide +kernel
theorem d_Model_init_31 : decode prog_8_method_1_code 31 = .ok (.sipush 336, 3) := by decide +kernel
theorem d_Model_init_34 : decode prog_8_method_1_code 34 = .ok (.newarray .int, 2) := by decide +kernel
theorem d_Model_init_36 : decode prog_8_method_1_code 36 = .ok (.putfield 20, 3) := by decide +kernel
theorem d_Model_init_39 : decode prog_8_method_1_code 39 = .ok (.aload_n 0, 1) := by decide +kernel
theorem d_Model_init_40 : decode prog_8_method_1_code 40 = .ok (.bipush 42, 2) := by decide +kernel
theorem d_Model_init_42 : decode prog_8_method_1_code 42 = .ok (.newarray .long, 2) := by decide +kernel
theorem d_Model_init_44 : decode prog_8_method_1_code 44 = .ok (.putfield 23, 3) := by decide +kernel
theorem d_Model_init_47 : decode prog_8_method_1_code 47 = .ok (.aload_n 0, 1) := by decide +kernel
theorem d_Model_init_48 : decode prog_8_method_1_code 48 = .ok (.bipush 42, 2) := by decide +kernel
theorem d_Model_init_50 : decode prog_8_method_1_code 50 = .ok (.newarray .int, 2) := by decide +kernel
theorem d_Model_init_52 : decode prog_8_method_1_code 52 = .ok (.putfield 26, 3) := by decide +kernel
theorem d_Model_init_55 : decode prog_8_method_1_code 55 = .ok (.aload_n 0, 1) := by decide +kernel
theorem d_Model_init_56 : decode prog_8_method_1_code 56 = .ok (.bipush 42, 2) := by decide +kernel
theorem d_Model_init_58 : decode prog_8_method_1_code 58 = .ok (.newarray .int, 2) := by decide +kernel
theorem d_Model_init_60 : decode prog_8_method_1_code 60 = .ok (.putfield 29, 3) := by decide +kernel
theorem d_Model_init_63 : decode prog_8_method_1_code 63 = .ok (.aload_n 0, 1) := by decide +kernel
theorem d_Model_init_64 : decode prog_8_method_1_code 64 = .ok (.bipush 42, 2) := by decide +kernel
theorem d_Model_init_66 : decode prog_8_method_1_code 66 = .ok (.newarray .int, 2) := by decide +kernel
theorem d_Model_init_68 : decode prog_8_method_1_code 68 = .ok (.putfield 32, 3) := by decide +kernel
theorem d_Model_init_71 : decode prog_8_method_1_code 71 = .ok (.aload_n 0, 1) := by decide +kernel
theorem d_Model_init_72 : decode prog_8_method_1_code 72 = .ok (.iconst 4, 1) := by decide +kernel
theorem d_Model_init_73 : decode prog_8_method_1_code 73 = .ok (.newarray .long, 2) := by decide +kernel
theorem d_Model_init_75 : decode prog_8_method_1_code 75 = .ok (.putfield 35, 3) := by decide +kernel
theorem d_Model_init_78 : decode prog_8_method_1_code 78 = .ok (.aload_n 0, 1) := by decide +kernel
theorem d_Model_init_79 : decode prog_8_method_1_code 79 = .ok (.bipush 32, 2) := by decide +kernel
theorem d_Model_init_81 : decode prog_8_method_1_code 81 = .ok (.newarray .long, 2) := by decide +kernel
theorem d_Model_init_83 : decode prog_8_method_1_code 83 = .ok (.putfield 38, 3) := by decide +kernel
theorem d_Model_init_86 : decode prog_8_method_1_code 86 = .ok (.aload_n 0, 1) := by decide +kernel
theorem d_Model_init_87 : decode prog_8_method_1_code 87 = .ok (.bipush 8, 2) := by decide +kernel
theorem d_Model_init_89 : decode prog_8_method_1_code 89 = .ok (.newarray .int, 2) := by decide +kernel
theorem d_Model_init_91 : decode prog_8_method_1_code 91 = .ok (.putfield 41, 3) := by decide +kernel
theorem d_Model_init_94 : decode prog_8_method_1_code 94 = .ok (.aload_n 0, 1) := by decide +kernel
theorem d_Model_init_95 : decode prog_8_method_1_code 95 = .ok (.bipush 42, 2) := by decide +kernel
theorem d_Model_init_97 : decode prog_8_method_1_code 97 = .ok (.newarray .boolean, 2) := by decide +kernel
theorem d_Model_init_99 : decode prog_8_method_1_code 99 = .ok (.putfield 44, 3) := by decide +kernel
theorem d_Model_init_102 : decode prog_8_method_1_code 102 = .ok (.aload_n 0, 1) := by decide +kernel
theorem d_Model_init_103 : decode prog_8_method_1_code 103 = .ok (.sipush 164, 3) := by decide +kernel
theorem d_Model_init_106 : decode prog_8_method_1_code 106 = .ok (.newarray .long, 2) := by decide +kernel
theorem d_Model_init_108 : decode prog_8_method_1_code 108 = .ok (.putfield 48, 3) := by decide +kernel
theorem d_Model_init_111 : decode prog_8_method_1_code 111 = .ok (.return_, 1) := by decide +kernel
theorem d_Model_name_0 : decode prog_8_method_2_code 0 = .ok (.aload_n 0, 1) := by decide +kernel
theorem d_Model_name_1 : decode prog_8_method_2_code 1 = .ok (.getfield 35, 3) := by decide +kernel
theorem d_Model_name_4 : decode prog_8_method_2_code 4 = .ok (.iconst 0, 1) := by decide +kernel
theorem d_Model_name_5 : decode prog_8_method_2_code 5 = .ok (.lload_n 1, 1) := by decide +kernel
theorem d_Model_name_6 : decode prog_8_method_2_code 6 = .ok (.lastore, 1) := by decide +kernel
theorem d_Model_name_7 : decode prog_8_method_2_code 7 = .ok (.aload_n 0, 1) := by decide +kernel
theorem d_Model_name_8 : decode prog_8_method_2_code 8 = .ok (.getfield 35, 3) := by decide +kernel
theorem d_Model_name_11 : decode prog_8_method_2_code 11 = .ok (.iconst 1, 1) := by decide +kernel
theorem d_Model_name_12 : decode prog_8_method_2_code 12 = .ok (.lload_n 3, 1) := by decide +kernel
theorem d_Model_name_13 : decode prog_8_method_2_code 13 = .ok (.lastore, 1) := by decide +kernel
theorem d_Model_name_14 : decode prog_8_method_2_code 14 = .ok (.aload_n 0, 1) := by decide +kernel
theorem d_Model_name_15 : decode prog_8_method_2_code 15 = .ok (.getfield 35, 3) := by decide +kernel
theorem d_Model_name_18 : decode prog_8_method_2_code 18 = .ok (.iconst 2, 1) := by decide +kernel
theorem d_Model_name_19 : decode prog_8_method_2_code 19 = .ok (.lload 5, 2) := by decide +kernel
theorem d_Model_name_21 : decode prog_8_method_2_code 21 = .ok (.lastore, 1) := by decide +kernel
theorem d_Model_name_22 : decode prog_8_method_2_code 22 = .ok (.aload_n 0, 1) := by decide +kernel
theorem d_Model_name_23 : decode prog_8_method_2_code 23 = .ok (.getfield 35, 3) := by decide +kernel
theorem d_Model_name_26 : decode prog_8_method_2_code 26 = .ok (.iconst 3, 1) := by decide +kernel
theorem d_Model_name_27 : decode prog_8_method_2_code 27 = .ok (.lload 7, 2) := by decide +kernel
theorem d_Model_name_29 : decode prog_8_method_2_code 29 = .ok (.lastore, 1) := by decide +kernel
theorem d_Model_name_30 : decode prog_8_method_2_code 30 = .ok (.return_, 1) := by decide +kernel
theorem d_Model_spend_0 : decode prog_8_method_5_code 0 = .ok (.aload_n 0, 1) := by decide +kernel
theorem d_Model_spend_1 : decode prog_8_method_5_code 1 = .ok (.getfield 59, 3) := by decide +kernel
theorem d_Model_spend_4 : decode prog_8_method_5_code 4 = .ok (.bipush 8, 2) := by decide +kernel
theorem d_Model_spend_6 : decode prog_8_method_5_code 6 = .ok (.if_icmp .ne 5, 3) := by decide +kernel
theorem d_Model_spend_9 : decode prog_8_method_5_code 9 = .ok (.iconst 0, 1) := by decide +kernel
theorem d_Model_spend_10 : decode prog_8_method_5_code 10 = .ok (.ireturn, 1) := by decide +kernel
theorem d_Model_spend_11 : decode prog_8_method_5_code 11 = .ok (.iconst 0, 1) := by decide +kernel
theorem d_Model_spend_12 : decode prog_8_method_5_code 12 = .ok (.istore_n 2, 1) := by decide +kernel
theorem d_Model_spend_13 : decode prog_8_method_5_code 13 = .ok (.iload_n 2, 1) := by decide +kernel
theorem d_Model_spend_14 : decode prog_8_method_5_code 14 = .ok (.aload_n 0, 1) := by decide +kernel
theorem d_Model_spend_15 : decode prog_8_method_5_code 15 = .ok (.getfield 59, 3) := by decide +kernel
theorem d_Model_spend_18 : decode prog_8_method_5_code 18 = .ok (.if_icmp .ge 78, 3) := by decide +kernel
theorem d_Model_spend_21 : decode prog_8_method_5_code 21 = .ok (.aload_n 0, 1) := by decide +kernel
theorem d_Model_spend_22 : decode prog_8_method_5_code 22 = .ok (.getfield 41, 3) := by decide +kernel
theorem d_Model_spend_25 : decode prog_8_method_5_code 25 = .ok (.iload_n 2, 1) := by decide +kernel
theorem d_Model_spend_26 : decode prog_8_method_5_code 26 = .ok (.iaload, 1) := by decide +kernel
theorem d_Model_spend_27 : decode prog_8_method_5_code 27 = .ok (.iload_n 1, 1) := by decide +kernel
theorem d_Model_spend_28 : decode prog_8_method_5_code 28 = .ok (.if_icmp .ne 7, 3) := by decide +kernel
theorem d_Model_spend_31 : decode prog_8_method_5_code 31 = .ok (.iconst 1, 1) := by decide +kernel
theorem d_Model_spend_32 : decode prog_8_method_5_code 32 = .ok (.goto 4, 3) := by decide +kernel
theorem d_Model_spend_35 : decode prog_8_method_5_code 35 = .ok (.iconst 0, 1) := by decide +kernel
theorem d_Model_spend_36 : decode prog_8_method_5_code 36 = .ok (.istore_n 3, 1) := by decide +kernel
theorem d_Model_spend_37 : decode prog_8_method_5_code 37 = .ok (.iconst 0, 1) := by decide +kernel
theorem d_Model_spend_38 : decode prog_8_method_5_code 38 = .ok (.istore 4, 2) := by decide +kernel
theorem d_Model_spend_40 : decode prog_8_method_5_code 40 = .ok (.iload 4, 2) := by decide +kernel
theorem d_Model_spend_42 : decode prog_8_method_5_code 42 = .ok (.iconst 4, 1) := by decide +kernel
theorem d_Model_spend_43 : decode prog_8_method_5_code 43 = .ok (.if_icmp .ge 41, 3) := by decide +kernel
theorem d_Model_spend_46 : decode prog_8_method_5_code 46 = .ok (.iload_n 3, 1) := by decide +kernel
theorem d_Model_spend_47 : decode prog_8_method_5_code 47 = .ok (.ifCond .eq 29, 3) := by decide +kernel
theorem d_Model_spend_50 : decode prog_8_method_5_code 50 = .ok (.aload_n 0, 1) := by decide +kernel
theorem d_Model_spend_51 : decode prog_8_method_5_code 51 = .ok (.getfield 38, 3) := by decide +kernel
theorem d_Model_spend_54 : decode prog_8_method_5_code 54 = .ok (.iconst 4, 1) := by decide +kernel
theorem d_Model_spend_55 : decode prog_8_method_5_code 55 = .ok (.iload_n 2, 1) := by decide +kernel
theorem d_Model_spend_56 : decode prog_8_method_5_code 56 = .ok (.imul, 1) := by decide +kernel
theorem d_Model_spend_57 : decode prog_8_method_5_code 57 = .ok (.iload 4, 2) := by decide +kernel
theorem d_Model_spend_59 : decode prog_8_method_5_code 59 = .ok (.iadd, 1) := by decide +kernel
theorem d_Model_spend_60 : decode prog_8_method_5_code 60 = .ok (.laload, 1) := by decide +kernel
theorem d_Model_spend_61 : decode prog_8_method_5_code 61 = .ok (.aload_n 0, 1) := by decide +kernel
theorem d_Model_spend_62 : decode prog_8_method_5_code 62 = .ok (.getfield 35, 3) := by decide +kernel
theorem d_Model_spend_65 : decode prog_8_method_5_code 65 = .ok (.iload 4, 2) := by decide +kernel
theorem d_Model_spend_67 : decode prog_8_method_5_code 67 = .ok (.laload, 1) := by decide +kernel
theorem d_Model_spend_68 : decode prog_8_method_5_code 68 = .ok (.lcmp, 1) := by decide +kernel
theorem d_Model_spend_69 : decode prog_8_method_5_code 69 = .ok (.ifCond .ne 7, 3) := by decide +kernel
theorem d_Model_spend_72 : decode prog_8_method_5_code 72 = .ok (.iconst 1, 1) := by decide +kernel
theorem d_Model_spend_73 : decode prog_8_method_5_code 73 = .ok (.goto 4, 3) := by decide +kernel
theorem d_Model_spend_76 : decode prog_8_method_5_code 76 = .ok (.iconst 0, 1) := by decide +kernel
theorem d_Model_spend_77 : decode prog_8_method_5_code 77 = .ok (.istore_n 3, 1) := by decide +kernel
theorem d_Model_spend_78 : decode prog_8_method_5_code 78 = .ok (.iinc 4 1, 3) := by decide +kernel
theorem d_Model_spend_81 : decode prog_8_method_5_code 81 = .ok (.goto (-41), 3) := by decide +kernel
theorem d_Model_spend_84 : decode prog_8_method_5_code 84 = .ok (.iload_n 3, 1) := by decide +kernel
theorem d_Model_spend_85 : decode prog_8_method_5_code 85 = .ok (.ifCond .eq 5, 3) := by decide +kernel
theorem d_Model_spend_88 : decode prog_8_method_5_code 88 = .ok (.iconst 0, 1) := by decide +kernel
theorem d_Model_spend_89 : decode prog_8_method_5_code 89 = .ok (.ireturn, 1) := by decide +kernel
theorem d_Model_spend_90 : decode prog_8_method_5_code 90 = .ok (.iinc 2 1, 3) := by decide +kernel
theorem d_Model_spend_93 : decode prog_8_method_5_code 93 = .ok (.goto (-80), 3) := by decide +kernel
theorem d_Model_spend_96 : decode prog_8_method_5_code 96 = .ok (.iconst 0, 1) := by decide +kernel
theorem d_Model_spend_97 : decode prog_8_method_5_code 97 = .ok (.istore_n 2, 1) := by decide +kernel
theorem d_Model_spend_98 : decode prog_8_method_5_code 98 = .ok (.iload_n 2, 1) := by decide +kernel
theorem d_Model_spend_99 : decode prog_8_method_5_code 99 = .ok (.iconst 4, 1) := by decide +kernel
theorem d_Model_spend_100 : decode prog_8_method_5_code 100 = .ok (.if_icmp .ge 28, 3) := by decide +kernel
theorem d_Model_spend_103 : decode prog_8_method_5_code 103 = .ok (.aload_n 0, 1) := by decide +kernel
theorem d_Model_spend_104 : decode prog_8_method_5_code 104 = .ok (.getfield 38, 3) := by decide +kernel
theorem d_Model_spend_107 : decode prog_8_method_5_code 107 = .ok (.iconst 4, 1) := by decide +kernel
theorem d_Model_spend_108 : decode prog_8_method_5_code 108 = .ok (.aload_n 0, 1) := by decide +kernel
theorem d_Model_spend_109 : decode prog_8_method_5_code 109 = .ok (.getfield 59, 3) := by decide +kernel
theorem d_Model_spend_112 : decode prog_8_method_5_code 112 = .ok (.imul, 1) := by decide +kernel
theorem d_Model_spend_113 : decode prog_8_method_5_code 113 = .ok (.iload_n 2, 1) := by decide +kernel
theorem d_Model_spend_114 : decode prog_8_method_5_code 114 = .ok (.iadd, 1) := by decide +kernel
theorem d_Model_spend_115 : decode prog_8_method_5_code 115 = .ok (.aload_n 0, 1) := by decide +kernel
theorem d_Model_spend_116 : decode prog_8_method_5_code 116 = .ok (.getfield 35, 3) := by decide +kernel
theorem d_Model_spend_119 : decode prog_8_method_5_code 119 = .ok (.iload_n 2, 1) := by decide +kernel
theorem d_Model_spend_120 : decode prog_8_method_5_code 120 = .ok (.laload, 1) := by decide +kernel
theorem d_Model_spend_121 : decode prog_8_method_5_code 121 = .ok (.lastore, 1) := by decide +kernel
theorem d_Model_spend_122 : decode prog_8_method_5_code 122 = .ok (.iinc 2 1, 3) := by decide +kernel
theorem d_Model_spend_125 : decode prog_8_method_5_code 125 = .ok (.goto (-27), 3) := by decide +kernel
theorem d_Model_spend_128 : decode prog_8_method_5_code 128 = .ok (.aload_n 0, 1) := by decide +kernel
theorem d_Model_spend_129 : decode prog_8_method_5_code 129 = .ok (.getfield 41, 3) := by decide +kernel
theorem d_Model_spend_132 : decode prog_8_method_5_code 132 = .ok (.aload_n 0, 1) := by decide +kernel
theorem d_Model_spend_133 : decode prog_8_method_5_code 133 = .ok (.getfield 59, 3) := by decide +kernel
theorem d_Model_spend_136 : decode prog_8_method_5_code 136 = .ok (.iload_n 1, 1) := by decide +kernel
theorem d_Model_spend_137 : decode prog_8_method_5_code 137 = .ok (.iastore, 1) := by decide +kernel
theorem d_Model_spend_138 : decode prog_8_method_5_code 138 = .ok (.aload_n 0, 1) := by decide +kernel
theorem d_Model_spend_139 : decode prog_8_method_5_code 139 = .ok (.aload_n 0, 1) := by decide +kernel
theorem d_Model_spend_140 : decode prog_8_method_5_code 140 = .ok (.getfield 59, 3) := by decide +kernel
theorem d_Model_spend_143 : decode prog_8_method_5_code 143 = .ok (.iconst 1, 1) := by decide +kernel
theorem d_Model_spend_144 : decode prog_8_method_5_code 144 = .ok (.iadd, 1) := by decide +kernel
theorem d_Model_spend_145 : decode prog_8_method_5_code 145 = .ok (.putfield 59, 3) := by decide +kernel
theorem d_Model_spend_148 : decode prog_8_method_5_code 148 = .ok (.iconst 1, 1) := by decide +kernel
theorem d_Model_spend_149 : decode prog_8_method_5_code 149 = .ok (.ireturn, 1) := by decide +kernel
theorem d_Model_enter_0 : decode prog_8_method_18_code 0 = .ok (.aload_n 0, 1) := by decide +kernel
theorem d_Model_enter_1 : decode prog_8_method_18_code 1 = .ok (.getfield 59, 3) := by decide +kernel
theorem d_Model_enter_4 : decode prog_8_method_18_code 4 = .ok (.ifCond .eq 41, 3) := by decide +kernel
theorem d_Model_enter_7 : decode prog_8_method_18_code 7 = .ok (.lload_n 1, 1) := by decide +kernel
theorem d_Model_enter_8 : decode prog_8_method_18_code 8 = .ok (.lconst 0, 1) := by decide +kernel
theorem d_Model_enter_9 : decode prog_8_method_18_code 9 = .ok (.lcmp, 1) := by decide +kernel
theorem d_Model_enter_10 : decode prog_8_method_18_code 10 = .ok (.ifCond .lt 35, 3) := by decide +kernel
theorem d_Model_enter_13 : decode prog_8_method_18_code 13 = .ok (.lload_n 1, 1) := by decide +kernel
theorem d_Model_enter_14 : decode prog_8_method_18_code 14 = .ok (.ldc2_w 92, 3) := by decide +kernel
theorem d_Model_enter_17 : decode prog_8_method_18_code 17 = .ok (.lcmp, 1) := by decide +kernel
theorem d_Model_enter_18 : decode prog_8_method_18_code 18 = .ok (.ifCond .gt 27, 3) := by decide +kernel
theorem d_Model_enter_21 : decode prog_8_method_18_code 21 = .ok (.iload_n 3, 1) := by decide +kernel
theorem d_Model_enter_22 : decode prog_8_method_18_code 22 = .ok (.iconst 1, 1) := by decide +kernel
theorem d_Model_enter_23 : decode prog_8_method_18_code 23 = .ok (.if_icmp .lt 22, 3) := by decide +kernel
theorem d_Model_enter_26 : decode prog_8_method_18_code 26 = .ok (.iload_n 3, 1) := by decide +kernel
theorem d_Model_enter_27 : decode prog_8_method_18_code 27 = .ok (.sipush 2000, 3) := by decide +kernel
theorem d_Model_enter_30 : decode prog_8_method_18_code 30 = .ok (.if_icmp .gt 15, 3) := by decide +kernel
theorem d_Model_enter_33 : decode prog_8_method_18_code 33 = .ok (.iload 4, 2) := by decide +kernel
theorem d_Model_enter_35 : decode prog_8_method_18_code 35 = .ok (.ifCond .lt 10, 3) := by decide +kernel
theorem d_Model_enter_38 : decode prog_8_method_18_code 38 = .ok (.iload 4, 2) := by decide +kernel
theorem d_Model_enter_40 : decode prog_8_method_18_code 40 = .ok (.bipush 8, 2) := by decide +kernel
theorem d_Model_enter_42 : decode prog_8_method_18_code 42 = .ok (.if_icmp .le 5, 3) := by decide +kernel
theorem d_Model_enter_45 : decode prog_8_method_18_code 45 = .ok (.iconst (-1), 1) := by decide +kernel
theorem d_Model_enter_46 : decode prog_8_method_18_code 46 = .ok (.ireturn, 1) := by decide +kernel
theorem d_Model_enter_47 : decode prog_8_method_18_code 47 = .ok (.bipush 41, 2) := by decide +kernel
theorem d_Model_enter_49 : decode prog_8_method_18_code 49 = .ok (.istore 5, 2) := by decide +kernel
theorem d_Model_enter_51 : decode prog_8_method_18_code 51 = .ok (.iconst 0, 1) := by decide +kernel
theorem d_Model_enter_52 : decode prog_8_method_18_code 52 = .ok (.istore 6, 2) := by decide +kernel
theorem d_Model_enter_54 : decode prog_8_method_18_code 54 = .ok (.iload 6, 2) := by decide +kernel
theorem d_Model_enter_56 : decode prog_8_method_18_code 56 = .ok (.iconst 4, 1) := by decide +kernel
theorem d_Model_enter_57 : decode prog_8_method_18_code 57 = .ok (.if_icmp .ge 28, 3) := by decide +kernel
theorem d_Model_enter_60 : decode prog_8_method_18_code 60 = .ok (.aload_n 0, 1) := by decide +kernel
theorem d_Model_enter_61 : decode prog_8_method_18_code 61 = .ok (.getfield 7, 3) := by decide +kernel
theorem d_Model_enter_64 : decode prog_8_method_18_code 64 = .ok (.iconst 4, 1) := by decide +kernel
theorem d_Model_enter_65 : decode prog_8_method_18_code 65 = .ok (.iload 5, 2) := by decide +kernel
theorem d_Model_enter_67 : decode prog_8_method_18_code 67 = .ok (.imul, 1) := by decide +kernel
theorem d_Model_enter_68 : decode prog_8_method_18_code 68 = .ok (.iload 6, 2) := by decide +kernel
theorem d_Model_enter_70 : decode prog_8_method_18_code 70 = .ok (.iadd, 1) := by decide +kernel
theorem d_Model_enter_71 : decode prog_8_method_18_code 71 = .ok (.aload_n 0, 1) := by decide +kernel
theorem d_Model_enter_72 : decode prog_8_method_18_code 72 = .ok (.getfield 35, 3) := by decide +kernel
theorem d_Model_enter_75 : decode prog_8_method_18_code 75 = .ok (.iload 6, 2) := by decide +kernel
theorem d_Model_enter_77 : decode prog_8_method_18_code 77 = .ok (.laload, 1) := by decide +kernel
theorem d_Model_enter_78 : decode prog_8_method_18_code 78 = .ok (.lastore, 1) := by decide +kernel
theorem d_Model_enter_79 : decode prog_8_method_18_code 79 = .ok (.iinc 6 1, 3) := by decide +kernel
theorem d_Model_enter_82 : decode prog_8_method_18_code 82 = .ok (.goto (-28), 3) := by decide +kernel
theorem d_Model_enter_85 : decode prog_8_method_18_code 85 = .ok (.iconst 0, 1) := by decide +kernel
theorem d_Model_enter_86 : decode prog_8_method_18_code 86 = .ok (.istore 6, 2) := by decide +kernel
theorem d_Model_enter_88 : decode prog_8_method_18_code 88 = .ok (.iload 6, 2) := by decide +kernel
theorem d_Model_enter_90 : decode prog_8_method_18_code 90 = .ok (.bipush 32, 2) := by decide +kernel
theorem d_Model_enter_92 : decode prog_8_method_18_code 92 = .ok (.if_icmp .ge 29, 3) := by decide +kernel
theorem d_Model_enter_95 : decode prog_8_method_18_code 95 = .ok (.aload_n 0, 1) := by decide +kernel
theorem d_Model_enter_96 : decode prog_8_method_18_code 96 = .ok (.getfield 17, 3) := by decide +kernel
theorem d_Model_enter_99 : decode prog_8_method_18_code 99 = .ok (.bipush 32, 2) := by decide +kernel
theorem d_Model_enter_101 : decode prog_8_method_18_code 101 = .ok (.iload 5, 2) := by decide +kernel
theorem d_Model_enter_103 : decode prog_8_method_18_code 103 = .ok (.imul, 1) := by decide +kernel
theorem d_Model_enter_104 : decode prog_8_method_18_code 104 = .ok (.iload 6, 2) := by decide +kernel
theorem d_Model_enter_106 : decode prog_8_method_18_code 106 = .ok (.iadd, 1) := by decide +kernel
theorem d_Model_enter_107 : decode prog_8_method_18_code 107 = .ok (.aload_n 0, 1) := by decide +kernel
theorem d_Model_enter_108 : decode prog_8_method_18_code 108 = .ok (.getfield 38, 3) := by decide +kernel
theorem d_Model_enter_111 : decode prog_8_method_18_code 111 = .ok (.iload 6, 2) := by decide +kernel
theorem d_Model_enter_113 : decode prog_8_method_18_code 113 = .ok (.laload, 1) := by decide +kernel
theorem d_Model_enter_114 : decode prog_8_method_18_code 114 = .ok (.lastore, 1) := by decide +kernel
theorem d_Model_enter_115 : decode prog_8_method_18_code 115 = .ok (.iinc 6 1, 3) := by decide +kernel
theorem d_Model_enter_118 : decode prog_8_method_18_code 118 = .ok (.goto (-30), 3) := by decide +kernel
theorem d_Model_enter_121 : decode prog_8_method_18_code 121 = .ok (.iconst 0, 1) := by decide +kernel
theorem d_Model_enter_122 : decode prog_8_method_18_code 122 = .ok (.istore 6, 2) := by decide +kernel
theorem d_Model_enter_124 : decode prog_8_method_18_code 124 = .ok (.iload 6, 2) := by decide +kernel
theorem d_Model_enter_126 : decode prog_8_method_18_code 126 = .ok (.bipush 8, 2) := by decide +kernel
theorem d_Model_enter_128 : decode prog_8_method_18_code 128 = .ok (.if_icmp .ge 29, 3) := by decide +kernel
theorem d_Model_enter_131 : decode prog_8_method_18_code 131 = .ok (.aload_n 0, 1) := by decide +kernel
theorem d_Model_enter_132 : decode prog_8_method_18_code 132 = .ok (.getfield 20, 3) := by decide +kernel
theorem d_Model_enter_135 : decode prog_8_method_18_code 135 = .ok (.bipush 8, 2) := by decide +kernel
theorem d_Model_enter_137 : decode prog_8_method_18_code 137 = .ok (.iload 5, 2) := by decide +kernel
theorem d_Model_enter_139 : decode prog_8_method_18_code 139 = .ok (.imul, 1) := by decide +kernel
theorem d_Model_enter_140 : decode prog_8_method_18_code 140 = .ok (.iload 6, 2) := by decide +kernel
theorem d_Model_enter_142 : decode prog_8_method_18_code 142 = .ok (.iadd, 1) := by decide +kernel
theorem d_Model_enter_143 : decode prog_8_method_18_code 143 = .ok (.aload_n 0, 1) := by decide +kernel
theorem d_Model_enter_144 : decode prog_8_method_18_code 144 = .ok (.getfield 41, 3) := by decide +kernel
theorem d_Model_enter_147 : decode prog_8_method_18_code 147 = .ok (.iload 6, 2) := by decide +kernel
theorem d_Model_enter_149 : decode prog_8_method_18_code 149 = .ok (.iaload, 1) := by decide +kernel
theorem d_Model_enter_150 : decode prog_8_method_18_code 150 = .ok (.iastore, 1) := by decide +kernel
theorem d_Model_enter_151 : decode prog_8_method_18_code 151 = .ok (.iinc 6 1, 3) := by decide +kernel
theorem d_Model_enter_154 : decode prog_8_method_18_code 154 = .ok (.goto (-30), 3) := by decide +kernel
theorem d_Model_enter_157 : decode prog_8_method_18_code 157 = .ok (.aload_n 0, 1) := by decide +kernel
theorem d_Model_enter_158 : decode prog_8_method_18_code 158 = .ok (.getfield 13, 3) := by decide +kernel
theorem d_Model_enter_161 : decode prog_8_method_18_code 161 = .ok (.iload 5, 2) := by decide +kernel
theorem d_Model_enter_163 : decode prog_8_method_18_code 163 = .ok (.aload_n 0, 1) := by decide +kernel
theorem d_Model_enter_164 : decode prog_8_method_18_code 164 = .ok (.getfield 59, 3) := by decide +kernel
theorem d_Model_enter_167 : decode prog_8_method_18_code 167 = .ok (.iastore, 1) := by decide +kernel
theorem d_Model_enter_168 : decode prog_8_method_18_code 168 = .ok (.aload_n 0, 1) := by decide +kernel
theorem d_Model_enter_169 : decode prog_8_method_18_code 169 = .ok (.getfield 23, 3) := by decide +kernel
theorem d_Model_enter_172 : decode prog_8_method_18_code 172 = .ok (.iload 5, 2) := by decide +kernel
theorem d_Model_enter_174 : decode prog_8_method_18_code 174 = .ok (.lload_n 1, 1) := by decide +kernel
theorem d_Model_enter_175 : decode prog_8_method_18_code 175 = .ok (.lastore, 1) := by decide +kernel
theorem d_Model_enter_176 : decode prog_8_method_18_code 176 = .ok (.aload_n 0, 1) := by decide +kernel
theorem d_Model_enter_177 : decode prog_8_method_18_code 177 = .ok (.getfield 26, 3) := by decide +kernel
theorem d_Model_enter_180 : decode prog_8_method_18_code 180 = .ok (.iload 5, 2) := by decide +kernel
theorem d_Model_enter_182 : decode prog_8_method_18_code 182 = .ok (.iload_n 3, 1) := by decide +kernel
theorem d_Model_enter_183 : decode prog_8_method_18_code 183 = .ok (.iastore, 1) := by decide +kernel
theorem d_Model_enter_184 : decode prog_8_method_18_code 184 = .ok (.aload_n 0, 1) := by decide +kernel
theorem d_Model_enter_185 : decode prog_8_method_18_code 185 = .ok (.getfield 29, 3) := by decide +kernel
theorem d_Model_enter_188 : decode prog_8_method_18_code 188 = .ok (.iload 5, 2) := by decide +kernel
theorem d_Model_enter_190 : decode prog_8_method_18_code 190 = .ok (.iload 4, 2) := by decide +kernel
theorem d_Model_enter_192 : decode prog_8_method_18_code 192 = .ok (.iastore, 1) := by decide +kernel
theorem d_Model_enter_193 : decode prog_8_method_18_code 193 = .ok (.aload_n 0, 1) := by decide +kernel
theorem d_Model_enter_194 : decode prog_8_method_18_code 194 = .ok (.iconst 0, 1) := by decide +kernel
theorem d_Model_enter_195 : decode prog_8_method_18_code 195 = .ok (.putfield 59, 3) := by decide +kernel
theorem d_Model_enter_198 : decode prog_8_method_18_code 198 = .ok (.aload_n 0, 1) := by decide +kernel
theorem d_Model_enter_199 : decode prog_8_method_18_code 199 = .ok (.iload 5, 2) := by decide +kernel
theorem d_Model_enter_201 : decode prog_8_method_18_code 201 = .ok (.invokevirtual 94, 3) := by decide +kernel
theorem d_Model_enter_204 : decode prog_8_method_18_code 204 = .ok (.ireturn, 1) := by decide +kernel
theorem d_Model_come_0 : decode prog_8_method_19_code 0 = .ok (.aload_n 0, 1) := by decide +kernel
theorem d_Model_come_1 : decode prog_8_method_19_code 1 = .ok (.invokevirtual 98, 3) := by decide +kernel
theorem d_Model_come_4 : decode prog_8_method_19_code 4 = .ok (.ifCond .lt 5, 3) := by decide +kernel
theorem d_Model_come_7 : decode prog_8_method_19_code 7 = .ok (.iconst 1, 1) := by decide +kernel
theorem d_Model_come_8 : decode prog_8_method_19_code 8 = .ok (.ireturn, 1) := by decide +kernel
theorem d_Model_come_9 : decode prog_8_method_19_code 9 = .ok (.iconst 0, 1) := by decide +kernel
theorem d_Model_come_10 : decode prog_8_method_19_code 10 = .ok (.istore_n 2, 1) := by decide +kernel
theorem d_Model_come_11 : decode prog_8_method_19_code 11 = .ok (.iload_n 2, 1) := by decide +kernel
theorem d_Model_come_12 : decode prog_8_method_19_code 12 = .ok (.aload_n 0, 1) := by decide +kernel
theorem d_Model_come_13 : decode prog_8_method_19_code 13 = .ok (.getfield 51, 3) := by decide +kernel
theorem d_Model_come_16 : decode prog_8_method_19_code 16 = .ok (.if_icmp .ge 20, 3) := by decide +kernel
theorem d_Model_come_19 : decode prog_8_method_19_code 19 = .ok (.aload_n 0, 1) := by decide +kernel
theorem d_Model_come_20 : decode prog_8_method_19_code 20 = .ok (.iload_n 1, 1) := by decide +kernel
theorem d_Model_come_21 : decode prog_8_method_19_code 21 = .ok (.iload_n 2, 1) := by decide +kernel
theorem d_Model_come_22 : decode prog_8_method_19_code 22 = .ok (.invokevirtual 102, 3) := by decide +kernel
theorem d_Model_come_25 : decode prog_8_method_19_code 25 = .ok (.ifCond .eq 5, 3) := by decide +kernel
theorem d_Model_come_28 : decode prog_8_method_19_code 28 = .ok (.iconst 2, 1) := by decide +kernel
theorem d_Model_come_29 : decode prog_8_method_19_code 29 = .ok (.ireturn, 1) := by decide +kernel
theorem d_Model_come_30 : decode prog_8_method_19_code 30 = .ok (.iinc 2 1, 3) := by decide +kernel
theorem d_Model_come_33 : decode prog_8_method_19_code 33 = .ok (.goto (-22), 3) := by decide +kernel
theorem d_Model_come_36 : decode prog_8_method_19_code 36 = .ok (.iconst 0, 1) := by decide +kernel
theorem d_Model_come_37 : decode prog_8_method_19_code 37 = .ok (.istore_n 2, 1) := by decide +kernel
theorem d_Model_come_38 : decode prog_8_method_19_code 38 = .ok (.iload_n 2, 1) := by decide +kernel
theorem d_Model_come_39 : decode prog_8_method_19_code 39 = .ok (.aload_n 0, 1) := by decide +kernel
theorem d_Model_come_40 : decode prog_8_method_19_code 40 = .ok (.getfield 51, 3) := by decide +kernel
theorem d_Model_come_43 : decode prog_8_method_19_code 43 = .ok (.if_icmp .ge 29, 3) := by decide +kernel
theorem d_Model_come_46 : decode prog_8_method_19_code 46 = .ok (.aload_n 0, 1) := by decide +kernel
theorem d_Model_come_47 : decode prog_8_method_19_code 47 = .ok (.iload_n 1, 1) := by decide +kernel
theorem d_Model_come_48 : decode prog_8_method_19_code 48 = .ok (.iload_n 2, 1) := by decide +kernel
theorem d_Model_come_49 : decode prog_8_method_19_code 49 = .ok (.invokevirtual 105, 3) := by decide +kernel
theorem d_Model_come_52 : decode prog_8_method_19_code 52 = .ok (.ifCond .ne 12, 3) := by decide +kernel
theorem d_Model_come_55 : decode prog_8_method_19_code 55 = .ok (.aload_n 0, 1) := by decide +kernel
theorem d_Model_come_56 : decode prog_8_method_19_code 56 = .ok (.iload_n 2, 1) := by decide +kernel
theorem d_Model_come_57 : decode prog_8_method_19_code 57 = .ok (.iload_n 1, 1) := by decide +kernel
theorem d_Model_come_58 : decode prog_8_method_19_code 58 = .ok (.invokevirtual 105, 3) := by decide +kernel
theorem d_Model_come_61 : decode prog_8_method_19_code 61 = .ok (.ifCond .eq 5, 3) := by decide +kernel
theorem d_Model_come_64 : decode prog_8_method_19_code 64 = .ok (.iconst 3, 1) := by decide +kernel
theorem d_Model_come_65 : decode prog_8_method_19_code 65 = .ok (.ireturn, 1) := by decide +kernel
theorem d_Model_come_66 : decode prog_8_method_19_code 66 = .ok (.iinc 2 1, 3) := by decide +kernel
theorem d_Model_come_69 : decode prog_8_method_19_code 69 = .ok (.goto (-31), 3) := by decide +kernel
theorem d_Model_come_72 : decode prog_8_method_19_code 72 = .ok (.aload_n 0, 1) := by decide +kernel
theorem d_Model_come_73 : decode prog_8_method_19_code 73 = .ok (.iload_n 1, 1) := by decide +kernel
theorem d_Model_come_74 : decode prog_8_method_19_code 74 = .ok (.aload_n 0, 1) := by decide +kernel
theorem d_Model_come_75 : decode prog_8_method_19_code 75 = .ok (.getfield 51, 3) := by decide +kernel
theorem d_Model_come_78 : decode prog_8_method_19_code 78 = .ok (.invokevirtual 78, 3) := by decide +kernel
theorem d_Model_come_81 : decode prog_8_method_19_code 81 = .ok (.iconst 0, 1) := by decide +kernel
theorem d_Model_come_82 : decode prog_8_method_19_code 82 = .ok (.istore_n 2, 1) := by decide +kernel
theorem d_Model_come_83 : decode prog_8_method_19_code 83 = .ok (.iload_n 2, 1) := by decide +kernel
theorem d_Model_come_84 : decode prog_8_method_19_code 84 = .ok (.bipush 42, 2) := by decide +kernel
theorem d_Model_come_86 : decode prog_8_method_19_code 86 = .ok (.if_icmp .ge 29, 3) := by decide +kernel
theorem d_Model_come_89 : decode prog_8_method_19_code 89 = .ok (.aload_n 0, 1) := by decide +kernel
theorem d_Model_come_90 : decode prog_8_method_19_code 90 = .ok (.getfield 44, 3) := by decide +kernel
theorem d_Model_come_93 : decode prog_8_method_19_code 93 = .ok (.iload_n 2, 1) := by decide +kernel
theorem d_Model_come_94 : decode prog_8_method_19_code 94 = .ok (.baload, 1) := by decide +kernel
theorem d_Model_come_95 : decode prog_8_method_19_code 95 = .ok (.ifCond .eq 14, 3) := by decide +kernel
theorem d_Model_come_98 : decode prog_8_method_19_code 98 = .ok (.aload_n 0, 1) := by decide +kernel
theorem d_Model_come_99 : decode prog_8_method_19_code 99 = .ok (.iload_n 1, 1) := by decide +kernel
theorem d_Model_come_100 : decode prog_8_method_19_code 100 = .ok (.iload_n 2, 1) := by decide +kernel
theorem d_Model_come_101 : decode prog_8_method_19_code 101 = .ok (.invokevirtual 70, 3) := by decide +kernel
theorem d_Model_come_104 : decode prog_8_method_19_code 104 = .ok (.ifCond .eq 5, 3) := by decide +kernel
theorem d_Model_come_107 : decode prog_8_method_19_code 107 = .ok (.iconst 4, 1) := by decide +kernel
theorem d_Model_come_108 : decode prog_8_method_19_code 108 = .ok (.ireturn, 1) := by decide +kernel
theorem d_Model_come_109 : decode prog_8_method_19_code 109 = .ok (.iinc 2 1, 3) := by decide +kernel
theorem d_Model_come_112 : decode prog_8_method_19_code 112 = .ok (.goto (-29), 3) := by decide +kernel
theorem d_Model_come_115 : decode prog_8_method_19_code 115 = .ok (.aload_n 0, 1) := by decide +kernel
theorem d_Model_come_116 : decode prog_8_method_19_code 116 = .ok (.aload_n 0, 1) := by decide +kernel
theorem d_Model_come_117 : decode prog_8_method_19_code 117 = .ok (.getfield 108, 3) := by decide +kernel
theorem d_Model_come_120 : decode prog_8_method_19_code 120 = .ok (.iconst 1, 1) := by decide +kernel
theorem d_Model_come_121 : decode prog_8_method_19_code 121 = .ok (.iadd, 1) := by decide +kernel
theorem d_Model_come_122 : decode prog_8_method_19_code 122 = .ok (.putfield 108, 3) := by decide +kernel
theorem d_Model_come_125 : decode prog_8_method_19_code 125 = .ok (.aload_n 0, 1) := by decide +kernel
theorem d_Model_come_126 : decode prog_8_method_19_code 126 = .ok (.getfield 32, 3) := by decide +kernel
theorem d_Model_come_129 : decode prog_8_method_19_code 129 = .ok (.iload_n 1, 1) := by decide +kernel
theorem d_Model_come_130 : decode prog_8_method_19_code 130 = .ok (.aload_n 0, 1) := by decide +kernel
theorem d_Model_come_131 : decode prog_8_method_19_code 131 = .ok (.getfield 108, 3) := by decide +kernel
theorem d_Model_come_134 : decode prog_8_method_19_code 134 = .ok (.iastore, 1) := by decide +kernel
theorem d_Model_come_135 : decode prog_8_method_19_code 135 = .ok (.aload_n 0, 1) := by decide +kernel
theorem d_Model_come_136 : decode prog_8_method_19_code 136 = .ok (.iload_n 1, 1) := by decide +kernel
theorem d_Model_come_137 : decode prog_8_method_19_code 137 = .ok (.aload_n 0, 1) := by decide +kernel
theorem d_Model_come_138 : decode prog_8_method_19_code 138 = .ok (.getfield 51, 3) := by decide +kernel
theorem d_Model_come_141 : decode prog_8_method_19_code 141 = .ok (.invokevirtual 74, 3) := by decide +kernel
theorem d_Model_come_144 : decode prog_8_method_19_code 144 = .ok (.aload_n 0, 1) := by decide +kernel
theorem d_Model_come_145 : decode prog_8_method_19_code 145 = .ok (.aload_n 0, 1) := by decide +kernel
theorem d_Model_come_146 : decode prog_8_method_19_code 146 = .ok (.getfield 51, 3) := by decide +kernel
theorem d_Model_come_149 : decode prog_8_method_19_code 149 = .ok (.iconst 1, 1) := by decide +kernel
theorem d_Model_come_150 : decode prog_8_method_19_code 150 = .ok (.iadd, 1) := by decide +kernel
theorem d_Model_come_151 : decode prog_8_method_19_code 151 = .ok (.putfield 51, 3) := by decide +kernel
theorem d_Model_come_154 : decode prog_8_method_19_code 154 = .ok (.aload_n 0, 1) := by decide +kernel
theorem d_Model_come_155 : decode prog_8_method_19_code 155 = .ok (.getfield 13, 3) := by decide +kernel
theorem d_Model_come_158 : decode prog_8_method_19_code 158 = .ok (.iload_n 1, 1) := by decide +kernel
theorem d_Model_come_159 : decode prog_8_method_19_code 159 = .ok (.iconst 0, 1) := by decide +kernel
theorem d_Model_come_160 : decode prog_8_method_19_code 160 = .ok (.iastore, 1) := by decide +kernel
theorem d_Model_come_161 : decode prog_8_method_19_code 161 = .ok (.aload_n 0, 1) := by decide +kernel
theorem d_Model_come_162 : decode prog_8_method_19_code 162 = .ok (.getfield 51, 3) := by decide +kernel
theorem d_Model_come_165 : decode prog_8_method_19_code 165 = .ok (.bipush 40, 2) := by decide +kernel
theorem d_Model_come_167 : decode prog_8_method_19_code 167 = .ok (.if_icmp .gt 5, 3) := by decide +kernel
theorem d_Model_come_170 : decode prog_8_method_19_code 170 = .ok (.iconst 0, 1) := by decide +kernel
theorem d_Model_come_171 : decode prog_8_method_19_code 171 = .ok (.ireturn, 1) := by decide +kernel
theorem d_Model_come_172 : decode prog_8_method_19_code 172 = .ok (.aload_n 0, 1) := by decide +kernel
theorem d_Model_come_173 : decode prog_8_method_19_code 173 = .ok (.getfield 108, 3) := by decide +kernel
theorem d_Model_come_176 : decode prog_8_method_19_code 176 = .ok (.istore_n 2, 1) := by decide +kernel
theorem d_Model_come_177 : decode prog_8_method_19_code 177 = .ok (.aload_n 0, 1) := by decide +kernel
theorem d_Model_come_178 : decode prog_8_method_19_code 178 = .ok (.aload_n 0, 1) := by decide +kernel
theorem d_Model_come_179 : decode prog_8_method_19_code 179 = .ok (.invokevirtual 111, 3) := by decide +kernel
theorem d_Model_come_182 : decode prog_8_method_19_code 182 = .ok (.aload_n 0, 1) := by decide +kernel
theorem d_Model_come_183 : decode prog_8_method_19_code 183 = .ok (.getfield 51, 3) := by decide +kernel
theorem d_Model_come_186 : decode prog_8_method_19_code 186 = .ok (.invokevirtual 78, 3) := by decide +kernel
theorem d_Model_come_189 : decode prog_8_method_19_code 189 = .ok (.iconst 0, 1) := by decide +kernel
theorem d_Model_come_190 : decode prog_8_method_19_code 190 = .ok (.istore_n 3, 1) := by decide +kernel
theorem d_Model_come_191 : decode prog_8_method_19_code 191 = .ok (.iconst 0, 1) := by decide +kernel
theorem d_Model_come_192 : decode prog_8_method_19_code 192 = .ok (.istore 4, 2) := by decide +kernel
theorem d_Model_come_194 : decode prog_8_method_19_code 194 = .ok (.iload 4, 2) := by decide +kernel
theorem d_Model_come_196 : decode prog_8_method_19_code 196 = .ok (.aload_n 0, 1) := by decide +kernel
theorem d_Model_come_197 : decode prog_8_method_19_code 197 = .ok (.getfield 51, 3) := by decide +kernel
theorem d_Model_come_200 : decode prog_8_method_19_code 200 = .ok (.if_icmp .ge 40, 3) := by decide +kernel
theorem d_Model_come_203 : decode prog_8_method_19_code 203 = .ok (.iload_n 3, 1) := by decide +kernel
theorem d_Model_come_204 : decode prog_8_method_19_code 204 = .ok (.ifCond .ne 24, 3) := by decide +kernel
theorem d_Model_come_207 : decode prog_8_method_19_code 207 = .ok (.aload_n 0, 1) := by decide +kernel
theorem d_Model_come_208 : decode prog_8_method_19_code 208 = .ok (.getfield 44, 3) := by decide +kernel
theorem d_Model_come_211 : decode prog_8_method_19_code 211 = .ok (.iload 4, 2) := by decide +kernel
theorem d_Model_come_213 : decode prog_8_method_19_code 213 = .ok (.baload, 1) := by decide +kernel
theorem d_Model_come_214 : decode prog_8_method_19_code 214 = .ok (.ifCond .eq 18, 3) := by decide +kernel
theorem d_Model_come_217 : decode prog_8_method_19_code 217 = .ok (.aload_n 0, 1) := by decide +kernel
theorem d_Model_come_218 : decode prog_8_method_19_code 218 = .ok (.getfield 32, 3) := by decide +kernel
theorem d_Model_come_221 : decode prog_8_method_19_code 221 = .ok (.iload 4, 2) := by decide +kernel
theorem d_Model_come_223 : decode prog_8_method_19_code 223 = .ok (.iaload, 1) := by decide +kernel
theorem d_Model_come_224 : decode prog_8_method_19_code 224 = .ok (.iload_n 2, 1) := by decide +kernel
theorem d_Model_come_225 : decode prog_8_method_19_code 225 = .ok (.if_icmp .ne 7, 3) := by decide +kernel
theorem d_Model_come_228 : decode prog_8_method_19_code 228 = .ok (.iconst 1, 1) := by decide +kernel
theorem d_Model_come_229 : decode prog_8_method_19_code 229 = .ok (.goto 4, 3) := by decide +kernel
theorem d_Model_come_232 : decode prog_8_method_19_code 232 = .ok (.iconst 0, 1) := by decide +kernel
theorem d_Model_come_233 : decode prog_8_method_19_code 233 = .ok (.istore_n 3, 1) := by decide +kernel
theorem d_Model_come_234 : decode prog_8_method_19_code 234 = .ok (.iinc 4 1, 3) := by decide +kernel
theorem d_Model_come_237 : decode prog_8_method_19_code 237 = .ok (.goto (-43), 3) := by decide +kernel
theorem d_Model_come_240 : decode prog_8_method_19_code 240 = .ok (.aload_n 0, 1) := by decide +kernel
theorem d_Model_come_241 : decode prog_8_method_19_code 241 = .ok (.invokevirtual 114, 3) := by decide +kernel
theorem d_Model_come_244 : decode prog_8_method_19_code 244 = .ok (.pop, 1) := by decide +kernel
theorem d_Model_come_245 : decode prog_8_method_19_code 245 = .ok (.iload_n 3, 1) := by decide +kernel
theorem d_Model_come_246 : decode prog_8_method_19_code 246 = .ok (.ifCond .eq 7, 3) := by decide +kernel
theorem d_Model_come_249 : decode prog_8_method_19_code 249 = .ok (.iconst 5, 1) := by decide +kernel
theorem d_Model_come_250 : decode prog_8_method_19_code 250 = .ok (.goto 4, 3) := by decide +kernel
theorem d_Model_come_253 : decode prog_8_method_19_code 253 = .ok (.iconst 0, 1) := by decide +kernel
theorem d_Model_come_254 : decode prog_8_method_19_code 254 = .ok (.ireturn, 1) := by decide +kernel
theorem d_Model_find_0 : decode prog_8_method_4_code 0 = .ok (.iconst 0, 1) := by decide +kernel
theorem d_Model_find_1 : decode prog_8_method_4_code 1 = .ok (.istore_n 1, 1) := by decide +kernel
theorem d_Model_find_2 : decode prog_8_method_4_code 2 = .ok (.iload_n 1, 1) := by decide +kernel
theorem d_Model_find_3 : decode prog_8_method_4_code 3 = .ok (.aload_n 0, 1) := by decide +kernel
theorem d_Model_find_4 : decode prog_8_method_4_code 4 = .ok (.getfield 51, 3) := by decide +kernel
theorem d_Model_find_7 : decode prog_8_method_4_code 7 = .ok (.if_icmp .ge 19, 3) := by decide +kernel
theorem d_Model_find_10 : decode prog_8_method_4_code 10 = .ok (.aload_n 0, 1) := by decide +kernel
theorem d_Model_find_11 : decode prog_8_method_4_code 11 = .ok (.iload_n 1, 1) := by decide +kernel
theorem d_Model_find_12 : decode prog_8_method_4_code 12 = .ok (.invokevirtual 55, 3) := by decide +kernel
theorem d_Model_find_15 : decode prog_8_method_4_code 15 = .ok (.ifCond .eq 5, 3) := by decide +kernel
theorem d_Model_find_18 : decode prog_8_method_4_code 18 = .ok (.iload_n 1, 1) := by decide +kernel
theorem d_Model_find_19 : decode prog_8_method_4_code 19 = .ok (.ireturn, 1) := by decide +kernel
theorem d_Model_find_20 : decode prog_8_method_4_code 20 = .ok (.iinc 1 1, 3) := by decide +kernel
theorem d_Model_find_23 : decode prog_8_method_4_code 23 = .ok (.goto (-21), 3) := by decide +kernel
theorem d_Model_find_26 : decode prog_8_method_4_code 26 = .ok (.iconst (-1), 1) := by decide +kernel
theorem d_Model_find_27 : decode prog_8_method_4_code 27 = .ok (.ireturn, 1) := by decide +kernel
theorem d_Model_isNamed_0 : decode prog_8_method_3_code 0 = .ok (.iconst 1, 1) := by decide +kernel
theorem d_Model_isNamed_1 : decode prog_8_method_3_code 1 = .ok (.istore_n 2, 1) := by decide +kernel
theorem d_Model_isNamed_2 : decode prog_8_method_3_code 2 = .ok (.iconst 0, 1) := by decide +kernel
theorem d_Model_isNamed_3 : decode prog_8_method_3_code 3 = .ok (.istore_n 3, 1) := by decide +kernel
theorem d_Model_isNamed_4 : decode prog_8_method_3_code 4 = .ok (.iload_n 3, 1) := by decide +kernel
theorem d_Model_isNamed_5 : decode prog_8_method_3_code 5 = .ok (.iconst 4, 1) := by decide +kernel
theorem d_Model_isNamed_6 : decode prog_8_method_3_code 6 = .ok (.if_icmp .ge 39, 3) := by decide +kernel
theorem d_Model_isNamed_9 : decode prog_8_method_3_code 9 = .ok (.iload_n 2, 1) := by decide +kernel
theorem d_Model_isNamed_10 : decode prog_8_method_3_code 10 = .ok (.ifCond .eq 27, 3) := by decide +kernel
theorem d_Model_isNamed_13 : decode prog_8_method_3_code 13 = .ok (.aload_n 0, 1) := by decide +kernel
theorem d_Model_isNamed_14 : decode prog_8_method_3_code 14 = .ok (.getfield 7, 3) := by decide +kernel
theorem d_Model_isNamed_17 : decode prog_8_method_3_code 17 = .ok (.iconst 4, 1) := by decide +kernel
theorem d_Model_isNamed_18 : decode prog_8_method_3_code 18 = .ok (.iload_n 1, 1) := by decide +kernel
theorem d_Model_isNamed_19 : decode prog_8_method_3_code 19 = .ok (.imul, 1) := by decide +kernel
theorem d_Model_isNamed_20 : decode prog_8_method_3_code 20 = .ok (.iload_n 3, 1) := by decide +kernel
theorem d_Model_isNamed_21 : decode prog_8_method_3_code 21 = .ok (.iadd, 1) := by decide +kernel
theorem d_Model_isNamed_22 : decode prog_8_method_3_code 22 = .ok (.laload, 1) := by decide +kernel
theorem d_Model_isNamed_23 : decode prog_8_method_3_code 23 = .ok (.aload_n 0, 1) := by decide +kernel
theorem d_Model_isNamed_24 : decode prog_8_method_3_code 24 = .ok (.getfield 35, 3) := by decide +kernel
theorem d_Model_isNamed_27 : decode prog_8_method_3_code 27 = .ok (.iload_n 3, 1) := by decide +kernel
theorem d_Model_isNamed_28 : decode prog_8_method_3_code 28 = .ok (.laload, 1) := by decide +kernel
theorem d_Model_isNamed_29 : decode prog_8_method_3_code 29 = .ok (.lcmp, 1) := by decide +kernel
theorem d_Model_isNamed_30 : decode prog_8_method_3_code 30 = .ok (.ifCond .ne 7, 3) := by decide +kernel
theorem d_Model_isNamed_33 : decode prog_8_method_3_code 33 = .ok (.iconst 1, 1) := by decide +kernel
theorem d_Model_isNamed_34 : decode prog_8_method_3_code 34 = .ok (.goto 4, 3) := by decide +kernel
theorem d_Model_isNamed_37 : decode prog_8_method_3_code 37 = .ok (.iconst 0, 1) := by decide +kernel
theorem d_Model_isNamed_38 : decode prog_8_method_3_code 38 = .ok (.istore_n 2, 1) := by decide +kernel
theorem d_Model_isNamed_39 : decode prog_8_method_3_code 39 = .ok (.iinc 3 1, 3) := by decide +kernel
theorem d_Model_isNamed_42 : decode prog_8_method_3_code 42 = .ok (.goto (-38), 3) := by decide +kernel
theorem d_Model_isNamed_45 : decode prog_8_method_3_code 45 = .ok (.iload_n 2, 1) := by decide +kernel
theorem d_Model_isNamed_46 : decode prog_8_method_3_code 46 = .ok (.ireturn, 1) := by decide +kernel
theorem d_Model_clash_0 : decode prog_8_method_9_code 0 = .ok (.iconst 0, 1) := by decide +kernel
theorem d_Model_clash_1 : decode prog_8_method_9_code 1 = .ok (.istore_n 3, 1) := by decide +kernel
theorem d_Model_clash_2 : decode prog_8_method_9_code 2 = .ok (.iconst 0, 1) := by decide +kernel
theorem d_Model_clash_3 : decode prog_8_method_9_code 3 = .ok (.istore 4, 2) := by decide +kernel
theorem d_Model_clash_5 : decode prog_8_method_9_code 5 = .ok (.iload 4, 2) := by decide +kernel
theorem d_Model_clash_7 : decode prog_8_method_9_code 7 = .ok (.aload_n 0, 1) := by decide +kernel
theorem d_Model_clash_8 : decode prog_8_method_9_code 8 = .ok (.getfield 13, 3) := by decide +kernel
theorem d_Model_clash_11 : decode prog_8_method_9_code 11 = .ok (.iload_n 1, 1) := by decide +kernel
theorem d_Model_clash_12 : decode prog_8_method_9_code 12 = .ok (.iaload, 1) := by decide +kernel
theorem d_Model_clash_13 : decode prog_8_method_9_code 13 = .ok (.if_icmp .ge 52, 3) := by decide +kernel
theorem d_Model_clash_16 : decode prog_8_method_9_code 16 = .ok (.iconst 0, 1) := by decide +kernel
theorem d_Model_clash_17 : decode prog_8_method_9_code 17 = .ok (.istore 5, 2) := by decide +kernel
theorem d_Model_clash_19 : decode prog_8_method_9_code 19 = .ok (.iload 5, 2) := by decide +kernel
theorem d_Model_clash_21 : decode prog_8_method_9_code 21 = .ok (.aload_n 0, 1) := by decide +kernel
theorem d_Model_clash_22 : decode prog_8_method_9_code 22 = .ok (.getfield 13, 3) := by decide +kernel
theorem d_Model_clash_25 : decode prog_8_method_9_code 25 = .ok (.iload_n 2, 1) := by decide +kernel
theorem d_Model_clash_26 : decode prog_8_method_9_code 26 = .ok (.iaload, 1) := by decide +kernel
theorem d_Model_clash_27 : decode prog_8_method_9_code 27 = .ok (.if_icmp .ge 32, 3) := by decide +kernel
theorem d_Model_clash_30 : decode prog_8_method_9_code 30 = .ok (.iload_n 3, 1) := by decide +kernel
theorem d_Model_clash_31 : decode prog_8_method_9_code 31 = .ok (.ifCond .ne 16, 3) := by decide +kernel
theorem d_Model_clash_34 : decode prog_8_method_9_code 34 = .ok (.aload_n 0, 1) := by decide +kernel
theorem d_Model_clash_35 : decode prog_8_method_9_code 35 = .ok (.iload_n 1, 1) := by decide +kernel
theorem d_Model_clash_36 : decode prog_8_method_9_code 36 = .ok (.iload 4, 2) := by decide +kernel
theorem d_Model_clash_38 : decode prog_8_method_9_code 38 = .ok (.iload_n 2, 1) := by decide +kernel
theorem d_Model_clash_39 : decode prog_8_method_9_code 39 = .ok (.iload 5, 2) := by decide +kernel
theorem d_Model_clash_41 : decode prog_8_method_9_code 41 = .ok (.invokevirtual 66, 3) := by decide +kernel
theorem d_Model_clash_44 : decode prog_8_method_9_code 44 = .ok (.ifCond .eq 7, 3) := by decide +kernel
theorem d_Model_clash_47 : decode prog_8_method_9_code 47 = .ok (.iconst 1, 1) := by decide +kernel
theorem d_Model_clash_48 : decode prog_8_method_9_code 48 = .ok (.goto 4, 3) := by decide +kernel
theorem d_Model_clash_51 : decode prog_8_method_9_code 51 = .ok (.iconst 0, 1) := by decide +kernel
theorem d_Model_clash_52 : decode prog_8_method_9_code 52 = .ok (.istore_n 3, 1) := by decide +kernel
theorem d_Model_clash_53 : decode prog_8_method_9_code 53 = .ok (.iinc 5 1, 3) := by decide +kernel
theorem d_Model_clash_56 : decode prog_8_method_9_code 56 = .ok (.goto (-37), 3) := by decide +kernel
theorem d_Model_clash_59 : decode prog_8_method_9_code 59 = .ok (.iinc 4 1, 3) := by decide +kernel
theorem d_Model_clash_62 : decode prog_8_method_9_code 62 = .ok (.goto (-57), 3) := by decide +kernel
theorem d_Model_clash_65 : decode prog_8_method_9_code 65 = .ok (.iload_n 3, 1) := by decide +kernel
theorem d_Model_clash_66 : decode prog_8_method_9_code 66 = .ok (.ireturn, 1) := by decide +kernel
theorem d_Model_sameKey_0 : decode prog_8_method_8_code 0 = .ok (.aload_n 0, 1) := by decide +kernel
theorem d_Model_sameKey_1 : decode prog_8_method_8_code 1 = .ok (.getfield 20, 3) := by decide +kernel
theorem d_Model_sameKey_4 : decode prog_8_method_8_code 4 = .ok (.bipush 8, 2) := by decide +kernel
theorem d_Model_sameKey_6 : decode prog_8_method_8_code 6 = .ok (.iload_n 1, 1) := by decide +kernel
theorem d_Model_sameKey_7 : decode prog_8_method_8_code 7 = .ok (.imul, 1) := by decide +kernel
theorem d_Model_sameKey_8 : decode prog_8_method_8_code 8 = .ok (.iload_n 2, 1) := by decide +kernel
theorem d_Model_sameKey_9 : decode prog_8_method_8_code 9 = .ok (.iadd, 1) := by decide +kernel
theorem d_Model_sameKey_10 : decode prog_8_method_8_code 10 = .ok (.iaload, 1) := by decide +kernel
theorem d_Model_sameKey_11 : decode prog_8_method_8_code 11 = .ok (.aload_n 0, 1) := by decide +kernel
theorem d_Model_sameKey_12 : decode prog_8_method_8_code 12 = .ok (.getfield 20, 3) := by decide +kernel
theorem d_Model_sameKey_15 : decode prog_8_method_8_code 15 = .ok (.bipush 8, 2) := by decide +kernel
theorem d_Model_sameKey_17 : decode prog_8_method_8_code 17 = .ok (.iload_n 3, 1) := by decide +kernel
theorem d_Model_sameKey_18 : decode prog_8_method_8_code 18 = .ok (.imul, 1) := by decide +kernel
theorem d_Model_sameKey_19 : decode prog_8_method_8_code 19 = .ok (.iload 4, 2) := by decide +kernel
theorem d_Model_sameKey_21 : decode prog_8_method_8_code 21 = .ok (.iadd, 1) := by decide +kernel
theorem d_Model_sameKey_22 : decode prog_8_method_8_code 22 = .ok (.iaload, 1) := by decide +kernel
theorem d_Model_sameKey_23 : decode prog_8_method_8_code 23 = .ok (.if_icmp .ne 7, 3) := by decide +kernel
theorem d_Model_sameKey_26 : decode prog_8_method_8_code 26 = .ok (.iconst 1, 1) := by decide +kernel
theorem d_Model_sameKey_27 : decode prog_8_method_8_code 27 = .ok (.goto 4, 3) := by decide +kernel
theorem d_Model_sameKey_30 : decode prog_8_method_8_code 30 = .ok (.iconst 0, 1) := by decide +kernel
theorem d_Model_sameKey_31 : decode prog_8_method_8_code 31 = .ok (.istore 5, 2) := by decide +kernel
theorem d_Model_sameKey_33 : decode prog_8_method_8_code 33 = .ok (.iconst 0, 1) := by decide +kernel
theorem d_Model_sameKey_34 : decode prog_8_method_8_code 34 = .ok (.istore 6, 2) := by decide +kernel
theorem d_Model_sameKey_36 : decode prog_8_method_8_code 36 = .ok (.iload 6, 2) := by decide +kernel
theorem d_Model_sameKey_38 : decode prog_8_method_8_code 38 = .ok (.iconst 4, 1) := by decide +kernel
theorem d_Model_sameKey_39 : decode prog_8_method_8_code 39 = .ok (.if_icmp .ge 58, 3) := by decide +kernel
theorem d_Model_sameKey_42 : decode prog_8_method_8_code 42 = .ok (.iload 5, 2) := by decide +kernel
theorem d_Model_sameKey_44 : decode prog_8_method_8_code 44 = .ok (.ifCond .eq 44, 3) := by decide +kernel
theorem d_Model_sameKey_47 : decode prog_8_method_8_code 47 = .ok (.aload_n 0, 1) := by decide +kernel
theorem d_Model_sameKey_48 : decode prog_8_method_8_code 48 = .ok (.getfield 17, 3) := by decide +kernel
theorem d_Model_sameKey_51 : decode prog_8_method_8_code 51 = .ok (.bipush 32, 2) := by decide +kernel
theorem d_Model_sameKey_53 : decode prog_8_method_8_code 53 = .ok (.iload_n 1, 1) := by decide +kernel
theorem d_Model_sameKey_54 : decode prog_8_method_8_code 54 = .ok (.imul, 1) := by decide +kernel
theorem d_Model_sameKey_55 : decode prog_8_method_8_code 55 = .ok (.iconst 4, 1) := by decide +kernel
theorem d_Model_sameKey_56 : decode prog_8_method_8_code 56 = .ok (.iload_n 2, 1) := by decide +kernel
theorem d_Model_sameKey_57 : decode prog_8_method_8_code 57 = .ok (.imul, 1) := by decide +kernel
theorem d_Model_sameKey_58 : decode prog_8_method_8_code 58 = .ok (.iadd, 1) := by decide +kernel
theorem d_Model_sameKey_59 : decode prog_8_method_8_code 59 = .ok (.iload 6, 2) := by decide +kernel
theorem d_Model_sameKey_61 : decode prog_8_method_8_code 61 = .ok (.iadd, 1) := by decide +kernel
theorem d_Model_sameKey_62 : decode prog_8_method_8_code 62 = .ok (.laload, 1) := by decide +kernel
theorem d_Model_sameKey_63 : decode prog_8_method_8_code 63 = .ok (.aload_n 0, 1) := by decide +kernel
theorem d_Model_sameKey_64 : decode prog_8_method_8_code 64 = .ok (.getfield 17, 3) := by decide +kernel
theorem d_Model_sameKey_67 : decode prog_8_method_8_code 67 = .ok (.bipush 32, 2) := by decide +kernel
theorem d_Model_sameKey_69 : decode prog_8_method_8_code 69 = .ok (.iload_n 3, 1) := by decide +kernel
theorem d_Model_sameKey_70 : decode prog_8_method_8_code 70 = .ok (.imul, 1) := by decide +kernel
theorem d_Model_sameKey_71 : decode prog_8_method_8_code 71 = .ok (.iconst 4, 1) := by decide +kernel
theorem d_Model_sameKey_72 : decode prog_8_method_8_code 72 = .ok (.iload 4, 2) := by decide +kernel
theorem d_Model_sameKey_74 : decode prog_8_method_8_code 74 = .ok (.imul, 1) := by decide +kernel
theorem d_Model_sameKey_75 : decode prog_8_method_8_code 75 = .ok (.iadd, 1) := by decide +kernel
theorem d_Model_sameKey_76 : decode prog_8_method_8_code 76 = .ok (.iload 6, 2) := by decide +kernel
theorem d_Model_sameKey_78 : decode prog_8_method_8_code 78 = .ok (.iadd, 1) := by decide +kernel
theorem d_Model_sameKey_79 : decode prog_8_method_8_code 79 = .ok (.laload, 1) := by decide +kernel
theorem d_Model_sameKey_80 : decode prog_8_method_8_code 80 = .ok (.lcmp, 1) := by decide +kernel
theorem d_Model_sameKey_81 : decode prog_8_method_8_code 81 = .ok (.ifCond .ne 7, 3) := by decide +kernel
theorem d_Model_sameKey_84 : decode prog_8_method_8_code 84 = .ok (.iconst 1, 1) := by decide +kernel
theorem d_Model_sameKey_85 : decode prog_8_method_8_code 85 = .ok (.goto 4, 3) := by decide +kernel
theorem d_Model_sameKey_88 : decode prog_8_method_8_code 88 = .ok (.iconst 0, 1) := by decide +kernel
theorem d_Model_sameKey_89 : decode prog_8_method_8_code 89 = .ok (.istore 5, 2) := by decide +kernel
theorem d_Model_sameKey_91 : decode prog_8_method_8_code 91 = .ok (.iinc 6 1, 3) := by decide +kernel
theorem d_Model_sameKey_94 : decode prog_8_method_8_code 94 = .ok (.goto (-58), 3) := by decide +kernel
theorem d_Model_sameKey_97 : decode prog_8_method_8_code 97 = .ok (.iload 5, 2) := by decide +kernel
theorem d_Model_sameKey_99 : decode prog_8_method_8_code 99 = .ok (.ireturn, 1) := by decide +kernel
theorem d_Model_misses_0 : decode prog_8_method_10_code 0 = .ok (.iconst 0, 1) := by decide +kernel
theorem d_Model_misses_1 : decode prog_8_method_10_code 1 = .ok (.istore_n 3, 1) := by decide +kernel
theorem d_Model_misses_2 : decode prog_8_method_10_code 2 = .ok (.iconst 0, 1) := by decide +kernel
theorem d_Model_misses_3 : decode prog_8_method_10_code 3 = .ok (.istore 4, 2) := by decide +kernel
theorem d_Model_misses_5 : decode prog_8_method_10_code 5 = .ok (.iload 4, 2) := by decide +kernel
theorem d_Model_misses_7 : decode prog_8_method_10_code 7 = .ok (.aload_n 0, 1) := by decide +kernel
theorem d_Model_misses_8 : decode prog_8_method_10_code 8 = .ok (.getfield 13, 3) := by decide +kernel
theorem d_Model_misses_11 : decode prog_8_method_10_code 11 = .ok (.iload_n 1, 1) := by decide +kernel
theorem d_Model_misses_12 : decode prog_8_method_10_code 12 = .ok (.iaload, 1) := by decide +kernel
theorem d_Model_misses_13 : decode prog_8_method_10_code 13 = .ok (.if_icmp .ge 60, 3) := by decide +kernel
theorem d_Model_misses_16 : decode prog_8_method_10_code 16 = .ok (.aload_n 0, 1) := by decide +kernel
theorem d_Model_misses_17 : decode prog_8_method_10_code 17 = .ok (.getfield 20, 3) := by decide +kernel
theorem d_Model_misses_20 : decode prog_8_method_10_code 20 = .ok (.bipush 8, 2) := by decide +kernel
theorem d_Model_misses_22 : decode prog_8_method_10_code 22 = .ok (.iload_n 1, 1) := by decide +kernel
theorem d_Model_misses_23 : decode prog_8_method_10_code 23 = .ok (.imul, 1) := by decide +kernel
theorem d_Model_misses_24 : decode prog_8_method_10_code 24 = .ok (.iload 4, 2) := by decide +kernel
theorem d_Model_misses_26 : decode prog_8_method_10_code 26 = .ok (.iadd, 1) := by decide +kernel
theorem d_Model_misses_27 : decode prog_8_method_10_code 27 = .ok (.iaload, 1) := by decide +kernel
theorem d_Model_misses_28 : decode prog_8_method_10_code 28 = .ok (.istore 5, 2) := by decide +kernel
theorem d_Model_misses_30 : decode prog_8_method_10_code 30 = .ok (.iload_n 3, 1) := by decide +kernel
theorem d_Model_misses_31 : decode prog_8_method_10_code 31 = .ok (.ifCond .ne 30, 3) := by decide +kernel
theorem d_Model_misses_34 : decode prog_8_method_10_code 34 = .ok (.aload_n 0, 1) := by decide +kernel
theorem d_Model_misses_35 : decode prog_8_method_10_code 35 = .ok (.iload_n 1, 1) := by decide +kernel
theorem d_Model_misses_36 : decode prog_8_method_10_code 36 = .ok (.iload 4, 2) := by decide +kernel
theorem d_Model_misses_38 : decode prog_8_method_10_code 38 = .ok (.iload_n 2, 1) := by decide +kernel
theorem d_Model_misses_39 : decode prog_8_method_10_code 39 = .ok (.invokevirtual 62, 3) := by decide +kernel
theorem d_Model_misses_42 : decode prog_8_method_10_code 42 = .ok (.ifCond .eq 23, 3) := by decide +kernel
theorem d_Model_misses_45 : decode prog_8_method_10_code 45 = .ok (.iload 5, 2) := by decide +kernel
theorem d_Model_misses_47 : decode prog_8_method_10_code 47 = .ok (.ifCond .lt 14, 3) := by decide +kernel
theorem d_Model_misses_50 : decode prog_8_method_10_code 50 = .ok (.iload 5, 2) := by decide +kernel
theorem d_Model_misses_52 : decode prog_8_method_10_code 52 = .ok (.aload_n 0, 1) := by decide +kernel
theorem d_Model_misses_53 : decode prog_8_method_10_code 53 = .ok (.getfield 29, 3) := by decide +kernel
theorem d_Model_misses_56 : decode prog_8_method_10_code 56 = .ok (.iload_n 2, 1) := by decide +kernel
theorem d_Model_misses_57 : decode prog_8_method_10_code 57 = .ok (.iaload, 1) := by decide +kernel
theorem d_Model_misses_58 : decode prog_8_method_10_code 58 = .ok (.if_icmp .lt 7, 3) := by decide +kernel
theorem d_Model_misses_61 : decode prog_8_method_10_code 61 = .ok (.iconst 1, 1) := by decide +kernel
theorem d_Model_misses_62 : decode prog_8_method_10_code 62 = .ok (.goto 4, 3) := by decide +kernel
theorem d_Model_misses_65 : decode prog_8_method_10_code 65 = .ok (.iconst 0, 1) := by decide +kernel
theorem d_Model_misses_66 : decode prog_8_method_10_code 66 = .ok (.istore_n 3, 1) := by decide +kernel
theorem d_Model_misses_67 : decode prog_8_method_10_code 67 = .ok (.iinc 4 1, 3) := by decide +kernel
theorem d_Model_misses_70 : decode prog_8_method_10_code 70 = .ok (.goto (-65), 3) := by decide +kernel
theorem d_Model_misses_73 : decode prog_8_method_10_code 73 = .ok (.iload_n 3, 1) := by decide +kernel
theorem d_Model_misses_74 : decode prog_8_method_10_code 74 = .ok (.ireturn, 1) := by decide +kernel
theorem d_Model_hasName_0 : decode prog_8_method_6_code 0 = .ok (.iconst 1, 1) := by decide +kernel
theorem d_Model_hasName_1 : decode prog_8_method_6_code 1 = .ok (.istore 4, 2) := by decide +kernel
theorem d_Model_hasName_3 : decode prog_8_method_6_code 3 = .ok (.iconst 0, 1) := by decide +kernel
theorem d_Model_hasName_4 : decode prog_8_method_6_code 4 = .ok (.istore 5, 2) := by decide +kernel
theorem d_Model_hasName_6 : decode prog_8_method_6_code 6 = .ok (.iload 5, 2) := by decide +kernel
theorem d_Model_hasName_8 : decode prog_8_method_6_code 8 = .ok (.iconst 4, 1) := by decide +kernel
theorem d_Model_hasName_9 : decode prog_8_method_6_code 9 = .ok (.if_icmp .ge 52, 3) := by decide +kernel
theorem d_Model_hasName_12 : decode prog_8_method_6_code 12 = .ok (.iload 4, 2) := by decide +kernel
theorem d_Model_hasName_14 : decode prog_8_method_6_code 14 = .ok (.ifCond .eq 38, 3) := by decide +kernel
theorem d_Model_hasName_17 : decode prog_8_method_6_code 17 = .ok (.aload_n 0, 1) := by decide +kernel
theorem d_Model_hasName_18 : decode prog_8_method_6_code 18 = .ok (.getfield 17, 3) := by decide +kernel
theorem d_Model_hasName_21 : decode prog_8_method_6_code 21 = .ok (.bipush 32, 2) := by decide +kernel
theorem d_Model_hasName_23 : decode prog_8_method_6_code 23 = .ok (.iload_n 1, 1) := by decide +kernel
theorem d_Model_hasName_24 : decode prog_8_method_6_code 24 = .ok (.imul, 1) := by decide +kernel
theorem d_Model_hasName_25 : decode prog_8_method_6_code 25 = .ok (.iconst 4, 1) := by decide +kernel
theorem d_Model_hasName_26 : decode prog_8_method_6_code 26 = .ok (.iload_n 2, 1) := by decide +kernel
theorem d_Model_hasName_27 : decode prog_8_method_6_code 27 = .ok (.imul, 1) := by decide +kernel
theorem d_Model_hasName_28 : decode prog_8_method_6_code 28 = .ok (.iadd, 1) := by decide +kernel
theorem d_Model_hasName_29 : decode prog_8_method_6_code 29 = .ok (.iload 5, 2) := by decide +kernel
theorem d_Model_hasName_31 : decode prog_8_method_6_code 31 = .ok (.iadd, 1) := by decide +kernel
theorem d_Model_hasName_32 : decode prog_8_method_6_code 32 = .ok (.laload, 1) := by decide +kernel
theorem d_Model_hasName_33 : decode prog_8_method_6_code 33 = .ok (.aload_n 0, 1) := by decide +kernel
theorem d_Model_hasName_34 : decode prog_8_method_6_code 34 = .ok (.getfield 7, 3) := by decide +kernel
theorem d_Model_hasName_37 : decode prog_8_method_6_code 37 = .ok (.iconst 4, 1) := by decide +kernel
theorem d_Model_hasName_38 : decode prog_8_method_6_code 38 = .ok (.iload_n 3, 1) := by decide +kernel
theorem d_Model_hasName_39 : decode prog_8_method_6_code 39 = .ok (.imul, 1) := by decide +kernel
theorem d_Model_hasName_40 : decode prog_8_method_6_code 40 = .ok (.iload 5, 2) := by decide +kernel
theorem d_Model_hasName_42 : decode prog_8_method_6_code 42 = .ok (.iadd, 1) := by decide +kernel
theorem d_Model_hasName_43 : decode prog_8_method_6_code 43 = .ok (.laload, 1) := by decide +kernel
theorem d_Model_hasName_44 : decode prog_8_method_6_code 44 = .ok (.lcmp, 1) := by decide +kernel
theorem d_Model_hasName_45 : decode prog_8_method_6_code 45 = .ok (.ifCond .ne 7, 3) := by decide +kernel
theorem d_Model_hasName_48 : decode prog_8_method_6_code 48 = .ok (.iconst 1, 1) := by decide +kernel
theorem d_Model_hasName_49 : decode prog_8_method_6_code 49 = .ok (.goto 4, 3) := by decide +kernel
theorem d_Model_hasName_52 : decode prog_8_method_6_code 52 = .ok (.iconst 0, 1) := by decide +kernel
theorem d_Model_hasName_53 : decode prog_8_method_6_code 53 = .ok (.istore 4, 2) := by decide +kernel
theorem d_Model_hasName_55 : decode prog_8_method_6_code 55 = .ok (.iinc 5 1, 3) := by decide +kernel
theorem d_Model_hasName_58 : decode prog_8_method_6_code 58 = .ok (.goto (-52), 3) := by decide +kernel
theorem d_Model_hasName_61 : decode prog_8_method_6_code 61 = .ok (.iload 4, 2) := by decide +kernel
theorem d_Model_hasName_63 : decode prog_8_method_6_code 63 = .ok (.ireturn, 1) := by decide +kernel
theorem d_Model_family_0 : decode prog_8_method_11_code 0 = .ok (.iconst 0, 1) := by decide +kernel
theorem d_Model_family_1 : decode prog_8_method_11_code 1 = .ok (.istore_n 3, 1) := by decide +kernel
theorem d_Model_family_2 : decode prog_8_method_11_code 2 = .ok (.iload_n 3, 1) := by decide +kernel
theorem d_Model_family_3 : decode prog_8_method_11_code 3 = .ok (.bipush 42, 2) := by decide +kernel
theorem d_Model_family_5 : decode prog_8_method_11_code 5 = .ok (.if_icmp .ge 25, 3) := by decide +kernel
theorem d_Model_family_8 : decode prog_8_method_11_code 8 = .ok (.aload_n 0, 1) := by decide +kernel
theorem d_Model_family_9 : decode prog_8_method_11_code 9 = .ok (.getfield 44, 3) := by decide +kernel
theorem d_Model_family_12 : decode prog_8_method_11_code 12 = .ok (.iload_n 3, 1) := by decide +kernel
theorem d_Model_family_13 : decode prog_8_method_11_code 13 = .ok (.iload_n 3, 1) := by decide +kernel
theorem d_Model_family_14 : decode prog_8_method_11_code 14 = .ok (.iload_n 1, 1) := by decide +kernel
theorem d_Model_family_15 : decode prog_8_method_11_code 15 = .ok (.if_icmp .ne 7, 3) := by decide +kernel
theorem d_Model_family_18 : decode prog_8_method_11_code 18 = .ok (.iconst 1, 1) := by decide +kernel
theorem d_Model_family_19 : decode prog_8_method_11_code 19 = .ok (.goto 4, 3) := by decide +kernel
theorem d_Model_family_22 : decode prog_8_method_11_code 22 = .ok (.iconst 0, 1) := by decide +kernel
theorem d_Model_family_23 : decode prog_8_method_11_code 23 = .ok (.bastore, 1) := by decide +kernel
theorem d_Model_family_24 : decode prog_8_method_11_code 24 = .ok (.iinc 3 1, 3) := by decide +kernel
theorem d_Model_family_27 : decode prog_8_method_11_code 27 = .ok (.goto (-25), 3) := by decide +kernel
theorem d_Model_family_30 : decode prog_8_method_11_code 30 = .ok (.iconst 1, 1) := by decide +kernel
theorem d_Model_family_31 : decode prog_8_method_11_code 31 = .ok (.istore_n 3, 1) := by decide +kernel
theorem d_Model_family_32 : decode prog_8_method_11_code 32 = .ok (.iload_n 3, 1) := by decide +kernel
theorem d_Model_family_33 : decode prog_8_method_11_code 33 = .ok (.ifCond .eq 87, 3) := by decide +kernel
theorem d_Model_family_36 : decode prog_8_method_11_code 36 = .ok (.iconst 0, 1) := by decide +kernel
theorem d_Model_family_37 : decode prog_8_method_11_code 37 = .ok (.istore_n 3, 1) := by decide +kernel
theorem d_Model_family_38 : decode prog_8_method_11_code 38 = .ok (.iconst 0, 1) := by decide +kernel
theorem d_Model_family_39 : decode prog_8_method_11_code 39 = .ok (.istore 4, 2) := by decide +kernel
theorem d_Model_family_41 : decode prog_8_method_11_code 41 = .ok (.iload 4, 2) := by decide +kernel
theorem d_Model_family_43 : decode prog_8_method_11_code 43 = .ok (.iload_n 2, 1) := by decide +kernel
theorem d_Model_family_44 : decode prog_8_method_11_code 44 = .ok (.if_icmp .ge 73, 3) := by decide +kernel
theorem d_Model_family_47 : decode prog_8_method_11_code 47 = .ok (.iconst 0, 1) := by decide +kernel
theorem d_Model_family_48 : decode prog_8_method_11_code 48 = .ok (.istore 5, 2) := by decide +kernel
theorem d_Model_family_50 : decode prog_8_method_11_code 50 = .ok (.iload 5, 2) := by decide +kernel
theorem d_Model_family_52 : decode prog_8_method_11_code 52 = .ok (.bipush 42, 2) := by decide +kernel
theorem d_Model_family_54 : decode prog_8_method_11_code 54 = .ok (.if_icmp .ge 57, 3) := by decide +kernel
theorem d_Model_family_57 : decode prog_8_method_11_code 57 = .ok (.aload_n 0, 1) := by decide +kernel
theorem d_Model_family_58 : decode prog_8_method_11_code 58 = .ok (.getfield 44, 3) := by decide +kernel
theorem d_Model_family_61 : decode prog_8_method_11_code 61 = .ok (.iload 4, 2) := by decide +kernel
theorem d_Model_family_63 : decode prog_8_method_11_code 63 = .ok (.baload, 1) := by decide +kernel
theorem d_Model_family_64 : decode prog_8_method_11_code 64 = .ok (.ifCond .ne 47, 3) := by decide +kernel
theorem d_Model_family_67 : decode prog_8_method_11_code 67 = .ok (.aload_n 0, 1) := by decide +kernel
theorem d_Model_family_68 : decode prog_8_method_11_code 68 = .ok (.getfield 44, 3) := by decide +kernel
theorem d_Model_family_71 : decode prog_8_method_11_code 71 = .ok (.iload 5, 2) := by decide +kernel
theorem d_Model_family_73 : decode prog_8_method_11_code 73 = .ok (.baload, 1) := by decide +kernel
theorem d_Model_family_74 : decode prog_8_method_11_code 74 = .ok (.ifCond .eq 31, 3) := by decide +kernel
theorem d_Model_family_77 : decode prog_8_method_11_code 77 = .ok (.iload 4, 2) := by decide +kernel
theorem d_Model_family_79 : decode prog_8_method_11_code 79 = .ok (.iload 5, 2) := by decide +kernel
theorem d_Model_family_81 : decode prog_8_method_11_code 81 = .ok (.if_icmp .eq 24, 3) := by decide +kernel
theorem d_Model_family_84 : decode prog_8_method_11_code 84 = .ok (.aload_n 0, 1) := by decide +kernel
theorem d_Model_family_85 : decode prog_8_method_11_code 85 = .ok (.iload 4, 2) := by decide +kernel
theorem d_Model_family_87 : decode prog_8_method_11_code 87 = .ok (.iload 5, 2) := by decide +kernel
theorem d_Model_family_89 : decode prog_8_method_11_code 89 = .ok (.invokevirtual 70, 3) := by decide +kernel
theorem d_Model_family_92 : decode prog_8_method_11_code 92 = .ok (.ifCond .eq 13, 3) := by decide +kernel
theorem d_Model_family_95 : decode prog_8_method_11_code 95 = .ok (.aload_n 0, 1) := by decide +kernel
theorem d_Model_family_96 : decode prog_8_method_11_code 96 = .ok (.getfield 44, 3) := by decide +kernel
theorem d_Model_family_99 : decode prog_8_method_11_code 99 = .ok (.iload 4, 2) := by decide +kernel
theorem d_Model_family_101 : decode prog_8_method_11_code 101 = .ok (.iconst 1, 1) := by decide +kernel
theorem d_Model_family_102 : decode prog_8_method_11_code 102 = .ok (.bastore, 1) := by decide +kernel
theorem d_Model_family_103 : decode prog_8_method_11_code 103 = .ok (.iconst 1, 1) := by decide +kernel
theorem d_Model_family_104 : decode prog_8_method_11_code 104 = .ok (.istore_n 3, 1) := by decide +kernel
theorem d_Model_family_105 : decode prog_8_method_11_code 105 = .ok (.iinc 5 1, 3) := by decide +kernel
theorem d_Model_family_108 : decode prog_8_method_11_code 108 = .ok (.goto (-58), 3) := by decide +kernel
theorem d_Model_family_111 : decode prog_8_method_11_code 111 = .ok (.iinc 4 1, 3) := by decide +kernel
theorem d_Model_family_114 : decode prog_8_method_11_code 114 = .ok (.goto (-73), 3) := by decide +kernel
theorem d_Model_family_117 : decode prog_8_method_11_code 117 = .ok (.goto (-85), 3) := by decide +kernel
theorem d_Model_family_120 : decode prog_8_method_11_code 120 = .ok (.return_, 1) := by decide +kernel
theorem d_Model_hangs_0 : decode prog_8_method_7_code 0 = .ok (.iconst 0, 1) := by decide +kernel
theorem d_Model_hangs_1 : decode prog_8_method_7_code 1 = .ok (.istore_n 3, 1) := by decide +kernel
theorem d_Model_hangs_2 : decode prog_8_method_7_code 2 = .ok (.iconst 0, 1) := by decide +kernel
theorem d_Model_hangs_3 : decode prog_8_method_7_code 3 = .ok (.istore 4, 2) := by decide +kernel
theorem d_Model_hangs_5 : decode prog_8_method_7_code 5 = .ok (.iload 4, 2) := by decide +kernel
theorem d_Model_hangs_7 : decode prog_8_method_7_code 7 = .ok (.aload_n 0, 1) := by decide +kernel
theorem d_Model_hangs_8 : decode prog_8_method_7_code 8 = .ok (.getfield 13, 3) := by decide +kernel
theorem d_Model_hangs_11 : decode prog_8_method_7_code 11 = .ok (.iload_n 1, 1) := by decide +kernel
theorem d_Model_hangs_12 : decode prog_8_method_7_code 12 = .ok (.iaload, 1) := by decide +kernel
theorem d_Model_hangs_13 : decode prog_8_method_7_code 13 = .ok (.if_icmp .ge 30, 3) := by decide +kernel
theorem d_Model_hangs_16 : decode prog_8_method_7_code 16 = .ok (.iload_n 3, 1) := by decide +kernel
theorem d_Model_hangs_17 : decode prog_8_method_7_code 17 = .ok (.ifCond .ne 14, 3) := by decide +kernel
theorem d_Model_hangs_20 : decode prog_8_method_7_code 20 = .ok (.aload_n 0, 1) := by decide +kernel
theorem d_Model_hangs_21 : decode prog_8_method_7_code 21 = .ok (.iload_n 1, 1) := by decide +kernel
theorem d_Model_hangs_22 : decode prog_8_method_7_code 22 = .ok (.iload 4, 2) := by decide +kernel
theorem d_Model_hangs_24 : decode prog_8_method_7_code 24 = .ok (.iload_n 2, 1) := by decide +kernel
theorem d_Model_hangs_25 : decode prog_8_method_7_code 25 = .ok (.invokevirtual 62, 3) := by decide +kernel
theorem d_Model_hangs_28 : decode prog_8_method_7_code 28 = .ok (.ifCond .eq 7, 3) := by decide +kernel
theorem d_Model_hangs_31 : decode prog_8_method_7_code 31 = .ok (.iconst 1, 1) := by decide +kernel
theorem d_Model_hangs_32 : decode prog_8_method_7_code 32 = .ok (.goto 4, 3) := by decide +kernel
theorem d_Model_hangs_35 : decode prog_8_method_7_code 35 = .ok (.iconst 0, 1) := by decide +kernel
theorem d_Model_hangs_36 : decode prog_8_method_7_code 36 = .ok (.istore_n 3, 1) := by decide +kernel
theorem d_Model_hangs_37 : decode prog_8_method_7_code 37 = .ok (.iinc 4 1, 3) := by decide +kernel
theorem d_Model_hangs_40 : decode prog_8_method_7_code 40 = .ok (.goto (-35), 3) := by decide +kernel
theorem d_Model_hangs_43 : decode prog_8_method_7_code 43 = .ok (.iload_n 3, 1) := by decide +kernel
theorem d_Model_hangs_44 : decode prog_8_method_7_code 44 = .ok (.ireturn, 1) := by decide +kernel
theorem d_Model_copy_0 : decode prog_8_method_12_code 0 = .ok (.iconst 0, 1) := by decide +kernel
theorem d_Model_copy_1 : decode prog_8_method_12_code 1 = .ok (.istore_n 3, 1) := by decide +kernel
theorem d_Model_copy_2 : decode prog_8_method_12_code 2 = .ok (.iload_n 3, 1) := by decide +kernel
theorem d_Model_copy_3 : decode prog_8_method_12_code 3 = .ok (.iconst 4, 1) := by decide +kernel
theorem d_Model_copy_4 : decode prog_8_method_12_code 4 = .ok (.if_icmp .ge 29, 3) := by decide +kernel
theorem d_Model_copy_7 : decode prog_8_method_12_code 7 = .ok (.aload_n 0, 1) := by decide +kernel
theorem d_Model_copy_8 : decode prog_8_method_12_code 8 = .ok (.getfield 7, 3) := by decide +kernel
theorem d_Model_copy_11 : decode prog_8_method_12_code 11 = .ok (.iconst 4, 1) := by decide +kernel
theorem d_Model_copy_12 : decode prog_8_method_12_code 12 = .ok (.iload_n 2, 1) := by decide +kernel
theorem d_Model_copy_13 : decode prog_8_method_12_code 13 = .ok (.imul, 1) := by decide +kernel
theorem d_Model_copy_14 : decode prog_8_method_12_code 14 = .ok (.iload_n 3, 1) := by decide +kernel
theorem d_Model_copy_15 : decode prog_8_method_12_code 15 = .ok (.iadd, 1) := by decide +kernel
theorem d_Model_copy_16 : decode prog_8_method_12_code 16 = .ok (.aload_n 0, 1) := by decide +kernel
theorem d_Model_copy_17 : decode prog_8_method_12_code 17 = .ok (.getfield 7, 3) := by decide +kernel
theorem d_Model_copy_20 : decode prog_8_method_12_code 20 = .ok (.iconst 4, 1) := by decide +kernel
theorem d_Model_copy_21 : decode prog_8_method_12_code 21 = .ok (.iload_n 1, 1) := by decide +kernel
theorem d_Model_copy_22 : decode prog_8_method_12_code 22 = .ok (.imul, 1) := by decide +kernel
theorem d_Model_copy_23 : decode prog_8_method_12_code 23 = .ok (.iload_n 3, 1) := by decide +kernel
theorem d_Model_copy_24 : decode prog_8_method_12_code 24 = .ok (.iadd, 1) := by decide +kernel
theorem d_Model_copy_25 : decode prog_8_method_12_code 25 = .ok (.laload, 1) := by decide +kernel
theorem d_Model_copy_26 : decode prog_8_method_12_code 26 = .ok (.lastore, 1) := by decide +kernel
theorem d_Model_copy_27 : decode prog_8_method_12_code 27 = .ok (.iinc 3 1, 3) := by decide +kernel
theorem d_Model_copy_30 : decode prog_8_method_12_code 30 = .ok (.goto (-28), 3) := by decide +kernel
theorem d_Model_copy_33 : decode prog_8_method_12_code 33 = .ok (.iconst 0, 1) := by decide +kernel
theorem d_Model_copy_34 : decode prog_8_method_12_code 34 = .ok (.istore_n 3, 1) := by decide +kernel
theorem d_Model_copy_35 : decode prog_8_method_12_code 35 = .ok (.iload_n 3, 1) := by decide +kernel
theorem d_Model_copy_36 : decode prog_8_method_12_code 36 = .ok (.bipush 32, 2) := by decide +kernel
theorem d_Model_copy_38 : decode prog_8_method_12_code 38 = .ok (.if_icmp .ge 31, 3) := by decide +kernel
theorem d_Model_copy_41 : decode prog_8_method_12_code 41 = .ok (.aload_n 0, 1) := by decide +kernel
theorem d_Model_copy_42 : decode prog_8_method_12_code 42 = .ok (.getfield 17, 3) := by decide +kernel
theorem d_Model_copy_45 : decode prog_8_method_12_code 45 = .ok (.bipush 32, 2) := by decide +kernel
theorem d_Model_copy_47 : decode prog_8_method_12_code 47 = .ok (.iload_n 2, 1) := by decide +kernel
theorem d_Model_copy_48 : decode prog_8_method_12_code 48 = .ok (.imul, 1) := by decide +kernel
theorem d_Model_copy_49 : decode prog_8_method_12_code 49 = .ok (.iload_n 3, 1) := by decide +kernel
theorem d_Model_copy_50 : decode prog_8_method_12_code 50 = .ok (.iadd, 1) := by decide +kernel
theorem d_Model_copy_51 : decode prog_8_method_12_code 51 = .ok (.aload_n 0, 1) := by decide +kernel
theorem d_Model_copy_52 : decode prog_8_method_12_code 52 = .ok (.getfield 17, 3) := by decide +kernel
theorem d_Model_copy_55 : decode prog_8_method_12_code 55 = .ok (.bipush 32, 2) := by decide +kernel
theorem d_Model_copy_57 : decode prog_8_method_12_code 57 = .ok (.iload_n 1, 1) := by decide +kernel
theorem d_Model_copy_58 : decode prog_8_method_12_code 58 = .ok (.imul, 1) := by decide +kernel
theorem d_Model_copy_59 : decode prog_8_method_12_code 59 = .ok (.iload_n 3, 1) := by decide +kernel
theorem d_Model_copy_60 : decode prog_8_method_12_code 60 = .ok (.iadd, 1) := by decide +kernel
theorem d_Model_copy_61 : decode prog_8_method_12_code 61 = .ok (.laload, 1) := by decide +kernel
theorem d_Model_copy_62 : decode prog_8_method_12_code 62 = .ok (.lastore, 1) := by decide +kernel
theorem d_Model_copy_63 : decode prog_8_method_12_code 63 = .ok (.iinc 3 1, 3) := by decide +kernel
theorem d_Model_copy_66 : decode prog_8_method_12_code 66 = .ok (.goto (-31), 3) := by decide +kernel
theorem d_Model_copy_69 : decode prog_8_method_12_code 69 = .ok (.iconst 0, 1) := by decide +kernel
theorem d_Model_copy_70 : decode prog_8_method_12_code 70 = .ok (.istore_n 3, 1) := by decide +kernel
theorem d_Model_copy_71 : decode prog_8_method_12_code 71 = .ok (.iload_n 3, 1) := by decide +kernel
theorem d_Model_copy_72 : decode prog_8_method_12_code 72 = .ok (.bipush 8, 2) := by decide +kernel
theorem d_Model_copy_74 : decode prog_8_method_12_code 74 = .ok (.if_icmp .ge 31, 3) := by decide +kernel
theorem d_Model_copy_77 : decode prog_8_method_12_code 77 = .ok (.aload_n 0, 1) := by decide +kernel
theorem d_Model_copy_78 : decode prog_8_method_12_code 78 = .ok (.getfield 20, 3) := by decide +kernel
theorem d_Model_copy_81 : decode prog_8_method_12_code 81 = .ok (.bipush 8, 2) := by decide +kernel
theorem d_Model_copy_83 : decode prog_8_method_12_code 83 = .ok (.iload_n 2, 1) := by decide +kernel
theorem d_Model_copy_84 : decode prog_8_method_12_code 84 = .ok (.imul, 1) := by decide +kernel
theorem d_Model_copy_85 : decode prog_8_method_12_code 85 = .ok (.iload_n 3, 1) := by decide +kernel
theorem d_Model_copy_86 : decode prog_8_method_12_code 86 = .ok (.iadd, 1) := by decide +kernel
theorem d_Model_copy_87 : decode prog_8_method_12_code 87 = .ok (.aload_n 0, 1) := by decide +kernel
theorem d_Model_copy_88 : decode prog_8_method_12_code 88 = .ok (.getfield 20, 3) := by decide +kernel
theorem d_Model_copy_91 : decode prog_8_method_12_code 91 = .ok (.bipush 8, 2) := by decide +kernel
theorem d_Model_copy_93 : decode prog_8_method_12_code 93 = .ok (.iload_n 1, 1) := by decide +kernel
theorem d_Model_copy_94 : decode prog_8_method_12_code 94 = .ok (.imul, 1) := by decide +kernel
theorem d_Model_copy_95 : decode prog_8_method_12_code 95 = .ok (.iload_n 3, 1) := by decide +kernel
theorem d_Model_copy_96 : decode prog_8_method_12_code 96 = .ok (.iadd, 1) := by decide +kernel
theorem d_Model_copy_97 : decode prog_8_method_12_code 97 = .ok (.iaload, 1) := by decide +kernel
theorem d_Model_copy_98 : decode prog_8_method_12_code 98 = .ok (.iastore, 1) := by decide +kernel
theorem d_Model_copy_99 : decode prog_8_method_12_code 99 = .ok (.iinc 3 1, 3) := by decide +kernel
theorem d_Model_copy_102 : decode prog_8_method_12_code 102 = .ok (.goto (-31), 3) := by decide +kernel
theorem d_Model_copy_105 : decode prog_8_method_12_code 105 = .ok (.aload_n 0, 1) := by decide +kernel
theorem d_Model_copy_106 : decode prog_8_method_12_code 106 = .ok (.getfield 13, 3) := by decide +kernel
theorem d_Model_copy_109 : decode prog_8_method_12_code 109 = .ok (.iload_n 2, 1) := by decide +kernel
theorem d_Model_copy_110 : decode prog_8_method_12_code 110 = .ok (.aload_n 0, 1) := by decide +kernel
theorem d_Model_copy_111 : decode prog_8_method_12_code 111 = .ok (.getfield 13, 3) := by decide +kernel
theorem d_Model_copy_114 : decode prog_8_method_12_code 114 = .ok (.iload_n 1, 1) := by decide +kernel
theorem d_Model_copy_115 : decode prog_8_method_12_code 115 = .ok (.iaload, 1) := by decide +kernel
theorem d_Model_copy_116 : decode prog_8_method_12_code 116 = .ok (.iastore, 1) := by decide +kernel
theorem d_Model_copy_117 : decode prog_8_method_12_code 117 = .ok (.aload_n 0, 1) := by decide +kernel
theorem d_Model_copy_118 : decode prog_8_method_12_code 118 = .ok (.getfield 23, 3) := by decide +kernel
theorem d_Model_copy_121 : decode prog_8_method_12_code 121 = .ok (.iload_n 2, 1) := by decide +kernel
theorem d_Model_copy_122 : decode prog_8_method_12_code 122 = .ok (.aload_n 0, 1) := by decide +kernel
theorem d_Model_copy_123 : decode prog_8_method_12_code 123 = .ok (.getfield 23, 3) := by decide +kernel
theorem d_Model_copy_126 : decode prog_8_method_12_code 126 = .ok (.iload_n 1, 1) := by decide +kernel
theorem d_Model_copy_127 : decode prog_8_method_12_code 127 = .ok (.laload, 1) := by decide +kernel
theorem d_Model_copy_128 : decode prog_8_method_12_code 128 = .ok (.lastore, 1) := by decide +kernel
theorem d_Model_copy_129 : decode prog_8_method_12_code 129 = .ok (.aload_n 0, 1) := by decide +kernel
theorem d_Model_copy_130 : decode prog_8_method_12_code 130 = .ok (.getfield 26, 3) := by decide +kernel
theorem d_Model_copy_133 : decode prog_8_method_12_code 133 = .ok (.iload_n 2, 1) := by decide +kernel
theorem d_Model_copy_134 : decode prog_8_method_12_code 134 = .ok (.aload_n 0, 1) := by decide +kernel
theorem d_Model_copy_135 : decode prog_8_method_12_code 135 = .ok (.getfield 26, 3) := by decide +kernel
theorem d_Model_copy_138 : decode prog_8_method_12_code 138 = .ok (.iload_n 1, 1) := by decide +kernel
theorem d_Model_copy_139 : decode prog_8_method_12_code 139 = .ok (.iaload, 1) := by decide +kernel
theorem d_Model_copy_140 : decode prog_8_method_12_code 140 = .ok (.iastore, 1) := by decide +kernel
theorem d_Model_copy_141 : decode prog_8_method_12_code 141 = .ok (.aload_n 0, 1) := by decide +kernel
theorem d_Model_copy_142 : decode prog_8_method_12_code 142 = .ok (.getfield 29, 3) := by decide +kernel
theorem d_Model_copy_145 : decode prog_8_method_12_code 145 = .ok (.iload_n 2, 1) := by decide +kernel
theorem d_Model_copy_146 : decode prog_8_method_12_code 146 = .ok (.aload_n 0, 1) := by decide +kernel
theorem d_Model_copy_147 : decode prog_8_method_12_code 147 = .ok (.getfield 29, 3) := by decide +kernel
theorem d_Model_copy_150 : decode prog_8_method_12_code 150 = .ok (.iload_n 1, 1) := by decide +kernel
theorem d_Model_copy_151 : decode prog_8_method_12_code 151 = .ok (.iaload, 1) := by decide +kernel
theorem d_Model_copy_152 : decode prog_8_method_12_code 152 = .ok (.iastore, 1) := by decide +kernel
theorem d_Model_copy_153 : decode prog_8_method_12_code 153 = .ok (.aload_n 0, 1) := by decide +kernel
theorem d_Model_copy_154 : decode prog_8_method_12_code 154 = .ok (.getfield 32, 3) := by decide +kernel
theorem d_Model_copy_157 : decode prog_8_method_12_code 157 = .ok (.iload_n 2, 1) := by decide +kernel
theorem d_Model_copy_158 : decode prog_8_method_12_code 158 = .ok (.aload_n 0, 1) := by decide +kernel
theorem d_Model_copy_159 : decode prog_8_method_12_code 159 = .ok (.getfield 32, 3) := by decide +kernel
theorem d_Model_copy_162 : decode prog_8_method_12_code 162 = .ok (.iload_n 1, 1) := by decide +kernel
theorem d_Model_copy_163 : decode prog_8_method_12_code 163 = .ok (.iaload, 1) := by decide +kernel
theorem d_Model_copy_164 : decode prog_8_method_12_code 164 = .ok (.iastore, 1) := by decide +kernel
theorem d_Model_copy_165 : decode prog_8_method_12_code 165 = .ok (.return_, 1) := by decide +kernel
theorem d_Model_least_0 : decode prog_8_method_17_code 0 = .ok (.iconst 0, 1) := by decide +kernel
theorem d_Model_least_1 : decode prog_8_method_17_code 1 = .ok (.istore_n 1, 1) := by decide +kernel
theorem d_Model_least_2 : decode prog_8_method_17_code 2 = .ok (.lconst 0, 1) := by decide +kernel
theorem d_Model_least_3 : decode prog_8_method_17_code 3 = .ok (.lstore_n 2, 1) := by decide +kernel
theorem d_Model_least_4 : decode prog_8_method_17_code 4 = .ok (.lconst 0, 1) := by decide +kernel
theorem d_Model_least_5 : decode prog_8_method_17_code 5 = .ok (.lstore 4, 2) := by decide +kernel
theorem d_Model_least_7 : decode prog_8_method_17_code 7 = .ok (.iconst 0, 1) := by decide +kernel
theorem d_Model_least_8 : decode prog_8_method_17_code 8 = .ok (.istore 6, 2) := by decide +kernel
theorem d_Model_least_10 : decode prog_8_method_17_code 10 = .ok (.iload 6, 2) := by decide +kernel
theorem d_Model_least_12 : decode prog_8_method_17_code 12 = .ok (.aload_n 0, 1) := by decide +kernel
theorem d_Model_least_13 : decode prog_8_method_17_code 13 = .ok (.getfield 51, 3) := by decide +kernel
theorem d_Model_least_16 : decode prog_8_method_17_code 16 = .ok (.if_icmp .ge 61, 3) := by decide +kernel
theorem d_Model_least_19 : decode prog_8_method_17_code 19 = .ok (.aload_n 0, 1) := by decide +kernel
theorem d_Model_least_20 : decode prog_8_method_17_code 20 = .ok (.iload 6, 2) := by decide +kernel
theorem d_Model_least_22 : decode prog_8_method_17_code 22 = .ok (.aload_n 0, 1) := by decide +kernel
theorem d_Model_least_23 : decode prog_8_method_17_code 23 = .ok (.getfield 51, 3) := by decide +kernel
theorem d_Model_least_26 : decode prog_8_method_17_code 26 = .ok (.invokevirtual 78, 3) := by decide +kernel
theorem d_Model_least_29 : decode prog_8_method_17_code 29 = .ok (.aload_n 0, 1) := by decide +kernel
theorem d_Model_least_30 : decode prog_8_method_17_code 30 = .ok (.iconst 1, 1) := by decide +kernel
theorem d_Model_least_31 : decode prog_8_method_17_code 31 = .ok (.invokevirtual 81, 3) := by decide +kernel
theorem d_Model_least_34 : decode prog_8_method_17_code 34 = .ok (.lstore 7, 2) := by decide +kernel
theorem d_Model_least_36 : decode prog_8_method_17_code 36 = .ok (.aload_n 0, 1) := by decide +kernel
theorem d_Model_least_37 : decode prog_8_method_17_code 37 = .ok (.iconst 1, 1) := by decide +kernel
theorem d_Model_least_38 : decode prog_8_method_17_code 38 = .ok (.invokevirtual 85, 3) := by decide +kernel
theorem d_Model_least_41 : decode prog_8_method_17_code 41 = .ok (.lstore 9, 2) := by decide +kernel
theorem d_Model_least_43 : decode prog_8_method_17_code 43 = .ok (.iload 6, 2) := by decide +kernel
theorem d_Model_least_45 : decode prog_8_method_17_code 45 = .ok (.ifCond .eq 16, 3) := by decide +kernel
theorem d_Model_least_48 : decode prog_8_method_17_code 48 = .ok (.lload 7, 2) := by decide +kernel
theorem d_Model_least_50 : decode prog_8_method_17_code 50 = .ok (.lload 9, 2) := by decide +kernel
theorem d_Model_least_52 : decode prog_8_method_17_code 52 = .ok (.lload_n 2, 1) := by decide +kernel
theorem d_Model_least_53 : decode prog_8_method_17_code 53 = .ok (.lload 4, 2) := by decide +kernel
theorem d_Model_least_55 : decode prog_8_method_17_code 55 = .ok (.invokestatic 88, 3) := by decide +kernel
theorem d_Model_least_58 : decode prog_8_method_17_code 58 = .ok (.ifCond .gt 13, 3) := by decide +kernel
theorem d_Model_least_61 : decode prog_8_method_17_code 61 = .ok (.iload 6, 2) := by decide +kernel
theorem d_Model_least_63 : decode prog_8_method_17_code 63 = .ok (.istore_n 1, 1) := by decide +kernel
theorem d_Model_least_64 : decode prog_8_method_17_code 64 = .ok (.lload 7, 2) := by decide +kernel
theorem d_Model_least_66 : decode prog_8_method_17_code 66 = .ok (.lstore_n 2, 1) := by decide +kernel
theorem d_Model_least_67 : decode prog_8_method_17_code 67 = .ok (.lload 9, 2) := by decide +kernel
theorem d_Model_least_69 : decode prog_8_method_17_code 69 = .ok (.lstore 4, 2) := by decide +kernel
theorem d_Model_least_71 : decode prog_8_method_17_code 71 = .ok (.iinc 6 1, 3) := by decide +kernel
theorem d_Model_least_74 : decode prog_8_method_17_code 74 = .ok (.goto (-64), 3) := by decide +kernel
theorem d_Model_least_77 : decode prog_8_method_17_code 77 = .ok (.iload_n 1, 1) := by decide +kernel
theorem d_Model_least_78 : decode prog_8_method_17_code 78 = .ok (.ireturn, 1) := by decide +kernel
theorem d_Model_feesOf_0 : decode prog_8_method_15_code 0 = .ok (.lconst 0, 1) := by decide +kernel
theorem d_Model_feesOf_1 : decode prog_8_method_15_code 1 = .ok (.lstore_n 2, 1) := by decide +kernel
theorem d_Model_feesOf_2 : decode prog_8_method_15_code 2 = .ok (.iconst 0, 1) := by decide +kernel
theorem d_Model_feesOf_3 : decode prog_8_method_15_code 3 = .ok (.istore 4, 2) := by decide +kernel
theorem d_Model_feesOf_5 : decode prog_8_method_15_code 5 = .ok (.iload 4, 2) := by decide +kernel
theorem d_Model_feesOf_7 : decode prog_8_method_15_code 7 = .ok (.aload_n 0, 1) := by decide +kernel
theorem d_Model_feesOf_8 : decode prog_8_method_15_code 8 = .ok (.getfield 51, 3) := by decide +kernel
theorem d_Model_feesOf_11 : decode prog_8_method_15_code 11 = .ok (.if_icmp .ge 37, 3) := by decide +kernel
theorem d_Model_feesOf_14 : decode prog_8_method_15_code 14 = .ok (.lload_n 2, 1) := by decide +kernel
theorem d_Model_feesOf_15 : decode prog_8_method_15_code 15 = .ok (.aload_n 0, 1) := by decide +kernel
theorem d_Model_feesOf_16 : decode prog_8_method_15_code 16 = .ok (.getfield 44, 3) := by decide +kernel
theorem d_Model_feesOf_19 : decode prog_8_method_15_code 19 = .ok (.iload 4, 2) := by decide +kernel
theorem d_Model_feesOf_21 : decode prog_8_method_15_code 21 = .ok (.baload, 1) := by decide +kernel
theorem d_Model_feesOf_22 : decode prog_8_method_15_code 22 = .ok (.ifCond .ne 7, 3) := by decide +kernel
theorem d_Model_feesOf_25 : decode prog_8_method_15_code 25 = .ok (.iload_n 1, 1) := by decide +kernel
theorem d_Model_feesOf_26 : decode prog_8_method_15_code 26 = .ok (.ifCond .ne 13, 3) := by decide +kernel
theorem d_Model_feesOf_29 : decode prog_8_method_15_code 29 = .ok (.aload_n 0, 1) := by decide +kernel
theorem d_Model_feesOf_30 : decode prog_8_method_15_code 30 = .ok (.getfield 23, 3) := by decide +kernel
theorem d_Model_feesOf_33 : decode prog_8_method_15_code 33 = .ok (.iload 4, 2) := by decide +kernel
theorem d_Model_feesOf_35 : decode prog_8_method_15_code 35 = .ok (.laload, 1) := by decide +kernel
theorem d_Model_feesOf_36 : decode prog_8_method_15_code 36 = .ok (.goto 4, 3) := by decide +kernel
theorem d_Model_feesOf_39 : decode prog_8_method_15_code 39 = .ok (.lconst 0, 1) := by decide +kernel
theorem d_Model_feesOf_40 : decode prog_8_method_15_code 40 = .ok (.ladd, 1) := by decide +kernel
theorem d_Model_feesOf_41 : decode prog_8_method_15_code 41 = .ok (.lstore_n 2, 1) := by decide +kernel
theorem d_Model_feesOf_42 : decode prog_8_method_15_code 42 = .ok (.iinc 4 1, 3) := by decide +kernel
theorem d_Model_feesOf_45 : decode prog_8_method_15_code 45 = .ok (.goto (-40), 3) := by decide +kernel
theorem d_Model_feesOf_48 : decode prog_8_method_15_code 48 = .ok (.lload_n 2, 1) := by decide +kernel
theorem d_Model_feesOf_49 : decode prog_8_method_15_code 49 = .ok (.lreturn, 1) := by decide +kernel
theorem d_Model_sizesOf_0 : decode prog_8_method_16_code 0 = .ok (.lconst 0, 1) := by decide +kernel
theorem d_Model_sizesOf_1 : decode prog_8_method_16_code 1 = .ok (.lstore_n 2, 1) := by decide +kernel
theorem d_Model_sizesOf_2 : decode prog_8_method_16_code 2 = .ok (.iconst 0, 1) := by decide +kernel
theorem d_Model_sizesOf_3 : decode prog_8_method_16_code 3 = .ok (.istore 4, 2) := by decide +kernel
theorem d_Model_sizesOf_5 : decode prog_8_method_16_code 5 = .ok (.iload 4, 2) := by decide +kernel
theorem d_Model_sizesOf_7 : decode prog_8_method_16_code 7 = .ok (.aload_n 0, 1) := by decide +kernel
theorem d_Model_sizesOf_8 : decode prog_8_method_16_code 8 = .ok (.getfield 51, 3) := by decide +kernel
theorem d_Model_sizesOf_11 : decode prog_8_method_16_code 11 = .ok (.if_icmp .ge 38, 3) := by decide +kernel
theorem d_Model_sizesOf_14 : decode prog_8_method_16_code 14 = .ok (.lload_n 2, 1) := by decide +kernel
theorem d_Model_sizesOf_15 : decode prog_8_method_16_code 15 = .ok (.aload_n 0, 1) := by decide +kernel
theorem d_Model_sizesOf_16 : decode prog_8_method_16_code 16 = .ok (.getfield 44, 3) := by decide +kernel
theorem d_Model_sizesOf_19 : decode prog_8_method_16_code 19 = .ok (.iload 4, 2) := by decide +kernel
theorem d_Model_sizesOf_21 : decode prog_8_method_16_code 21 = .ok (.baload, 1) := by decide +kernel
theorem d_Model_sizesOf_22 : decode prog_8_method_16_code 22 = .ok (.ifCond .ne 7, 3) := by decide +kernel
theorem d_Model_sizesOf_25 : decode prog_8_method_16_code 25 = .ok (.iload_n 1, 1) := by decide +kernel
theorem d_Model_sizesOf_26 : decode prog_8_method_16_code 26 = .ok (.ifCond .ne 13, 3) := by decide +kernel
theorem d_Model_sizesOf_29 : decode prog_8_method_16_code 29 = .ok (.aload_n 0, 1) := by decide +kernel
theorem d_Model_sizesOf_30 : decode prog_8_method_16_code 30 = .ok (.getfield 26, 3) := by decide +kernel
theorem d_Model_sizesOf_33 : decode prog_8_method_16_code 33 = .ok (.iload 4, 2) := by decide +kernel
theorem d_Model_sizesOf_35 : decode prog_8_method_16_code 35 = .ok (.iaload, 1) := by decide +kernel
theorem d_Model_sizesOf_36 : decode prog_8_method_16_code 36 = .ok (.goto 4, 3) := by decide +kernel
theorem d_Model_sizesOf_39 : decode prog_8_method_16_code 39 = .ok (.iconst 0, 1) := by decide +kernel
theorem d_Model_sizesOf_40 : decode prog_8_method_16_code 40 = .ok (.i2l, 1) := by decide +kernel
theorem d_Model_sizesOf_41 : decode prog_8_method_16_code 41 = .ok (.ladd, 1) := by decide +kernel
theorem d_Model_sizesOf_42 : decode prog_8_method_16_code 42 = .ok (.lstore_n 2, 1) := by decide +kernel
theorem d_Model_sizesOf_43 : decode prog_8_method_16_code 43 = .ok (.iinc 4 1, 3) := by decide +kernel
theorem d_Model_sizesOf_46 : decode prog_8_method_16_code 46 = .ok (.goto (-41), 3) := by decide +kernel
theorem d_Model_sizesOf_49 : decode prog_8_method_16_code 49 = .ok (.lload_n 2, 1) := by decide +kernel
theorem d_Model_sizesOf_50 : decode prog_8_method_16_code 50 = .ok (.lreturn, 1) := by decide +kernel
theorem d_Model_compare_0 : decode prog_8_method_14_code 0 = .ok (.lload_n 0, 1) := by decide +kernel
theorem d_Model_compare_1 : decode prog_8_method_14_code 1 = .ok (.lstore 8, 2) := by decide +kernel
theorem d_Model_compare_3 : decode prog_8_method_14_code 3 = .ok (.lload_n 2, 1) := by decide +kernel
theorem d_Model_compare_4 : decode prog_8_method_14_code 4 = .ok (.lstore 10, 2) := by decide +kernel
theorem d_Model_compare_6 : decode prog_8_method_14_code 6 = .ok (.lload 4, 2) := by decide +kernel
theorem d_Model_compare_8 : decode prog_8_method_14_code 8 = .ok (.lstore 12, 2) := by decide +kernel
theorem d_Model_compare_10 : decode prog_8_method_14_code 10 = .ok (.lload 6, 2) := by decide +kernel
theorem d_Model_compare_12 : decode prog_8_method_14_code 12 = .ok (.lstore 14, 2) := by decide +kernel
theorem d_Model_compare_14 : decode prog_8_method_14_code 14 = .ok (.iconst 1, 1) := by decide +kernel
theorem d_Model_compare_15 : decode prog_8_method_14_code 15 = .ok (.istore 16, 2) := by decide +kernel
theorem d_Model_compare_17 : decode prog_8_method_14_code 17 = .ok (.lload 8, 2) := by decide +kernel
theorem d_Model_compare_19 : decode prog_8_method_14_code 19 = .ok (.lload 10, 2) := by decide +kernel
theorem d_Model_compare_21 : decode prog_8_method_14_code 21 = .ok (.ldiv, 1) := by decide +kernel
theorem d_Model_compare_22 : decode prog_8_method_14_code 22 = .ok (.lload 12, 2) := by decide +kernel
theorem d_Model_compare_24 : decode prog_8_method_14_code 24 = .ok (.lload 14, 2) := by decide +kernel
theorem d_Model_compare_26 : decode prog_8_method_14_code 26 = .ok (.ldiv, 1) := by decide +kernel
theorem d_Model_compare_27 : decode prog_8_method_14_code 27 = .ok (.lcmp, 1) := by decide +kernel
theorem d_Model_compare_28 : decode prog_8_method_14_code 28 = .ok (.ifCond .ne 83, 3) := by decide +kernel
theorem d_Model_compare_31 : decode prog_8_method_14_code 31 = .ok (.lload 8, 2) := by decide +kernel
theorem d_Model_compare_33 : decode prog_8_method_14_code 33 = .ok (.lload 10, 2) := by decide +kernel
theorem d_Model_compare_35 : decode prog_8_method_14_code 35 = .ok (.lrem, 1) := by decide +kernel
theorem d_Model_compare_36 : decode prog_8_method_14_code 36 = .ok (.lstore 17, 2) := by decide +kernel
theorem d_Model_compare_38 : decode prog_8_method_14_code 38 = .ok (.lload 12, 2) := by decide +kernel
theorem d_Model_compare_40 : decode prog_8_method_14_code 40 = .ok (.lload 14, 2) := by decide +kernel
theorem d_Model_compare_42 : decode prog_8_method_14_code 42 = .ok (.lrem, 1) := by decide +kernel
theorem d_Model_compare_43 : decode prog_8_method_14_code 43 = .ok (.lstore 19, 2) := by decide +kernel
theorem d_Model_compare_45 : decode prog_8_method_14_code 45 = .ok (.lload 17, 2) := by decide +kernel
theorem d_Model_compare_47 : decode prog_8_method_14_code 47 = .ok (.lconst 0, 1) := by decide +kernel
theorem d_Model_compare_48 : decode prog_8_method_14_code 48 = .ok (.lcmp, 1) := by decide +kernel
theorem d_Model_compare_49 : decode prog_8_method_14_code 49 = .ok (.ifCond .eq 10, 3) := by decide +kernel
theorem d_Model_compare_52 : decode prog_8_method_14_code 52 = .ok (.lload 19, 2) := by decide +kernel
theorem d_Model_compare_54 : decode prog_8_method_14_code 54 = .ok (.lconst 0, 1) := by decide +kernel
theorem d_Model_compare_55 : decode prog_8_method_14_code 55 = .ok (.lcmp, 1) := by decide +kernel
theorem d_Model_compare_56 : decode prog_8_method_14_code 56 = .ok (.ifCond .ne 31, 3) := by decide +kernel
theorem d_Model_compare_59 : decode prog_8_method_14_code 59 = .ok (.lload 17, 2) := by decide +kernel
theorem d_Model_compare_61 : decode prog_8_method_14_code 61 = .ok (.lload 19, 2) := by decide +kernel
theorem d_Model_compare_63 : decode prog_8_method_14_code 63 = .ok (.lcmp, 1) := by decide +kernel
theorem d_Model_compare_64 : decode prog_8_method_14_code 64 = .ok (.ifCond .ne 7, 3) := by decide +kernel
theorem d_Model_compare_67 : decode prog_8_method_14_code 67 = .ok (.iconst 0, 1) := by decide +kernel
theorem d_Model_compare_68 : decode prog_8_method_14_code 68 = .ok (.goto 18, 3) := by decide +kernel
theorem d_Model_compare_71 : decode prog_8_method_14_code 71 = .ok (.lload 17, 2) := by decide +kernel
theorem d_Model_compare_73 : decode prog_8_method_14_code 73 = .ok (.lconst 0, 1) := by decide +kernel
theorem d_Model_compare_74 : decode prog_8_method_14_code 74 = .ok (.lcmp, 1) := by decide +kernel
theorem d_Model_compare_75 : decode prog_8_method_14_code 75 = .ok (.ifCond .ne 9, 3) := by decide +kernel
theorem d_Model_compare_78 : decode prog_8_method_14_code 78 = .ok (.iload 16, 2) := by decide +kernel
theorem d_Model_compare_80 : decode prog_8_method_14_code 80 = .ok (.ineg, 1) := by decide +kernel
theorem d_Model_compare_81 : decode prog_8_method_14_code 81 = .ok (.goto 5, 3) := by decide +kernel
theorem d_Model_compare_84 : decode prog_8_method_14_code 84 = .ok (.iload 16, 2) := by decide +kernel
theorem d_Model_compare_86 : decode prog_8_method_14_code 86 = .ok (.ireturn, 1) := by decide +kernel
theorem d_Model_compare_87 : decode prog_8_method_14_code 87 = .ok (.lload 10, 2) := by decide +kernel
theorem d_Model_compare_89 : decode prog_8_method_14_code 89 = .ok (.lstore 8, 2) := by decide +kernel
theorem d_Model_compare_91 : decode prog_8_method_14_code 91 = .ok (.lload 17, 2) := by decide +kernel
theorem d_Model_compare_93 : decode prog_8_method_14_code 93 = .ok (.lstore 10, 2) := by decide +kernel
theorem d_Model_compare_95 : decode prog_8_method_14_code 95 = .ok (.lload 14, 2) := by decide +kernel
theorem d_Model_compare_97 : decode prog_8_method_14_code 97 = .ok (.lstore 12, 2) := by decide +kernel
theorem d_Model_compare_99 : decode prog_8_method_14_code 99 = .ok (.lload 19, 2) := by decide +kernel
theorem d_Model_compare_101 : decode prog_8_method_14_code 101 = .ok (.lstore 14, 2) := by decide +kernel
theorem d_Model_compare_103 : decode prog_8_method_14_code 103 = .ok (.iload 16, 2) := by decide +kernel
theorem d_Model_compare_105 : decode prog_8_method_14_code 105 = .ok (.ineg, 1) := by decide +kernel
theorem d_Model_compare_106 : decode prog_8_method_14_code 106 = .ok (.istore 16, 2) := by decide +kernel
theorem d_Model_compare_108 : decode prog_8_method_14_code 108 = .ok (.goto (-91), 3) := by decide +kernel
theorem d_Model_compare_111 : decode prog_8_method_14_code 111 = .ok (.lload 8, 2) := by decide +kernel
theorem d_Model_compare_113 : decode prog_8_method_14_code 113 = .ok (.lload 10, 2) := by decide +kernel
theorem d_Model_compare_115 : decode prog_8_method_14_code 115 = .ok (.ldiv, 1) := by decide +kernel
theorem d_Model_compare_116 : decode prog_8_method_14_code 116 = .ok (.lload 12, 2) := by decide +kernel
theorem d_Model_compare_118 : decode prog_8_method_14_code 118 = .ok (.lload 14, 2) := by decide +kernel
theorem d_Model_compare_120 : decode prog_8_method_14_code 120 = .ok (.ldiv, 1) := by decide +kernel
theorem d_Model_compare_121 : decode prog_8_method_14_code 121 = .ok (.lcmp, 1) := by decide +kernel
theorem d_Model_compare_122 : decode prog_8_method_14_code 122 = .ok (.ifCond .ge 9, 3) := by decide +kernel
theorem d_Model_compare_125 : decode prog_8_method_14_code 125 = .ok (.iload 16, 2) := by decide +kernel
theorem d_Model_compare_127 : decode prog_8_method_14_code 127 = .ok (.ineg, 1) := by decide +kernel
theorem d_Model_compare_128 : decode prog_8_method_14_code 128 = .ok (.goto 5, 3) := by decide +kernel
theorem d_Model_compare_131 : decode prog_8_method_14_code 131 = .ok (.iload 16, 2) := by decide +kernel
theorem d_Model_compare_133 : decode prog_8_method_14_code 133 = .ok (.ireturn, 1) := by decide +kernel
theorem d_Model_remove_0 : decode prog_8_method_13_code 0 = .ok (.iconst 0, 1) := by decide +kernel
theorem d_Model_remove_1 : decode prog_8_method_13_code 1 = .ok (.istore_n 1, 1) := by decide +kernel
theorem d_Model_remove_2 : decode prog_8_method_13_code 2 = .ok (.aload_n 0, 1) := by decide +kernel
theorem d_Model_remove_3 : decode prog_8_method_13_code 3 = .ok (.getfield 51, 3) := by decide +kernel
theorem d_Model_remove_6 : decode prog_8_method_13_code 6 = .ok (.istore_n 2, 1) := by decide +kernel
theorem d_Model_remove_7 : decode prog_8_method_13_code 7 = .ok (.iconst 0, 1) := by decide +kernel
theorem d_Model_remove_8 : decode prog_8_method_13_code 8 = .ok (.istore_n 3, 1) := by decide +kernel
theorem d_Model_remove_9 : decode prog_8_method_13_code 9 = .ok (.iload_n 3, 1) := by decide +kernel
theorem d_Model_remove_10 : decode prog_8_method_13_code 10 = .ok (.iload_n 2, 1) := by decide +kernel
theorem d_Model_remove_11 : decode prog_8_method_13_code 11 = .ok (.if_icmp .ge 28, 3) := by decide +kernel
theorem d_Model_remove_14 : decode prog_8_method_13_code 14 = .ok (.aload_n 0, 1) := by decide +kernel
theorem d_Model_remove_15 : decode prog_8_method_13_code 15 = .ok (.getfield 44, 3) := by decide +kernel
theorem d_Model_remove_18 : decode prog_8_method_13_code 18 = .ok (.iload_n 3, 1) := by decide +kernel
theorem d_Model_remove_19 : decode prog_8_method_13_code 19 = .ok (.baload, 1) := by decide +kernel
theorem d_Model_remove_20 : decode prog_8_method_13_code 20 = .ok (.ifCond .ne 13, 3) := by decide +kernel
theorem d_Model_remove_23 : decode prog_8_method_13_code 23 = .ok (.aload_n 0, 1) := by decide +kernel
theorem d_Model_remove_24 : decode prog_8_method_13_code 24 = .ok (.iload_n 3, 1) := by decide +kernel
theorem d_Model_remove_25 : decode prog_8_method_13_code 25 = .ok (.iload_n 1, 1) := by decide +kernel
theorem d_Model_remove_26 : decode prog_8_method_13_code 26 = .ok (.invokevirtual 74, 3) := by decide +kernel
theorem d_Model_remove_29 : decode prog_8_method_13_code 29 = .ok (.iload_n 1, 1) := by decide +kernel
theorem d_Model_remove_30 : decode prog_8_method_13_code 30 = .ok (.iconst 1, 1) := by decide +kernel
theorem d_Model_remove_31 : decode prog_8_method_13_code 31 = .ok (.iadd, 1) := by decide +kernel
theorem d_Model_remove_32 : decode prog_8_method_13_code 32 = .ok (.istore_n 1, 1) := by decide +kernel
theorem d_Model_remove_33 : decode prog_8_method_13_code 33 = .ok (.iinc 3 1, 3) := by decide +kernel
theorem d_Model_remove_36 : decode prog_8_method_13_code 36 = .ok (.goto (-27), 3) := by decide +kernel
theorem d_Model_remove_39 : decode prog_8_method_13_code 39 = .ok (.aload_n 0, 1) := by decide +kernel
theorem d_Model_remove_40 : decode prog_8_method_13_code 40 = .ok (.iload_n 1, 1) := by decide +kernel
theorem d_Model_remove_41 : decode prog_8_method_13_code 41 = .ok (.putfield 51, 3) := by decide +kernel
theorem d_Model_remove_44 : decode prog_8_method_13_code 44 = .ok (.iload_n 2, 1) := by decide +kernel
theorem d_Model_remove_45 : decode prog_8_method_13_code 45 = .ok (.iload_n 1, 1) := by decide +kernel
theorem d_Model_remove_46 : decode prog_8_method_13_code 46 = .ok (.isub, 1) := by decide +kernel
theorem d_Model_remove_47 : decode prog_8_method_13_code 47 = .ok (.ireturn, 1) := by decide +kernel
theorem d_Model_take_0 : decode prog_8_method_20_code 0 = .ok (.aload_n 0, 1) := by decide +kernel
theorem d_Model_take_1 : decode prog_8_method_20_code 1 = .ok (.invokevirtual 98, 3) := by decide +kernel
theorem d_Model_take_4 : decode prog_8_method_20_code 4 = .ok (.istore_n 1, 1) := by decide +kernel
theorem d_Model_take_5 : decode prog_8_method_20_code 5 = .ok (.iload_n 1, 1) := by decide +kernel
theorem d_Model_take_6 : decode prog_8_method_20_code 6 = .ok (.ifCond .ge 5, 3) := by decide +kernel
theorem d_Model_take_9 : decode prog_8_method_20_code 9 = .ok (.iconst 0, 1) := by decide +kernel
theorem d_Model_take_10 : decode prog_8_method_20_code 10 = .ok (.ireturn, 1) := by decide +kernel
theorem d_Model_take_11 : decode prog_8_method_20_code 11 = .ok (.iconst 0, 1) := by decide +kernel
theorem d_Model_take_12 : decode prog_8_method_20_code 12 = .ok (.istore_n 2, 1) := by decide +kernel
theorem d_Model_take_13 : decode prog_8_method_20_code 13 = .ok (.iload_n 2, 1) := by decide +kernel
theorem d_Model_take_14 : decode prog_8_method_20_code 14 = .ok (.bipush 42, 2) := by decide +kernel
theorem d_Model_take_16 : decode prog_8_method_20_code 16 = .ok (.if_icmp .ge 25, 3) := by decide +kernel
theorem d_Model_take_19 : decode prog_8_method_20_code 19 = .ok (.aload_n 0, 1) := by decide +kernel
theorem d_Model_take_20 : decode prog_8_method_20_code 20 = .ok (.getfield 44, 3) := by decide +kernel
theorem d_Model_take_23 : decode prog_8_method_20_code 23 = .ok (.iload_n 2, 1) := by decide +kernel
theorem d_Model_take_24 : decode prog_8_method_20_code 24 = .ok (.iload_n 2, 1) := by decide +kernel
theorem d_Model_take_25 : decode prog_8_method_20_code 25 = .ok (.iload_n 1, 1) := by decide +kernel
theorem d_Model_take_26 : decode prog_8_method_20_code 26 = .ok (.if_icmp .ne 7, 3) := by decide +kernel
theorem d_Model_take_29 : decode prog_8_method_20_code 29 = .ok (.iconst 1, 1) := by decide +kernel
theorem d_Model_take_30 : decode prog_8_method_20_code 30 = .ok (.goto 4, 3) := by decide +kernel
theorem d_Model_take_33 : decode prog_8_method_20_code 33 = .ok (.iconst 0, 1) := by decide +kernel
theorem d_Model_take_34 : decode prog_8_method_20_code 34 = .ok (.bastore, 1) := by decide +kernel
theorem d_Model_take_35 : decode prog_8_method_20_code 35 = .ok (.iinc 2 1, 3) := by decide +kernel
theorem d_Model_take_38 : decode prog_8_method_20_code 38 = .ok (.goto (-25), 3) := by decide +kernel
theorem d_Model_take_41 : decode prog_8_method_20_code 41 = .ok (.aload_n 0, 1) := by decide +kernel
theorem d_Model_take_42 : decode prog_8_method_20_code 42 = .ok (.invokevirtual 114, 3) := by decide +kernel
theorem d_Model_take_45 : decode prog_8_method_20_code 45 = .ok (.pop, 1) := by decide +kernel
theorem d_Model_take_46 : decode prog_8_method_20_code 46 = .ok (.iconst 1, 1) := by decide +kernel
theorem d_Model_take_47 : decode prog_8_method_20_code 47 = .ok (.ireturn, 1) := by decide +kernel
theorem d_Model_drop_0 : decode prog_8_method_21_code 0 = .ok (.aload_n 0, 1) := by decide +kernel
theorem d_Model_drop_1 : decode prog_8_method_21_code 1 = .ok (.invokevirtual 98, 3) := by decide +kernel
theorem d_Model_drop_4 : decode prog_8_method_21_code 4 = .ok (.istore_n 1, 1) := by decide +kernel
theorem d_Model_drop_5 : decode prog_8_method_21_code 5 = .ok (.iload_n 1, 1) := by decide +kernel
theorem d_Model_drop_6 : decode prog_8_method_21_code 6 = .ok (.ifCond .ge 5, 3) := by decide +kernel
theorem d_Model_drop_9 : decode prog_8_method_21_code 9 = .ok (.iconst 0, 1) := by decide +kernel
theorem d_Model_drop_10 : decode prog_8_method_21_code 10 = .ok (.ireturn, 1) := by decide +kernel
theorem d_Model_drop_11 : decode prog_8_method_21_code 11 = .ok (.aload_n 0, 1) := by decide +kernel
theorem d_Model_drop_12 : decode prog_8_method_21_code 12 = .ok (.iload_n 1, 1) := by decide +kernel
theorem d_Model_drop_13 : decode prog_8_method_21_code 13 = .ok (.aload_n 0, 1) := by decide +kernel
theorem d_Model_drop_14 : decode prog_8_method_21_code 14 = .ok (.getfield 51, 3) := by decide +kernel
theorem d_Model_drop_17 : decode prog_8_method_21_code 17 = .ok (.invokevirtual 78, 3) := by decide +kernel
theorem d_Model_drop_20 : decode prog_8_method_21_code 20 = .ok (.aload_n 0, 1) := by decide +kernel
theorem d_Model_drop_21 : decode prog_8_method_21_code 21 = .ok (.invokevirtual 114, 3) := by decide +kernel
theorem d_Model_drop_24 : decode prog_8_method_21_code 24 = .ok (.ireturn, 1) := by decide +kernel
theorem d_Model_strike_0 : decode prog_8_method_22_code 0 = .ok (.iconst 0, 1) := by decide +kernel
theorem d_Model_strike_1 : decode prog_8_method_22_code 1 = .ok (.istore_n 2, 1) := by decide +kernel
theorem d_Model_strike_2 : decode prog_8_method_22_code 2 = .ok (.iload_n 2, 1) := by decide +kernel
theorem d_Model_strike_3 : decode prog_8_method_22_code 3 = .ok (.aload_n 0, 1) := by decide +kernel
theorem d_Model_strike_4 : decode prog_8_method_22_code 4 = .ok (.getfield 51, 3) := by decide +kernel
theorem d_Model_strike_7 : decode prog_8_method_22_code 7 = .ok (.if_icmp .ge 122, 3) := by decide +kernel
theorem d_Model_strike_10 : decode prog_8_method_22_code 10 = .ok (.iconst 0, 1) := by decide +kernel
theorem d_Model_strike_11 : decode prog_8_method_22_code 11 = .ok (.istore_n 3, 1) := by decide +kernel
theorem d_Model_strike_12 : decode prog_8_method_22_code 12 = .ok (.iload_n 3, 1) := by decide +kernel
theorem d_Model_strike_13 : decode prog_8_method_22_code 13 = .ok (.aload_n 0, 1) := by decide +kernel
theorem d_Model_strike_14 : decode prog_8_method_22_code 14 = .ok (.getfield 13, 3) := by decide +kernel
theorem d_Model_strike_17 : decode prog_8_method_22_code 17 = .ok (.iload_n 2, 1) := by decide +kernel
theorem d_Model_strike_18 : decode prog_8_method_22_code 18 = .ok (.iaload, 1) := by decide +kernel
theorem d_Model_strike_19 : decode prog_8_method_22_code 19 = .ok (.if_icmp .ge 104, 3) := by decide +kernel
theorem d_Model_strike_22 : decode prog_8_method_22_code 22 = .ok (.aload_n 0, 1) := by decide +kernel
theorem d_Model_strike_23 : decode prog_8_method_22_code 23 = .ok (.getfield 20, 3) := by decide +kernel
theorem d_Model_strike_26 : decode prog_8_method_22_code 26 = .ok (.bipush 8, 2) := by decide +kernel
theorem d_Model_strike_28 : decode prog_8_method_22_code 28 = .ok (.iload_n 2, 1) := by decide +kernel
theorem d_Model_strike_29 : decode prog_8_method_22_code 29 = .ok (.imul, 1) := by decide +kernel
theorem d_Model_strike_30 : decode prog_8_method_22_code 30 = .ok (.iload_n 3, 1) := by decide +kernel
theorem d_Model_strike_31 : decode prog_8_method_22_code 31 = .ok (.iadd, 1) := by decide +kernel
theorem d_Model_strike_32 : decode prog_8_method_22_code 32 = .ok (.iaload, 1) := by decide +kernel
theorem d_Model_strike_33 : decode prog_8_method_22_code 33 = .ok (.iload_n 1, 1) := by decide +kernel
theorem d_Model_strike_34 : decode prog_8_method_22_code 34 = .ok (.if_icmp .ne 7, 3) := by decide +kernel
theorem d_Model_strike_37 : decode prog_8_method_22_code 37 = .ok (.iconst 1, 1) := by decide +kernel
theorem d_Model_strike_38 : decode prog_8_method_22_code 38 = .ok (.goto 4, 3) := by decide +kernel
theorem d_Model_strike_41 : decode prog_8_method_22_code 41 = .ok (.iconst 0, 1) := by decide +kernel
theorem d_Model_strike_42 : decode prog_8_method_22_code 42 = .ok (.istore 4, 2) := by decide +kernel
theorem d_Model_strike_44 : decode prog_8_method_22_code 44 = .ok (.iconst 0, 1) := by decide +kernel
theorem d_Model_strike_45 : decode prog_8_method_22_code 45 = .ok (.istore 5, 2) := by decide +kernel
theorem d_Model_strike_47 : decode prog_8_method_22_code 47 = .ok (.iload 5, 2) := by decide +kernel
theorem d_Model_strike_49 : decode prog_8_method_22_code 49 = .ok (.iconst 4, 1) := by decide +kernel
theorem d_Model_strike_50 : decode prog_8_method_22_code 50 = .ok (.if_icmp .ge 48, 3) := by decide +kernel
theorem d_Model_strike_53 : decode prog_8_method_22_code 53 = .ok (.iload 4, 2) := by decide +kernel
theorem d_Model_strike_55 : decode prog_8_method_22_code 55 = .ok (.ifCond .eq 34, 3) := by decide +kernel
theorem d_Model_strike_58 : decode prog_8_method_22_code 58 = .ok (.aload_n 0, 1) := by decide +kernel
theorem d_Model_strike_59 : decode prog_8_method_22_code 59 = .ok (.getfield 17, 3) := by decide +kernel
theorem d_Model_strike_62 : decode prog_8_method_22_code 62 = .ok (.bipush 32, 2) := by decide +kernel
theorem d_Model_strike_64 : decode prog_8_method_22_code 64 = .ok (.iload_n 2, 1) := by decide +kernel
theorem d_Model_strike_65 : decode prog_8_method_22_code 65 = .ok (.imul, 1) := by decide +kernel
theorem d_Model_strike_66 : decode prog_8_method_22_code 66 = .ok (.iconst 4, 1) := by decide +kernel
theorem d_Model_strike_67 : decode prog_8_method_22_code 67 = .ok (.iload_n 3, 1) := by decide +kernel
theorem d_Model_strike_68 : decode prog_8_method_22_code 68 = .ok (.imul, 1) := by decide +kernel
theorem d_Model_strike_69 : decode prog_8_method_22_code 69 = .ok (.iadd, 1) := by decide +kernel
theorem d_Model_strike_70 : decode prog_8_method_22_code 70 = .ok (.iload 5, 2) := by decide +kernel
theorem d_Model_strike_72 : decode prog_8_method_22_code 72 = .ok (.iadd, 1) := by decide +kernel
theorem d_Model_strike_73 : decode prog_8_method_22_code 73 = .ok (.laload, 1) := by decide +kernel
theorem d_Model_strike_74 : decode prog_8_method_22_code 74 = .ok (.aload_n 0, 1) := by decide +kernel
theorem d_Model_strike_75 : decode prog_8_method_22_code 75 = .ok (.getfield 35, 3) := by decide +kernel
theorem d_Model_strike_78 : decode prog_8_method_22_code 78 = .ok (.iload 5, 2) := by decide +kernel
theorem d_Model_strike_80 : decode prog_8_method_22_code 80 = .ok (.laload, 1) := by decide +kernel
theorem d_Model_strike_81 : decode prog_8_method_22_code 81 = .ok (.lcmp, 1) := by decide +kernel
theorem d_Model_strike_82 : decode prog_8_method_22_code 82 = .ok (.ifCond .ne 7, 3) := by decide +kernel
theorem d_Model_strike_85 : decode prog_8_method_22_code 85 = .ok (.iconst 1, 1) := by decide +kernel
theorem d_Model_strike_86 : decode prog_8_method_22_code 86 = .ok (.goto 4, 3) := by decide +kernel
theorem d_Model_strike_89 : decode prog_8_method_22_code 89 = .ok (.iconst 0, 1) := by decide +kernel
theorem d_Model_strike_90 : decode prog_8_method_22_code 90 = .ok (.istore 4, 2) := by decide +kernel
theorem d_Model_strike_92 : decode prog_8_method_22_code 92 = .ok (.iinc 5 1, 3) := by decide +kernel
theorem d_Model_strike_95 : decode prog_8_method_22_code 95 = .ok (.goto (-48), 3) := by decide +kernel
theorem d_Model_strike_98 : decode prog_8_method_22_code 98 = .ok (.iload 4, 2) := by decide +kernel
theorem d_Model_strike_100 : decode prog_8_method_22_code 100 = .ok (.ifCond .eq 17, 3) := by decide +kernel
theorem d_Model_strike_103 : decode prog_8_method_22_code 103 = .ok (.aload_n 0, 1) := by decide +kernel
theorem d_Model_strike_104 : decode prog_8_method_22_code 104 = .ok (.iload_n 2, 1) := by decide +kernel
theorem d_Model_strike_105 : decode prog_8_method_22_code 105 = .ok (.aload_n 0, 1) := by decide +kernel
theorem d_Model_strike_106 : decode prog_8_method_22_code 106 = .ok (.getfield 51, 3) := by decide +kernel
theorem d_Model_strike_109 : decode prog_8_method_22_code 109 = .ok (.invokevirtual 78, 3) := by decide +kernel
theorem d_Model_strike_112 : decode prog_8_method_22_code 112 = .ok (.aload_n 0, 1) := by decide +kernel
theorem d_Model_strike_113 : decode prog_8_method_22_code 113 = .ok (.invokevirtual 114, 3) := by decide +kernel
theorem d_Model_strike_116 : decode prog_8_method_22_code 116 = .ok (.ireturn, 1) := by decide +kernel
theorem d_Model_strike_117 : decode prog_8_method_22_code 117 = .ok (.iinc 3 1, 3) := by decide +kernel
theorem d_Model_strike_120 : decode prog_8_method_22_code 120 = .ok (.goto (-108), 3) := by decide +kernel
theorem d_Model_strike_123 : decode prog_8_method_22_code 123 = .ok (.iinc 2 1, 3) := by decide +kernel
theorem d_Model_strike_126 : decode prog_8_method_22_code 126 = .ok (.goto (-124), 3) := by decide +kernel
theorem d_Model_strike_129 : decode prog_8_method_22_code 129 = .ok (.iconst 0, 1) := by decide +kernel
theorem d_Model_strike_130 : decode prog_8_method_22_code 130 = .ok (.ireturn, 1) := by decide +kernel
theorem d_Model_look_0 : decode prog_8_method_24_code 0 = .ok (.aload_n 0, 1) := by decide +kernel
theorem d_Model_look_1 : decode prog_8_method_24_code 1 = .ok (.invokevirtual 98, 3) := by decide +kernel
theorem d_Model_look_4 : decode prog_8_method_24_code 4 = .ok (.istore_n 2, 1) := by decide +kernel
theorem d_Model_look_5 : decode prog_8_method_24_code 5 = .ok (.iload_n 2, 1) := by decide +kernel
theorem d_Model_look_6 : decode prog_8_method_24_code 6 = .ok (.ifCond .ge 7, 3) := by decide +kernel
theorem d_Model_look_9 : decode prog_8_method_24_code 9 = .ok (.ldc2_w 117, 3) := by decide +kernel
theorem d_Model_look_12 : decode prog_8_method_24_code 12 = .ok (.lreturn, 1) := by decide +kernel
theorem d_Model_look_13 : decode prog_8_method_24_code 13 = .ok (.aload_n 0, 1) := by decide +kernel
theorem d_Model_look_14 : decode prog_8_method_24_code 14 = .ok (.iload_n 2, 1) := by decide +kernel
theorem d_Model_look_15 : decode prog_8_method_24_code 15 = .ok (.aload_n 0, 1) := by decide +kernel
theorem d_Model_look_16 : decode prog_8_method_24_code 16 = .ok (.getfield 51, 3) := by decide +kernel
theorem d_Model_look_19 : decode prog_8_method_24_code 19 = .ok (.invokevirtual 78, 3) := by decide +kernel
theorem d_Model_look_22 : decode prog_8_method_24_code 22 = .ok (.iload_n 1, 1) := by decide +kernel
theorem d_Model_look_23 : decode prog_8_method_24_code 23 = .ok (.tableswitch 123 0 9 #[53, 60, 68, 76, 84, 92, 100, 103, 109, 115], 53) := by decide +kernel
theorem d_Model_look_76 : decode prog_8_method_24_code 76 = .ok (.aload_n 0, 1) := by decide +kernel
theorem d_Model_look_77 : decode prog_8_method_24_code 77 = .ok (.getfield 23, 3) := by decide +kernel
theorem d_Model_look_80 : decode prog_8_method_24_code 80 = .ok (.iload_n 2, 1) := by decide +kernel
theorem d_Model_look_81 : decode prog_8_method_24_code 81 = .ok (.laload, 1) := by decide +kernel
theorem d_Model_look_82 : decode prog_8_method_24_code 82 = .ok (.lreturn, 1) := by decide +kernel
theorem d_Model_look_83 : decode prog_8_method_24_code 83 = .ok (.aload_n 0, 1) := by decide +kernel
theorem d_Model_look_84 : decode prog_8_method_24_code 84 = .ok (.getfield 26, 3) := by decide +kernel
theorem d_Model_look_87 : decode prog_8_method_24_code 87 = .ok (.iload_n 2, 1) := by decide +kernel
theorem d_Model_look_88 : decode prog_8_method_24_code 88 = .ok (.iaload, 1) := by decide +kernel
theorem d_Model_look_89 : decode prog_8_method_24_code 89 = .ok (.i2l, 1) := by decide +kernel
theorem d_Model_look_90 : decode prog_8_method_24_code 90 = .ok (.lreturn, 1) := by decide +kernel
theorem d_Model_look_91 : decode prog_8_method_24_code 91 = .ok (.aload_n 0, 1) := by decide +kernel
theorem d_Model_look_92 : decode prog_8_method_24_code 92 = .ok (.getfield 29, 3) := by decide +kernel
theorem d_Model_look_95 : decode prog_8_method_24_code 95 = .ok (.iload_n 2, 1) := by decide +kernel
theorem d_Model_look_96 : decode prog_8_method_24_code 96 = .ok (.iaload, 1) := by decide +kernel
theorem d_Model_look_97 : decode prog_8_method_24_code 97 = .ok (.i2l, 1) := by decide +kernel
theorem d_Model_look_98 : decode prog_8_method_24_code 98 = .ok (.lreturn, 1) := by decide +kernel
theorem d_Model_look_99 : decode prog_8_method_24_code 99 = .ok (.aload_n 0, 1) := by decide +kernel
theorem d_Model_look_100 : decode prog_8_method_24_code 100 = .ok (.getfield 13, 3) := by decide +kernel
theorem d_Model_look_103 : decode prog_8_method_24_code 103 = .ok (.iload_n 2, 1) := by decide +kernel
theorem d_Model_look_104 : decode prog_8_method_24_code 104 = .ok (.iaload, 1) := by decide +kernel
theorem d_Model_look_105 : decode prog_8_method_24_code 105 = .ok (.i2l, 1) := by decide +kernel
theorem d_Model_look_106 : decode prog_8_method_24_code 106 = .ok (.lreturn, 1) := by decide +kernel
theorem d_Model_look_107 : decode prog_8_method_24_code 107 = .ok (.aload_n 0, 1) := by decide +kernel
theorem d_Model_look_108 : decode prog_8_method_24_code 108 = .ok (.iload_n 2, 1) := by decide +kernel
theorem d_Model_look_109 : decode prog_8_method_24_code 109 = .ok (.iconst 1, 1) := by decide +kernel
theorem d_Model_look_110 : decode prog_8_method_24_code 110 = .ok (.invokevirtual 119, 3) := by decide +kernel
theorem d_Model_look_113 : decode prog_8_method_24_code 113 = .ok (.i2l, 1) := by decide +kernel
theorem d_Model_look_114 : decode prog_8_method_24_code 114 = .ok (.lreturn, 1) := by decide +kernel
theorem d_Model_look_115 : decode prog_8_method_24_code 115 = .ok (.aload_n 0, 1) := by decide +kernel
theorem d_Model_look_116 : decode prog_8_method_24_code 116 = .ok (.iload_n 2, 1) := by decide +kernel
theorem d_Model_look_117 : decode prog_8_method_24_code 117 = .ok (.iconst 0, 1) := by decide +kernel
theorem d_Model_look_118 : decode prog_8_method_24_code 118 = .ok (.invokevirtual 119, 3) := by decide +kernel
theorem d_Model_look_121 : decode prog_8_method_24_code 121 = .ok (.i2l, 1) := by decide +kernel
theorem d_Model_look_122 : decode prog_8_method_24_code 122 = .ok (.lreturn, 1) := by decide +kernel
theorem d_Model_look_123 : decode prog_8_method_24_code 123 = .ok (.goto 27, 3) := by decide +kernel
theorem d_Model_look_126 : decode prog_8_method_24_code 126 = .ok (.aload_n 0, 1) := by decide +kernel
theorem d_Model_look_127 : decode prog_8_method_24_code 127 = .ok (.iconst 1, 1) := by decide +kernel
theorem d_Model_look_128 : decode prog_8_method_24_code 128 = .ok (.invokevirtual 81, 3) := by decide +kernel
theorem d_Model_look_131 : decode prog_8_method_24_code 131 = .ok (.lreturn, 1) := by decide +kernel
theorem d_Model_look_132 : decode prog_8_method_24_code 132 = .ok (.aload_n 0, 1) := by decide +kernel
theorem d_Model_look_133 : decode prog_8_method_24_code 133 = .ok (.iconst 1, 1) := by decide +kernel
theorem d_Model_look_134 : decode prog_8_method_24_code 134 = .ok (.invokevirtual 85, 3) := by decide +kernel
theorem d_Model_look_137 : decode prog_8_method_24_code 137 = .ok (.lreturn, 1) := by decide +kernel
theorem d_Model_look_138 : decode prog_8_method_24_code 138 = .ok (.aload_n 0, 1) := by decide +kernel
theorem d_Model_look_139 : decode prog_8_method_24_code 139 = .ok (.getfield 32, 3) := by decide +kernel
theorem d_Model_look_142 : decode prog_8_method_24_code 142 = .ok (.iload_n 2, 1) := by decide +kernel
theorem d_Model_look_143 : decode prog_8_method_24_code 143 = .ok (.iaload, 1) := by decide +kernel
theorem d_Model_look_144 : decode prog_8_method_24_code 144 = .ok (.i2l, 1) := by decide +kernel
theorem d_Model_look_145 : decode prog_8_method_24_code 145 = .ok (.lreturn, 1) := by decide +kernel
theorem d_Model_look_146 : decode prog_8_method_24_code 146 = .ok (.ldc2_w 117, 3) := by decide +kernel
theorem d_Model_look_149 : decode prog_8_method_24_code 149 = .ok (.lreturn, 1) := by decide +kernel
theorem d_Model_look_150 : decode prog_8_method_24_code 150 = .ok (.iconst 0, 1) := by decide +kernel
theorem d_Model_look_151 : decode prog_8_method_24_code 151 = .ok (.istore_n 3, 1) := by decide +kernel
theorem d_Model_look_152 : decode prog_8_method_24_code 152 = .ok (.iconst 0, 1) := by decide +kernel
theorem d_Model_look_153 : decode prog_8_method_24_code 153 = .ok (.istore 4, 2) := by decide +kernel
theorem d_Model_look_155 : decode prog_8_method_24_code 155 = .ok (.iload 4, 2) := by decide +kernel
theorem d_Model_look_157 : decode prog_8_method_24_code 157 = .ok (.aload_n 0, 1) := by decide +kernel
theorem d_Model_look_158 : decode prog_8_method_24_code 158 = .ok (.getfield 51, 3) := by decide +kernel
theorem d_Model_look_161 : decode prog_8_method_24_code 161 = .ok (.if_icmp .ge 27, 3) := by decide +kernel
theorem d_Model_look_164 : decode prog_8_method_24_code 164 = .ok (.iload_n 3, 1) := by decide +kernel
theorem d_Model_look_165 : decode prog_8_method_24_code 165 = .ok (.aload_n 0, 1) := by decide +kernel
theorem d_Model_look_166 : decode prog_8_method_24_code 166 = .ok (.getfield 44, 3) := by decide +kernel
theorem d_Model_look_169 : decode prog_8_method_24_code 169 = .ok (.iload 4, 2) := by decide +kernel
theorem d_Model_look_171 : decode prog_8_method_24_code 171 = .ok (.baload, 1) := by decide +kernel
theorem d_Model_look_172 : decode prog_8_method_24_code 172 = .ok (.ifCond .eq 7, 3) := by decide +kernel
theorem d_Model_look_175 : decode prog_8_method_24_code 175 = .ok (.iconst 1, 1) := by decide +kernel
theorem d_Model_look_176 : decode prog_8_method_24_code 176 = .ok (.goto 4, 3) := by decide +kernel
theorem d_Model_look_179 : decode prog_8_method_24_code 179 = .ok (.iconst 0, 1) := by decide +kernel
theorem d_Model_look_180 : decode prog_8_method_24_code 180 = .ok (.iadd, 1) := by decide +kernel
theorem d_Model_look_181 : decode prog_8_method_24_code 181 = .ok (.istore_n 3, 1) := by decide +kernel
theorem d_Model_look_182 : decode prog_8_method_24_code 182 = .ok (.iinc 4 1, 3) := by decide +kernel
theorem d_Model_look_185 : decode prog_8_method_24_code 185 = .ok (.goto (-30), 3) := by decide +kernel
theorem d_Model_look_188 : decode prog_8_method_24_code 188 = .ok (.iload_n 3, 1) := by decide +kernel
theorem d_Model_look_189 : decode prog_8_method_24_code 189 = .ok (.i2l, 1) := by decide +kernel
theorem d_Model_look_190 : decode prog_8_method_24_code 190 = .ok (.lreturn, 1) := by decide +kernel
theorem d_Model_kin_0 : decode prog_8_method_23_code 0 = .ok (.iconst 0, 1) := by decide +kernel
theorem d_Model_kin_1 : decode prog_8_method_23_code 1 = .ok (.istore_n 3, 1) := by decide +kernel
theorem d_Model_kin_2 : decode prog_8_method_23_code 2 = .ok (.iconst 0, 1) := by decide +kernel
theorem d_Model_kin_3 : decode prog_8_method_23_code 3 = .ok (.istore 4, 2) := by decide +kernel
theorem d_Model_kin_5 : decode prog_8_method_23_code 5 = .ok (.iload 4, 2) := by decide +kernel
theorem d_Model_kin_7 : decode prog_8_method_23_code 7 = .ok (.aload_n 0, 1) := by decide +kernel
theorem d_Model_kin_8 : decode prog_8_method_23_code 8 = .ok (.getfield 51, 3) := by decide +kernel
theorem d_Model_kin_11 : decode prog_8_method_23_code 11 = .ok (.if_icmp .ge 50, 3) := by decide +kernel
theorem d_Model_kin_14 : decode prog_8_method_23_code 14 = .ok (.iload_n 3, 1) := by decide +kernel
theorem d_Model_kin_15 : decode prog_8_method_23_code 15 = .ok (.iload 4, 2) := by decide +kernel
theorem d_Model_kin_17 : decode prog_8_method_23_code 17 = .ok (.iload_n 1, 1) := by decide +kernel
theorem d_Model_kin_18 : decode prog_8_method_23_code 18 = .ok (.if_icmp .eq 34, 3) := by decide +kernel
theorem d_Model_kin_21 : decode prog_8_method_23_code 21 = .ok (.iload_n 2, 1) := by decide +kernel
theorem d_Model_kin_22 : decode prog_8_method_23_code 22 = .ok (.ifCond .eq 16, 3) := by decide +kernel
theorem d_Model_kin_25 : decode prog_8_method_23_code 25 = .ok (.aload_n 0, 1) := by decide +kernel
theorem d_Model_kin_26 : decode prog_8_method_23_code 26 = .ok (.iload_n 1, 1) := by decide +kernel
theorem d_Model_kin_27 : decode prog_8_method_23_code 27 = .ok (.iload 4, 2) := by decide +kernel
theorem d_Model_kin_29 : decode prog_8_method_23_code 29 = .ok (.invokevirtual 70, 3) := by decide +kernel
theorem d_Model_kin_32 : decode prog_8_method_23_code 32 = .ok (.ifCond .eq 20, 3) := by decide +kernel
theorem d_Model_kin_35 : decode prog_8_method_23_code 35 = .ok (.goto 13, 3) := by decide +kernel
theorem d_Model_kin_38 : decode prog_8_method_23_code 38 = .ok (.aload_n 0, 1) := by decide +kernel
theorem d_Model_kin_39 : decode prog_8_method_23_code 39 = .ok (.iload 4, 2) := by decide +kernel
theorem d_Model_kin_41 : decode prog_8_method_23_code 41 = .ok (.iload_n 1, 1) := by decide +kernel
theorem d_Model_kin_42 : decode prog_8_method_23_code 42 = .ok (.invokevirtual 70, 3) := by decide +kernel
theorem d_Model_kin_45 : decode prog_8_method_23_code 45 = .ok (.ifCond .eq 7, 3) := by decide +kernel
theorem d_Model_kin_48 : decode prog_8_method_23_code 48 = .ok (.iconst 1, 1) := by decide +kernel
theorem d_Model_kin_49 : decode prog_8_method_23_code 49 = .ok (.goto 4, 3) := by decide +kernel
theorem d_Model_kin_52 : decode prog_8_method_23_code 52 = .ok (.iconst 0, 1) := by decide +kernel
theorem d_Model_kin_53 : decode prog_8_method_23_code 53 = .ok (.iadd, 1) := by decide +kernel
theorem d_Model_kin_54 : decode prog_8_method_23_code 54 = .ok (.istore_n 3, 1) := by decide +kernel
theorem d_Model_kin_55 : decode prog_8_method_23_code 55 = .ok (.iinc 4 1, 3) := by decide +kernel
theorem d_Model_kin_58 : decode prog_8_method_23_code 58 = .ok (.goto (-53), 3) := by decide +kernel
theorem d_Model_kin_61 : decode prog_8_method_23_code 61 = .ok (.iload_n 3, 1) := by decide +kernel
theorem d_Model_kin_62 : decode prog_8_method_23_code 62 = .ok (.ireturn, 1) := by decide +kernel
theorem d_Model_order_0 : decode prog_8_method_26_code 0 = .ok (.iconst 0, 1) := by decide +kernel
theorem d_Model_order_1 : decode prog_8_method_26_code 1 = .ok (.istore_n 2, 1) := by decide +kernel
theorem d_Model_order_2 : decode prog_8_method_26_code 2 = .ok (.iload_n 2, 1) := by decide +kernel
theorem d_Model_order_3 : decode prog_8_method_26_code 3 = .ok (.bipush 42, 2) := by decide +kernel
theorem d_Model_order_5 : decode prog_8_method_26_code 5 = .ok (.if_icmp .ge 16, 3) := by decide +kernel
theorem d_Model_order_8 : decode prog_8_method_26_code 8 = .ok (.aload_n 0, 1) := by decide +kernel
theorem d_Model_order_9 : decode prog_8_method_26_code 9 = .ok (.getfield 44, 3) := by decide +kernel
theorem d_Model_order_12 : decode prog_8_method_26_code 12 = .ok (.iload_n 2, 1) := by decide +kernel
theorem d_Model_order_13 : decode prog_8_method_26_code 13 = .ok (.iconst 0, 1) := by decide +kernel
theorem d_Model_order_14 : decode prog_8_method_26_code 14 = .ok (.bastore, 1) := by decide +kernel
theorem d_Model_order_15 : decode prog_8_method_26_code 15 = .ok (.iinc 2 1, 3) := by decide +kernel
theorem d_Model_order_18 : decode prog_8_method_26_code 18 = .ok (.goto (-16), 3) := by decide +kernel
theorem d_Model_order_21 : decode prog_8_method_26_code 21 = .ok (.aload_n 0, 1) := by decide +kernel
theorem d_Model_order_22 : decode prog_8_method_26_code 22 = .ok (.iconst 0, 1) := by decide +kernel
theorem d_Model_order_23 : decode prog_8_method_26_code 23 = .ok (.putfield 123, 3) := by decide +kernel
theorem d_Model_order_26 : decode prog_8_method_26_code 26 = .ok (.lconst 0, 1) := by decide +kernel
theorem d_Model_order_27 : decode prog_8_method_26_code 27 = .ok (.lstore_n 2, 1) := by decide +kernel
theorem d_Model_order_28 : decode prog_8_method_26_code 28 = .ok (.iconst 0, 1) := by decide +kernel
theorem d_Model_order_29 : decode prog_8_method_26_code 29 = .ok (.istore 4, 2) := by decide +kernel
theorem d_Model_order_31 : decode prog_8_method_26_code 31 = .ok (.iload 4, 2) := by decide +kernel
theorem d_Model_order_33 : decode prog_8_method_26_code 33 = .ok (.ifCond .lt 194, 3) := by decide +kernel
theorem d_Model_order_36 : decode prog_8_method_26_code 36 = .ok (.iconst (-1), 1) := by decide +kernel
theorem d_Model_order_37 : decode prog_8_method_26_code 37 = .ok (.istore 4, 2) := by decide +kernel
theorem d_Model_order_39 : decode prog_8_method_26_code 39 = .ok (.iconst 0, 1) := by decide +kernel
theorem d_Model_order_40 : decode prog_8_method_26_code 40 = .ok (.istore 5, 2) := by decide +kernel
theorem d_Model_order_42 : decode prog_8_method_26_code 42 = .ok (.iload 5, 2) := by decide +kernel
theorem d_Model_order_44 : decode prog_8_method_26_code 44 = .ok (.aload_n 0, 1) := by decide +kernel
theorem d_Model_order_45 : decode prog_8_method_26_code 45 = .ok (.getfield 51, 3) := by decide +kernel
theorem d_Model_order_48 : decode prog_8_method_26_code 48 = .ok (.if_icmp .ge 101, 3) := by decide +kernel
theorem d_Model_order_51 : decode prog_8_method_26_code 51 = .ok (.aload_n 0, 1) := by decide +kernel
theorem d_Model_order_52 : decode prog_8_method_26_code 52 = .ok (.getfield 44, 3) := by decide +kernel
theorem d_Model_order_55 : decode prog_8_method_26_code 55 = .ok (.iload 5, 2) := by decide +kernel
theorem d_Model_order_57 : decode prog_8_method_26_code 57 = .ok (.baload, 1) := by decide +kernel
theorem d_Model_order_58 : decode prog_8_method_26_code 58 = .ok (.ifCond .ne 32, 3) := by decide +kernel
theorem d_Model_order_61 : decode prog_8_method_26_code 61 = .ok (.lload_n 2, 1) := by decide +kernel
theorem d_Model_order_62 : decode prog_8_method_26_code 62 = .ok (.aload_n 0, 1) := by decide +kernel
theorem d_Model_order_63 : decode prog_8_method_26_code 63 = .ok (.getfield 26, 3) := by decide +kernel
theorem d_Model_order_66 : decode prog_8_method_26_code 66 = .ok (.iload 5, 2) := by decide +kernel
theorem d_Model_order_68 : decode prog_8_method_26_code 68 = .ok (.iaload, 1) := by decide +kernel
theorem d_Model_order_69 : decode prog_8_method_26_code 69 = .ok (.i2l, 1) := by decide +kernel
theorem d_Model_order_70 : decode prog_8_method_26_code 70 = .ok (.ladd, 1) := by decide +kernel
theorem d_Model_order_71 : decode prog_8_method_26_code 71 = .ok (.iload_n 1, 1) := by decide +kernel
theorem d_Model_order_72 : decode prog_8_method_26_code 72 = .ok (.i2l, 1) := by decide +kernel
theorem d_Model_order_73 : decode prog_8_method_26_code 73 = .ok (.lcmp, 1) := by decide +kernel
theorem d_Model_order_74 : decode prog_8_method_26_code 74 = .ok (.ifCond .gt 16, 3) := by decide +kernel
theorem d_Model_order_77 : decode prog_8_method_26_code 77 = .ok (.aload_n 0, 1) := by decide +kernel
theorem d_Model_order_78 : decode prog_8_method_26_code 78 = .ok (.iload 5, 2) := by decide +kernel
theorem d_Model_order_80 : decode prog_8_method_26_code 80 = .ok (.invokevirtual 126, 3) := by decide +kernel
theorem d_Model_order_83 : decode prog_8_method_26_code 83 = .ok (.ifCond .eq 7, 3) := by decide +kernel
theorem d_Model_order_86 : decode prog_8_method_26_code 86 = .ok (.iconst 1, 1) := by decide +kernel
theorem d_Model_order_87 : decode prog_8_method_26_code 87 = .ok (.goto 4, 3) := by decide +kernel
theorem d_Model_order_90 : decode prog_8_method_26_code 90 = .ok (.iconst 0, 1) := by decide +kernel
theorem d_Model_order_91 : decode prog_8_method_26_code 91 = .ok (.istore 6, 2) := by decide +kernel
theorem d_Model_order_93 : decode prog_8_method_26_code 93 = .ok (.iload 6, 2) := by decide +kernel
theorem d_Model_order_95 : decode prog_8_method_26_code 95 = .ok (.ifCond .eq 48, 3) := by decide +kernel
theorem d_Model_order_98 : decode prog_8_method_26_code 98 = .ok (.iload 4, 2) := by decide +kernel
theorem d_Model_order_100 : decode prog_8_method_26_code 100 = .ok (.ifCond .lt 39, 3) := by decide +kernel
theorem d_Model_order_103 : decode prog_8_method_26_code 103 = .ok (.aload_n 0, 1) := by decide +kernel
theorem d_Model_order_104 : decode prog_8_method_26_code 104 = .ok (.getfield 23, 3) := by decide +kernel
theorem d_Model_order_107 : decode prog_8_method_26_code 107 = .ok (.iload 5, 2) := by decide +kernel
theorem d_Model_order_109 : decode prog_8_method_26_code 109 = .ok (.laload, 1) := by decide +kernel
theorem d_Model_order_110 : decode prog_8_method_26_code 110 = .ok (.aload_n 0, 1) := by decide +kernel
theorem d_Model_order_111 : decode prog_8_method_26_code 111 = .ok (.getfield 26, 3) := by decide +kernel
theorem d_Model_order_114 : decode prog_8_method_26_code 114 = .ok (.iload 5, 2) := by decide +kernel
theorem d_Model_order_116 : decode prog_8_method_26_code 116 = .ok (.iaload, 1) := by decide +kernel
theorem d_Model_order_117 : decode prog_8_method_26_code 117 = .ok (.i2l, 1) := by decide +kernel
theorem d_Model_order_118 : decode prog_8_method_26_code 118 = .ok (.aload_n 0, 1) := by decide +kernel
theorem d_Model_order_119 : decode prog_8_method_26_code 119 = .ok (.getfield 23, 3) := by decide +kernel
theorem d_Model_order_122 : decode prog_8_method_26_code 122 = .ok (.iload 4, 2) := by decide +kernel
theorem d_Model_order_124 : decode prog_8_method_26_code 124 = .ok (.laload, 1) := by decide +kernel
theorem d_Model_order_125 : decode prog_8_method_26_code 125 = .ok (.aload_n 0, 1) := by decide +kernel
theorem d_Model_order_126 : decode prog_8_method_26_code 126 = .ok (.getfield 26, 3) := by decide +kernel
theorem d_Model_order_129 : decode prog_8_method_26_code 129 = .ok (.iload 4, 2) := by decide +kernel
theorem d_Model_order_131 : decode prog_8_method_26_code 131 = .ok (.iaload, 1) := by decide +kernel
theorem d_Model_order_132 : decode prog_8_method_26_code 132 = .ok (.i2l, 1) := by decide +kernel
theorem d_Model_order_133 : decode prog_8_method_26_code 133 = .ok (.invokestatic 88, 3) := by decide +kernel
theorem d_Model_order_136 : decode prog_8_method_26_code 136 = .ok (.ifCond .le 7, 3) := by decide +kernel
theorem d_Model_order_139 : decode prog_8_method_26_code 139 = .ok (.iload 5, 2) := by decide +kernel
theorem d_Model_order_141 : decode prog_8_method_26_code 141 = .ok (.istore 4, 2) := by decide +kernel
theorem d_Model_order_143 : decode prog_8_method_26_code 143 = .ok (.iinc 5 1, 3) := by decide +kernel
theorem d_Model_order_146 : decode prog_8_method_26_code 146 = .ok (.goto (-104), 3) := by decide +kernel
theorem d_Model_order_149 : decode prog_8_method_26_code 149 = .ok (.iload 4, 2) := by decide +kernel
theorem d_Model_order_151 : decode prog_8_method_26_code 151 = .ok (.ifCond .lt (-120), 3) := by decide +kernel
theorem d_Model_order_154 : decode prog_8_method_26_code 154 = .ok (.aload_n 0, 1) := by decide +kernel
theorem d_Model_order_155 : decode prog_8_method_26_code 155 = .ok (.getfield 44, 3) := by decide +kernel
theorem d_Model_order_158 : decode prog_8_method_26_code 158 = .ok (.iload 4, 2) := by decide +kernel
theorem d_Model_order_160 : decode prog_8_method_26_code 160 = .ok (.iconst 1, 1) := by decide +kernel
theorem d_Model_order_161 : decode prog_8_method_26_code 161 = .ok (.bastore, 1) := by decide +kernel
theorem d_Model_order_162 : decode prog_8_method_26_code 162 = .ok (.lload_n 2, 1) := by decide +kernel
theorem d_Model_order_163 : decode prog_8_method_26_code 163 = .ok (.aload_n 0, 1) := by decide +kernel
theorem d_Model_order_164 : decode prog_8_method_26_code 164 = .ok (.getfield 26, 3) := by decide +kernel
theorem d_Model_order_167 : decode prog_8_method_26_code 167 = .ok (.iload 4, 2) := by decide +kernel
theorem d_Model_order_169 : decode prog_8_method_26_code 169 = .ok (.iaload, 1) := by decide +kernel
theorem d_Model_order_170 : decode prog_8_method_26_code 170 = .ok (.i2l, 1) := by decide +kernel
theorem d_Model_order_171 : decode prog_8_method_26_code 171 = .ok (.ladd, 1) := by decide +kernel
theorem d_Model_order_172 : decode prog_8_method_26_code 172 = .ok (.lstore_n 2, 1) := by decide +kernel
theorem d_Model_order_173 : decode prog_8_method_26_code 173 = .ok (.iconst 0, 1) := by decide +kernel
theorem d_Model_order_174 : decode prog_8_method_26_code 174 = .ok (.istore 5, 2) := by decide +kernel
theorem d_Model_order_176 : decode prog_8_method_26_code 176 = .ok (.iload 5, 2) := by decide +kernel
theorem d_Model_order_178 : decode prog_8_method_26_code 178 = .ok (.iconst 4, 1) := by decide +kernel
theorem d_Model_order_179 : decode prog_8_method_26_code 179 = .ok (.if_icmp .ge 35, 3) := by decide +kernel
theorem d_Model_order_182 : decode prog_8_method_26_code 182 = .ok (.aload_n 0, 1) := by decide +kernel
theorem d_Model_order_183 : decode prog_8_method_26_code 183 = .ok (.getfield 48, 3) := by decide +kernel
theorem d_Model_order_186 : decode prog_8_method_26_code 186 = .ok (.iconst 4, 1) := by decide +kernel
theorem d_Model_order_187 : decode prog_8_method_26_code 187 = .ok (.aload_n 0, 1) := by decide +kernel
theorem d_Model_order_188 : decode prog_8_method_26_code 188 = .ok (.getfield 123, 3) := by decide +kernel
theorem d_Model_order_191 : decode prog_8_method_26_code 191 = .ok (.imul, 1) := by decide +kernel
theorem d_Model_order_192 : decode prog_8_method_26_code 192 = .ok (.iload 5, 2) := by decide +kernel
theorem d_Model_order_194 : decode prog_8_method_26_code 194 = .ok (.iadd, 1) := by decide +kernel
theorem d_Model_order_195 : decode prog_8_method_26_code 195 = .ok (.aload_n 0, 1) := by decide +kernel
theorem d_Model_order_196 : decode prog_8_method_26_code 196 = .ok (.getfield 7, 3) := by decide +kernel
theorem d_Model_order_199 : decode prog_8_method_26_code 199 = .ok (.iconst 4, 1) := by decide +kernel
theorem d_Model_order_200 : decode prog_8_method_26_code 200 = .ok (.iload 4, 2) := by decide +kernel
theorem d_Model_order_202 : decode prog_8_method_26_code 202 = .ok (.imul, 1) := by decide +kernel
theorem d_Model_order_203 : decode prog_8_method_26_code 203 = .ok (.iload 5, 2) := by decide +kernel
theorem d_Model_order_205 : decode prog_8_method_26_code 205 = .ok (.iadd, 1) := by decide +kernel
theorem d_Model_order_206 : decode prog_8_method_26_code 206 = .ok (.laload, 1) := by decide +kernel
theorem d_Model_order_207 : decode prog_8_method_26_code 207 = .ok (.lastore, 1) := by decide +kernel
theorem d_Model_order_208 : decode prog_8_method_26_code 208 = .ok (.iinc 5 1, 3) := by decide +kernel
theorem d_Model_order_211 : decode prog_8_method_26_code 211 = .ok (.goto (-35), 3) := by decide +kernel
theorem d_Model_order_214 : decode prog_8_method_26_code 214 = .ok (.aload_n 0, 1) := by decide +kernel
theorem d_Model_order_215 : decode prog_8_method_26_code 215 = .ok (.aload_n 0, 1) := by decide +kernel
theorem d_Model_order_216 : decode prog_8_method_26_code 216 = .ok (.getfield 123, 3) := by decide +kernel
theorem d_Model_order_219 : decode prog_8_method_26_code 219 = .ok (.iconst 1, 1) := by decide +kernel
theorem d_Model_order_220 : decode prog_8_method_26_code 220 = .ok (.iadd, 1) := by decide +kernel
theorem d_Model_order_221 : decode prog_8_method_26_code 221 = .ok (.putfield 123, 3) := by decide +kernel
theorem d_Model_order_224 : decode prog_8_method_26_code 224 = .ok (.goto (-193), 3) := by decide +kernel
theorem d_Model_order_227 : decode prog_8_method_26_code 227 = .ok (.aload_n 0, 1) := by decide +kernel
theorem d_Model_order_228 : decode prog_8_method_26_code 228 = .ok (.getfield 123, 3) := by decide +kernel
theorem d_Model_order_231 : decode prog_8_method_26_code 231 = .ok (.ireturn, 1) := by decide +kernel
theorem d_Model_isFree_0 : decode prog_8_method_25_code 0 = .ok (.iconst 0, 1) := by decide +kernel
theorem d_Model_isFree_1 : decode prog_8_method_25_code 1 = .ok (.istore_n 2, 1) := by decide +kernel
theorem d_Model_isFree_2 : decode prog_8_method_25_code 2 = .ok (.iload_n 2, 1) := by decide +kernel
theorem d_Model_isFree_3 : decode prog_8_method_25_code 3 = .ok (.aload_n 0, 1) := by decide +kernel
theorem d_Model_isFree_4 : decode prog_8_method_25_code 4 = .ok (.getfield 51, 3) := by decide +kernel
theorem d_Model_isFree_7 : decode prog_8_method_25_code 7 = .ok (.if_icmp .ge 34, 3) := by decide +kernel
theorem d_Model_isFree_10 : decode prog_8_method_25_code 10 = .ok (.iload_n 2, 1) := by decide +kernel
theorem d_Model_isFree_11 : decode prog_8_method_25_code 11 = .ok (.iload_n 1, 1) := by decide +kernel
theorem d_Model_isFree_12 : decode prog_8_method_25_code 12 = .ok (.if_icmp .eq 23, 3) := by decide +kernel
theorem d_Model_isFree_15 : decode prog_8_method_25_code 15 = .ok (.aload_n 0, 1) := by decide +kernel
theorem d_Model_isFree_16 : decode prog_8_method_25_code 16 = .ok (.iload_n 1, 1) := by decide +kernel
theorem d_Model_isFree_17 : decode prog_8_method_25_code 17 = .ok (.iload_n 2, 1) := by decide +kernel
theorem d_Model_isFree_18 : decode prog_8_method_25_code 18 = .ok (.invokevirtual 70, 3) := by decide +kernel
theorem d_Model_isFree_21 : decode prog_8_method_25_code 21 = .ok (.ifCond .eq 14, 3) := by decide +kernel
theorem d_Model_isFree_24 : decode prog_8_method_25_code 24 = .ok (.aload_n 0, 1) := by decide +kernel
theorem d_Model_isFree_25 : decode prog_8_method_25_code 25 = .ok (.getfield 44, 3) := by decide +kernel
theorem d_Model_isFree_28 : decode prog_8_method_25_code 28 = .ok (.iload_n 2, 1) := by decide +kernel
theorem d_Model_isFree_29 : decode prog_8_method_25_code 29 = .ok (.baload, 1) := by decide +kernel
theorem d_Model_isFree_30 : decode prog_8_method_25_code 30 = .ok (.ifCond .ne 5, 3) := by decide +kernel
theorem d_Model_isFree_33 : decode prog_8_method_25_code 33 = .ok (.iconst 0, 1) := by decide +kernel
theorem d_Model_isFree_34 : decode prog_8_method_25_code 34 = .ok (.ireturn, 1) := by decide +kernel
theorem d_Model_isFree_35 : decode prog_8_method_25_code 35 = .ok (.iinc 2 1, 3) := by decide +kernel
theorem d_Model_isFree_38 : decode prog_8_method_25_code 38 = .ok (.goto (-36), 3) := by decide +kernel
theorem d_Model_isFree_41 : decode prog_8_method_25_code 41 = .ok (.iconst 1, 1) := by decide +kernel
theorem d_Model_isFree_42 : decode prog_8_method_25_code 42 = .ok (.ireturn, 1) := by decide +kernel
theorem d_Model_row_0 : decode prog_8_method_27_code 0 = .ok (.iload_n 1, 1) := by decide +kernel
theorem d_Model_row_1 : decode prog_8_method_27_code 1 = .ok (.ifCond .lt 33, 3) := by decide +kernel
theorem d_Model_row_4 : decode prog_8_method_27_code 4 = .ok (.iload_n 1, 1) := by decide +kernel
theorem d_Model_row_5 : decode prog_8_method_27_code 5 = .ok (.aload_n 0, 1) := by decide +kernel
theorem d_Model_row_6 : decode prog_8_method_27_code 6 = .ok (.getfield 123, 3) := by decide +kernel
theorem d_Model_row_9 : decode prog_8_method_27_code 9 = .ok (.if_icmp .ge 25, 3) := by decide +kernel
theorem d_Model_row_12 : decode prog_8_method_27_code 12 = .ok (.iload_n 2, 1) := by decide +kernel
theorem d_Model_row_13 : decode prog_8_method_27_code 13 = .ok (.ifCond .lt 21, 3) := by decide +kernel
theorem d_Model_row_16 : decode prog_8_method_27_code 16 = .ok (.iload_n 2, 1) := by decide +kernel
theorem d_Model_row_17 : decode prog_8_method_27_code 17 = .ok (.iconst 4, 1) := by decide +kernel
theorem d_Model_row_18 : decode prog_8_method_27_code 18 = .ok (.if_icmp .ge 16, 3) := by decide +kernel
theorem d_Model_row_21 : decode prog_8_method_27_code 21 = .ok (.aload_n 0, 1) := by decide +kernel
theorem d_Model_row_22 : decode prog_8_method_27_code 22 = .ok (.getfield 48, 3) := by decide +kernel
theorem d_Model_row_25 : decode prog_8_method_27_code 25 = .ok (.iconst 4, 1) := by decide +kernel
theorem d_Model_row_26 : decode prog_8_method_27_code 26 = .ok (.iload_n 1, 1) := by decide +kernel
theorem d_Model_row_27 : decode prog_8_method_27_code 27 = .ok (.imul, 1) := by decide +kernel
theorem d_Model_row_28 : decode prog_8_method_27_code 28 = .ok (.iload_n 2, 1) := by decide +kernel
theorem d_Model_row_29 : decode prog_8_method_27_code 29 = .ok (.iadd, 1) := by decide +kernel
theorem d_Model_row_30 : decode prog_8_method_27_code 30 = .ok (.laload, 1) := by decide +kernel
theorem d_Model_row_31 : decode prog_8_method_27_code 31 = .ok (.goto 4, 3) := by decide +kernel
theorem d_Model_row_34 : decode prog_8_method_27_code 34 = .ok (.lconst 0, 1) := by decide +kernel
theorem d_Model_row_35 : decode prog_8_method_27_code 35 = .ok (.lreturn, 1) := by decide +kernel
theorem d_Model_count_0 : decode prog_8_method_28_code 0 = .ok (.iconst 0, 1) := by decide +kernel
theorem d_Model_count_1 : decode prog_8_method_28_code 1 = .ok (.istore_n 2, 1) := by decide +kernel
theorem d_Model_count_2 : decode prog_8_method_28_code 2 = .ok (.iconst 0, 1) := by decide +kernel
theorem d_Model_count_3 : decode prog_8_method_28_code 3 = .ok (.istore_n 3, 1) := by decide +kernel
theorem d_Model_count_4 : decode prog_8_method_28_code 4 = .ok (.iload_n 3, 1) := by decide +kernel
theorem d_Model_count_5 : decode prog_8_method_28_code 5 = .ok (.aload_n 0, 1) := by decide +kernel
theorem d_Model_count_6 : decode prog_8_method_28_code 6 = .ok (.getfield 51, 3) := by decide +kernel
theorem d_Model_count_9 : decode prog_8_method_28_code 9 = .ok (.if_icmp .ge 18, 3) := by decide +kernel
theorem d_Model_count_12 : decode prog_8_method_28_code 12 = .ok (.iload_n 2, 1) := by decide +kernel
theorem d_Model_count_13 : decode prog_8_method_28_code 13 = .ok (.aload_n 0, 1) := by decide +kernel
theorem d_Model_count_14 : decode prog_8_method_28_code 14 = .ok (.getfield 13, 3) := by decide +kernel
theorem d_Model_count_17 : decode prog_8_method_28_code 17 = .ok (.iload_n 3, 1) := by decide +kernel
theorem d_Model_count_18 : decode prog_8_method_28_code 18 = .ok (.iaload, 1) := by decide +kernel
theorem d_Model_count_19 : decode prog_8_method_28_code 19 = .ok (.iadd, 1) := by decide +kernel
theorem d_Model_count_20 : decode prog_8_method_28_code 20 = .ok (.istore_n 2, 1) := by decide +kernel
theorem d_Model_count_21 : decode prog_8_method_28_code 21 = .ok (.iinc 3 1, 3) := by decide +kernel
theorem d_Model_count_24 : decode prog_8_method_28_code 24 = .ok (.goto (-20), 3) := by decide +kernel
theorem d_Model_count_27 : decode prog_8_method_28_code 27 = .ok (.iload_n 1, 1) := by decide +kernel
theorem d_Model_count_28 : decode prog_8_method_28_code 28 = .ok (.tableswitch 60 0 4 #[36, 41, 43, 50, 55], 36) := by decide +kernel
theorem d_Model_count_64 : decode prog_8_method_28_code 64 = .ok (.aload_n 0, 1) := by decide +kernel
theorem d_Model_count_65 : decode prog_8_method_28_code 65 = .ok (.getfield 51, 3) := by decide +kernel
theorem d_Model_count_68 : decode prog_8_method_28_code 68 = .ok (.ireturn, 1) := by decide +kernel
theorem d_Model_count_69 : decode prog_8_method_28_code 69 = .ok (.iload_n 2, 1) := by decide +kernel
theorem d_Model_count_70 : decode prog_8_method_28_code 70 = .ok (.ireturn, 1) := by decide +kernel
theorem d_Model_count_71 : decode prog_8_method_28_code 71 = .ok (.aload_n 0, 1) := by decide +kernel
theorem d_Model_count_72 : decode prog_8_method_28_code 72 = .ok (.iconst 0, 1) := by decide +kernel
theorem d_Model_count_73 : decode prog_8_method_28_code 73 = .ok (.invokevirtual 85, 3) := by decide +kernel
theorem d_Model_count_76 : decode prog_8_method_28_code 76 = .ok (.l2i, 1) := by decide +kernel
theorem d_Model_count_77 : decode prog_8_method_28_code 77 = .ok (.ireturn, 1) := by decide +kernel
theorem d_Model_count_78 : decode prog_8_method_28_code 78 = .ok (.aload_n 0, 1) := by decide +kernel
theorem d_Model_count_79 : decode prog_8_method_28_code 79 = .ok (.getfield 59, 3) := by decide +kernel
theorem d_Model_count_82 : decode prog_8_method_28_code 82 = .ok (.ireturn, 1) := by decide +kernel
theorem d_Model_count_83 : decode prog_8_method_28_code 83 = .ok (.aload_n 0, 1) := by decide +kernel
theorem d_Model_count_84 : decode prog_8_method_28_code 84 = .ok (.getfield 108, 3) := by decide +kernel
theorem d_Model_count_87 : decode prog_8_method_28_code 87 = .ok (.ireturn, 1) := by decide +kernel
theorem d_Model_count_88 : decode prog_8_method_28_code 88 = .ok (.iconst (-1), 1) := by decide +kernel
theorem d_Model_count_89 : decode prog_8_method_28_code 89 = .ok (.ireturn, 1) := by decide +kernel
theorem d_Model_fees_0 : decode prog_8_method_29_code 0 = .ok (.aload_n 0, 1) := by decide +kernel
theorem d_Model_fees_1 : decode prog_8_method_29_code 1 = .ok (.iconst 0, 1) := by decide +kernel
theorem d_Model_fees_2 : decode prog_8_method_29_code 2 = .ok (.invokevirtual 81, 3) := by decide +kernel
theorem d_Model_fees_5 : decode prog_8_method_29_code 5 = .ok (.lreturn, 1) := by decide +kernel
theorem ok_Model_init : ma_Ok M_Model_init 0 := ⟨by decide +kernel, ⟨by decide +kernel, by decide +kernel, by decide +kernel⟩, by decide +kernel, by decide +kernel, by decide +kernel⟩
theorem ok_Model_name : ma_Ok M_Model_name 4 := ⟨by decide +kernel, ⟨by decide +kernel, by decide +kernel, by decide +kernel⟩, by decide +kernel, by decide +kernel, by decide +kernel⟩
theorem ok_Model_spend : ma_Ok M_Model_spend 1 := ⟨by decide +kernel, ⟨by decide +kernel, by decide +kernel, by decide +kernel⟩, by decide +kernel, by decide +kernel, by decide +kernel⟩
theorem ok_Model_enter : ma_Ok M_Model_enter 3 := ⟨by decide +kernel, ⟨by decide +kernel, by decide +kernel, by decide +kernel⟩, by decide +kernel, by decide +kernel, by decide +kernel⟩
theorem ok_Model_come : ma_Ok M_Model_come 1 := ⟨by decide +kernel, ⟨by decide +kernel, by decide +kernel, by decide +kernel⟩, by decide +kernel, by decide +kernel, by decide +kernel⟩
theorem ok_Model_find : ma_Ok M_Model_find 0 := ⟨by decide +kernel, ⟨by decide +kernel, by decide +kernel, by decide +kernel⟩, by decide +kernel, by decide +kernel, by decide +kernel⟩
theorem ok_Model_isNamed : ma_Ok M_Model_isNamed 1 := ⟨by decide +kernel, ⟨by decide +kernel, by decide +kernel, by decide +kernel⟩, by decide +kernel, by decide +kernel, by decide +kernel⟩
theorem ok_Model_clash : ma_Ok M_Model_clash 2 := ⟨by decide +kernel, ⟨by decide +kernel, by decide +kernel, by decide +kernel⟩, by decide +kernel, by decide +kernel, by decide +kernel⟩
theorem ok_Model_sameKey : ma_Ok M_Model_sameKey 4 := ⟨by decide +kernel, ⟨by decide +kernel, by decide +kernel, by decide +kernel⟩, by decide +kernel, by decide +kernel, by decide +kernel⟩
theorem ok_Model_misses : ma_Ok M_Model_misses 2 := ⟨by decide +kernel, ⟨by decide +kernel, by decide +kernel, by decide +kernel⟩, by decide +kernel, by decide +kernel, by decide +kernel⟩
theorem ok_Model_hasName : ma_Ok M_Model_hasName 3 := ⟨by decide +kernel, ⟨by decide +kernel, by decide +kernel, by decide +kernel⟩, by decide +kernel, by decide +kernel, by decide +kernel⟩
theorem ok_Model_family : ma_Ok M_Model_family 2 := ⟨by decide +kernel, ⟨by decide +kernel, by decide +kernel, by decide +kernel⟩, by decide +kernel, by decide +kernel, by decide +kernel⟩
theorem ok_Model_hangs : ma_Ok M_Model_hangs 2 := ⟨by decide +kernel, ⟨by decide +kernel, by decide +kernel, by decide +kernel⟩, by decide +kernel, by decide +kernel, by decide +kernel⟩
theorem ok_Model_copy : ma_Ok M_Model_copy 2 := ⟨by decide +kernel, ⟨by decide +kernel, by decide +kernel, by decide +kernel⟩, by decide +kernel, by decide +kernel, by decide +kernel⟩
theorem ok_Model_least : ma_Ok M_Model_least 0 := ⟨by decide +kernel, ⟨by decide +kernel, by decide +kernel, by decide +kernel⟩, by decide +kernel, by decide +kernel, by decide +kernel⟩
theorem ok_Model_feesOf : ma_Ok M_Model_feesOf 1 := ⟨by decide +kernel, ⟨by decide +kernel, by decide +kernel, by decide +kernel⟩, by decide +kernel, by decide +kernel, by decide +kernel⟩
theorem ok_Model_sizesOf : ma_Ok M_Model_sizesOf 1 := ⟨by decide +kernel, ⟨by decide +kernel, by decide +kernel, by decide +kernel⟩, by decide +kernel, by decide +kernel, by decide +kernel⟩
theorem ok_Model_compare : ma_Ok M_Model_compare 4 := ⟨by decide +kernel, ⟨by decide +kernel, by decide +kernel, by decide +kernel⟩, by decide +kernel, by decide +kernel, by decide +kernel⟩
theorem ok_Model_remove : ma_Ok M_Model_remove 0 := ⟨by decide +kernel, ⟨by decide +kernel, by decide +kernel, by decide +kernel⟩, by decide +kernel, by decide +kernel, by decide +kernel⟩
theorem ok_Model_take : ma_Ok M_Model_take 0 := ⟨by decide +kernel, ⟨by decide +kernel, by decide +kernel, by decide +kernel⟩, by decide +kernel, by decide +kernel, by decide +kernel⟩
theorem ok_Model_drop : ma_Ok M_Model_drop 0 := ⟨by decide +kernel, ⟨by decide +kernel, by decide +kernel, by decide +kernel⟩, by decide +kernel, by decide +kernel, by decide +kernel⟩
theorem ok_Model_strike : ma_Ok M_Model_strike 1 := ⟨by decide +kernel, ⟨by decide +kernel, by decide +kernel, by decide +kernel⟩, by decide +kernel, by decide +kernel, by decide +kernel⟩
theorem ok_Model_look : ma_Ok M_Model_look 1 := ⟨by decide +kernel, ⟨by decide +kernel, by decide +kernel, by decide +kernel⟩, by decide +kernel, by decide +kernel, by decide +kernel⟩
theorem ok_Model_kin : ma_Ok M_Model_kin 2 := ⟨by decide +kernel, ⟨by decide +kernel, by decide +kernel, by decide +kernel⟩, by decide +kernel, by decide +kernel, by decide +kernel⟩
theorem ok_Model_order : ma_Ok M_Model_order 1 := ⟨by decide +kernel, ⟨by decide +kernel, by decide +kernel, by decide +kernel⟩, by decide +kernel, by decide +kernel, by decide +kernel⟩
theorem ok_Model_isFree : ma_Ok M_Model_isFree 1 := ⟨by decide +kernel, ⟨by decide +kernel, by decide +kernel, by decide +kernel⟩, by decide +kernel, by decide +kernel, by decide +kernel⟩
theorem ok_Model_row : ma_Ok M_Model_row 2 := ⟨by decide +kernel, ⟨by decide +kernel, by decide +kernel, by decide +kernel⟩, by decide +kernel, by decide +kernel, by decide +kernel⟩
theorem ok_Model_count : ma_Ok M_Model_count 1 := ⟨by decide +kernel, ⟨by decide +kernel, by decide +kernel, by decide +kernel⟩, by decide +kernel, by decide +kernel, by decide +kernel⟩
theorem ok_Model_fees : ma_Ok M_Model_fees 0 := ⟨by decide +kernel, ⟨by decide +kernel, by decide +kernel, by decide +kernel⟩, by decide +kernel, by decide +kernel, by decide +kernel⟩
