theorem dX3_init_0 : decode cX3_init 0 = .ok (.aload_n 0, 1) := by decide +kernel
theorem dX3_init_1 : decode cX3_init 1 = .ok (.invokespecial 1, 3) := by decide +kernel
theorem dX3_init_4 : decode cX3_init 4 = .ok (.aload_n 0, 1) := by decide +kernel
theorem dX3_init_5 : decode cX3_init 5 = .ok (.bipush 30, 2) := by decide +kernel
theorem dX3_init_7 : decode cX3_init 7 = .ok (.newarray .char, 2) := by decide +kernel
theorem dX3_init_9 : decode cX3_init 9 = .ok (.putfield 7, 3) := by decide +kernel
theorem dX3_init_12 : decode cX3_init 12 = .ok (.aload_n 0, 1) := by decide +kernel
theorem dX3_init_13 : decode cX3_init 13 = .ok (.bipush 7, 2) := by decide +kernel
theorem dX3_init_15 : decode cX3_init 15 = .ok (.newarray .long, 2) := by decide +kernel
theorem dX3_init_17 : decode cX3_init 17 = .ok (.putfield 13, 3) := by decide +kernel
theorem dX3_init_20 : decode cX3_init 20 = .ok (.aload_n 0, 1) := by decide +kernel
theorem dX3_init_21 : decode cX3_init 21 = .ok (.bipush 6, 2) := by decide +kernel
theorem dX3_init_23 : decode cX3_init 23 = .ok (.newarray .long, 2) := by decide +kernel
theorem dX3_init_25 : decode cX3_init 25 = .ok (.dup, 1) := by decide +kernel
theorem dX3_init_26 : decode cX3_init 26 = .ok (.iconst 0, 1) := by decide +kernel
theorem dX3_init_27 : decode cX3_init 27 = .ok (.lconst 0, 1) := by decide +kernel
theorem dX3_init_28 : decode cX3_init 28 = .ok (.lastore, 1) := by decide +kernel
theorem dX3_init_29 : decode cX3_init 29 = .ok (.dup, 1) := by decide +kernel
theorem dX3_init_30 : decode cX3_init 30 = .ok (.iconst 1, 1) := by decide +kernel
theorem dX3_init_31 : decode cX3_init 31 = .ok (.lconst 1, 1) := by decide +kernel
theorem dX3_init_32 : decode cX3_init 32 = .ok (.lastore, 1) := by decide +kernel
theorem dX3_init_33 : decode cX3_init 33 = .ok (.dup, 1) := by decide +kernel
theorem dX3_init_34 : decode cX3_init 34 = .ok (.iconst 2, 1) := by decide +kernel
theorem dX3_init_35 : decode cX3_init 35 = .ok (.lconst 0, 1) := by decide +kernel
theorem dX3_init_36 : decode cX3_init 36 = .ok (.lastore, 1) := by decide +kernel
theorem dX3_init_37 : decode cX3_init 37 = .ok (.dup, 1) := by decide +kernel
theorem dX3_init_38 : decode cX3_init 38 = .ok (.iconst 3, 1) := by decide +kernel
theorem dX3_init_39 : decode cX3_init 39 = .ok (.lconst 0, 1) := by decide +kernel
theorem dX3_init_40 : decode cX3_init 40 = .ok (.lastore, 1) := by decide +kernel
theorem dX3_init_41 : decode cX3_init 41 = .ok (.dup, 1) := by decide +kernel
theorem dX3_init_42 : decode cX3_init 42 = .ok (.iconst 4, 1) := by decide +kernel
theorem dX3_init_43 : decode cX3_init 43 = .ok (.lconst 0, 1) := by decide +kernel
theorem dX3_init_44 : decode cX3_init 44 = .ok (.lastore, 1) := by decide +kernel
theorem dX3_init_45 : decode cX3_init 45 = .ok (.dup, 1) := by decide +kernel
theorem dX3_init_46 : decode cX3_init 46 = .ok (.iconst 5, 1) := by decide +kernel
theorem dX3_init_47 : decode cX3_init 47 = .ok (.lconst 0, 1) := by decide +kernel
theorem dX3_init_48 : decode cX3_init 48 = .ok (.lastore, 1) := by decide +kernel
theorem dX3_init_49 : decode cX3_init 49 = .ok (.putfield 17, 3) := by decide +kernel
theorem dX3_init_52 : decode cX3_init 52 = .ok (.aload_n 0, 1) := by decide +kernel
theorem dX3_init_53 : decode cX3_init 53 = .ok (.bipush 7, 2) := by decide +kernel
theorem dX3_init_55 : decode cX3_init 55 = .ok (.newarray .long, 2) := by decide +kernel
theorem dX3_init_57 : decode cX3_init 57 = .ok (.putfield 20, 3) := by decide +kernel
theorem dX3_init_60 : decode cX3_init 60 = .ok (.aload_n 0, 1) := by decide +kernel
theorem dX3_init_61 : decode cX3_init 61 = .ok (.iconst 1, 1) := by decide +kernel
theorem dX3_init_62 : decode cX3_init 62 = .ok (.putfield 23, 3) := by decide +kernel
theorem dX3_init_65 : decode cX3_init 65 = .ok (.aload_n 0, 1) := by decide +kernel
theorem dX3_init_66 : decode cX3_init 66 = .ok (.bipush 7, 2) := by decide +kernel
theorem dX3_init_68 : decode cX3_init 68 = .ok (.newarray .int, 2) := by decide +kernel
theorem dX3_init_70 : decode cX3_init 70 = .ok (.dup, 1) := by decide +kernel
theorem dX3_init_71 : decode cX3_init 71 = .ok (.iconst 0, 1) := by decide +kernel
theorem dX3_init_72 : decode cX3_init 72 = .ok (.iconst 0, 1) := by decide +kernel
theorem dX3_init_73 : decode cX3_init 73 = .ok (.iastore, 1) := by decide +kernel
theorem dX3_init_74 : decode cX3_init 74 = .ok (.dup, 1) := by decide +kernel
theorem dX3_init_75 : decode cX3_init 75 = .ok (.iconst 1, 1) := by decide +kernel
theorem dX3_init_76 : decode cX3_init 76 = .ok (.iconst 0, 1) := by decide +kernel
theorem dX3_init_77 : decode cX3_init 77 = .ok (.iastore, 1) := by decide +kernel
theorem dX3_init_78 : decode cX3_init 78 = .ok (.dup, 1) := by decide +kernel
theorem dX3_init_79 : decode cX3_init 79 = .ok (.iconst 2, 1) := by decide +kernel
theorem dX3_init_80 : decode cX3_init 80 = .ok (.iconst 0, 1) := by decide +kernel
theorem dX3_init_81 : decode cX3_init 81 = .ok (.iastore, 1) := by decide +kernel
theorem dX3_init_82 : decode cX3_init 82 = .ok (.dup, 1) := by decide +kernel
theorem dX3_init_83 : decode cX3_init 83 = .ok (.iconst 3, 1) := by decide +kernel
theorem dX3_init_84 : decode cX3_init 84 = .ok (.iconst 1, 1) := by decide +kernel
theorem dX3_init_85 : decode cX3_init 85 = .ok (.iastore, 1) := by decide +kernel
theorem dX3_init_86 : decode cX3_init 86 = .ok (.dup, 1) := by decide +kernel
theorem dX3_init_87 : decode cX3_init 87 = .ok (.iconst 4, 1) := by decide +kernel
theorem dX3_init_88 : decode cX3_init 88 = .ok (.iconst 0, 1) := by decide +kernel
theorem dX3_init_89 : decode cX3_init 89 = .ok (.iastore, 1) := by decide +kernel
theorem dX3_init_90 : decode cX3_init 90 = .ok (.dup, 1) := by decide +kernel
theorem dX3_init_91 : decode cX3_init 91 = .ok (.iconst 5, 1) := by decide +kernel
theorem dX3_init_92 : decode cX3_init 92 = .ok (.iconst 0, 1) := by decide +kernel
theorem dX3_init_93 : decode cX3_init 93 = .ok (.iastore, 1) := by decide +kernel
theorem dX3_init_94 : decode cX3_init 94 = .ok (.dup, 1) := by decide +kernel
theorem dX3_init_95 : decode cX3_init 95 = .ok (.bipush 6, 2) := by decide +kernel
theorem dX3_init_97 : decode cX3_init 97 = .ok (.iconst 0, 1) := by decide +kernel
theorem dX3_init_98 : decode cX3_init 98 = .ok (.iastore, 1) := by decide +kernel
theorem dX3_init_99 : decode cX3_init 99 = .ok (.putfield 27, 3) := by decide +kernel
theorem dX3_init_102 : decode cX3_init 102 = .ok (.aload_n 0, 1) := by decide +kernel
theorem dX3_init_103 : decode cX3_init 103 = .ok (.bipush 7, 2) := by decide +kernel
theorem dX3_init_105 : decode cX3_init 105 = .ok (.newarray .int, 2) := by decide +kernel
theorem dX3_init_107 : decode cX3_init 107 = .ok (.putfield 31, 3) := by decide +kernel
theorem dX3_init_110 : decode cX3_init 110 = .ok (.aload_n 0, 1) := by decide +kernel
theorem dX3_init_111 : decode cX3_init 111 = .ok (.bipush 7, 2) := by decide +kernel
theorem dX3_init_113 : decode cX3_init 113 = .ok (.newarray .long, 2) := by decide +kernel
theorem dX3_init_115 : decode cX3_init 115 = .ok (.putfield 34, 3) := by decide +kernel
theorem dX3_init_118 : decode cX3_init 118 = .ok (.aload_n 0, 1) := by decide +kernel
theorem dX3_init_119 : decode cX3_init 119 = .ok (.bipush 6, 2) := by decide +kernel
theorem dX3_init_121 : decode cX3_init 121 = .ok (.newarray .long, 2) := by decide +kernel
theorem dX3_init_123 : decode cX3_init 123 = .ok (.putfield 37, 3) := by decide +kernel
theorem dX3_init_126 : decode cX3_init 126 = .ok (.aload_n 0, 1) := by decide +kernel
theorem dX3_init_127 : decode cX3_init 127 = .ok (.bipush 6, 2) := by decide +kernel
theorem dX3_init_129 : decode cX3_init 129 = .ok (.newarray .long, 2) := by decide +kernel
theorem dX3_init_131 : decode cX3_init 131 = .ok (.putfield 40, 3) := by decide +kernel
theorem dX3_init_134 : decode cX3_init 134 = .ok (.aload_n 0, 1) := by decide +kernel
theorem dX3_init_135 : decode cX3_init 135 = .ok (.bipush 7, 2) := by decide +kernel
theorem dX3_init_137 : decode cX3_init 137 = .ok (.newarray .long, 2) := by decide +kernel
theorem dX3_init_139 : decode cX3_init 139 = .ok (.putfield 43, 3) := by decide +kernel
theorem dX3_init_142 : decode cX3_init 142 = .ok (.return_, 1) := by decide +kernel
theorem dX3_thrown_0 : decode cX3_thrown 0 = .ok (.aload_n 0, 1) := by decide +kernel
theorem dX3_thrown_1 : decode cX3_thrown 1 = .ok (.getfield 46, 3) := by decide +kernel
theorem dX3_thrown_4 : decode cX3_thrown 4 = .ok (.ireturn, 1) := by decide +kernel
theorem dX3_fails_0 : decode cX3_fails 0 = .ok (.aload_n 0, 1) := by decide +kernel
theorem dX3_fails_1 : decode cX3_fails 1 = .ok (.iload_n 1, 1) := by decide +kernel
theorem dX3_fails_2 : decode cX3_fails 2 = .ok (.putfield 46, 3) := by decide +kernel
theorem dX3_fails_5 : decode cX3_fails 5 = .ok (.iconst 0, 1) := by decide +kernel
theorem dX3_fails_6 : decode cX3_fails 6 = .ok (.ireturn, 1) := by decide +kernel
theorem dX3_write_0 : decode cX3_write 0 = .ok (.aload_n 0, 1) := by decide +kernel
theorem dX3_write_1 : decode cX3_write 1 = .ok (.iconst 0, 1) := by decide +kernel
theorem dX3_write_2 : decode cX3_write 2 = .ok (.putfield 46, 3) := by decide +kernel
theorem dX3_write_5 : decode cX3_write 5 = .ok (.iload_n 1, 1) := by decide +kernel
theorem dX3_write_6 : decode cX3_write 6 = .ok (.bipush 32, 2) := by decide +kernel
theorem dX3_write_8 : decode cX3_write 8 = .ok (.if_icmp .lt 18, 3) := by decide +kernel
theorem dX3_write_11 : decode cX3_write 11 = .ok (.iload_n 1, 1) := by decide +kernel
theorem dX3_write_12 : decode cX3_write 12 = .ok (.bipush 126, 2) := by decide +kernel
theorem dX3_write_14 : decode cX3_write 14 = .ok (.if_icmp .gt 12, 3) := by decide +kernel
theorem dX3_write_17 : decode cX3_write 17 = .ok (.aload_n 0, 1) := by decide +kernel
theorem dX3_write_18 : decode cX3_write 18 = .ok (.getfield 49, 3) := by decide +kernel
theorem dX3_write_21 : decode cX3_write 21 = .ok (.bipush 30, 2) := by decide +kernel
theorem dX3_write_23 : decode cX3_write 23 = .ok (.if_icmp .lt 5, 3) := by decide +kernel
theorem dX3_write_26 : decode cX3_write 26 = .ok (.iconst 0, 1) := by decide +kernel
theorem dX3_write_27 : decode cX3_write 27 = .ok (.ireturn, 1) := by decide +kernel
theorem dX3_write_28 : decode cX3_write 28 = .ok (.aload_n 0, 1) := by decide +kernel
theorem dX3_write_29 : decode cX3_write 29 = .ok (.getfield 7, 3) := by decide +kernel
theorem dX3_write_32 : decode cX3_write 32 = .ok (.aload_n 0, 1) := by decide +kernel
theorem dX3_write_33 : decode cX3_write 33 = .ok (.getfield 49, 3) := by decide +kernel
theorem dX3_write_36 : decode cX3_write 36 = .ok (.iload_n 1, 1) := by decide +kernel
theorem dX3_write_37 : decode cX3_write 37 = .ok (.castore, 1) := by decide +kernel
theorem dX3_write_38 : decode cX3_write 38 = .ok (.aload_n 0, 1) := by decide +kernel
theorem dX3_write_39 : decode cX3_write 39 = .ok (.dup, 1) := by decide +kernel
theorem dX3_write_40 : decode cX3_write 40 = .ok (.getfield 49, 3) := by decide +kernel
theorem dX3_write_43 : decode cX3_write 43 = .ok (.iconst 1, 1) := by decide +kernel
theorem dX3_write_44 : decode cX3_write 44 = .ok (.iadd, 1) := by decide +kernel
theorem dX3_write_45 : decode cX3_write 45 = .ok (.putfield 49, 3) := by decide +kernel
theorem dX3_write_48 : decode cX3_write 48 = .ok (.iconst 1, 1) := by decide +kernel
theorem dX3_write_49 : decode cX3_write 49 = .ok (.ireturn, 1) := by decide +kernel
theorem dX3_look_0 : decode cX3_look 0 = .ok (.aload_n 0, 1) := by decide +kernel
theorem dX3_look_1 : decode cX3_look 1 = .ok (.getfield 52, 3) := by decide +kernel
theorem dX3_look_4 : decode cX3_look 4 = .ok (.aload_n 0, 1) := by decide +kernel
theorem dX3_look_5 : decode cX3_look 5 = .ok (.getfield 49, 3) := by decide +kernel
theorem dX3_look_8 : decode cX3_look 8 = .ok (.if_icmp .ge 15, 3) := by decide +kernel
theorem dX3_look_11 : decode cX3_look 11 = .ok (.aload_n 0, 1) := by decide +kernel
theorem dX3_look_12 : decode cX3_look 12 = .ok (.getfield 7, 3) := by decide +kernel
theorem dX3_look_15 : decode cX3_look 15 = .ok (.aload_n 0, 1) := by decide +kernel
theorem dX3_look_16 : decode cX3_look 16 = .ok (.getfield 52, 3) := by decide +kernel
theorem dX3_look_19 : decode cX3_look 19 = .ok (.caload, 1) := by decide +kernel
theorem dX3_look_20 : decode cX3_look 20 = .ok (.goto 4, 3) := by decide +kernel
theorem dX3_look_23 : decode cX3_look 23 = .ok (.iconst 0, 1) := by decide +kernel
theorem dX3_look_24 : decode cX3_look 24 = .ok (.ireturn, 1) := by decide +kernel
theorem dX3_pass_0 : decode cX3_pass 0 = .ok (.aload_n 0, 1) := by decide +kernel
theorem dX3_pass_1 : decode cX3_pass 1 = .ok (.invokevirtual 55, 3) := by decide +kernel
theorem dX3_pass_4 : decode cX3_pass 4 = .ok (.iload_n 1, 1) := by decide +kernel
theorem dX3_pass_5 : decode cX3_pass 5 = .ok (.if_icmp .ne 7, 3) := by decide +kernel
theorem dX3_pass_8 : decode cX3_pass 8 = .ok (.iconst 1, 1) := by decide +kernel
theorem dX3_pass_9 : decode cX3_pass 9 = .ok (.goto 4, 3) := by decide +kernel
theorem dX3_pass_12 : decode cX3_pass 12 = .ok (.iconst 0, 1) := by decide +kernel
theorem dX3_pass_13 : decode cX3_pass 13 = .ok (.istore_n 2, 1) := by decide +kernel
theorem dX3_pass_14 : decode cX3_pass 14 = .ok (.aload_n 0, 1) := by decide +kernel
theorem dX3_pass_15 : decode cX3_pass 15 = .ok (.iload_n 2, 1) := by decide +kernel
theorem dX3_pass_16 : decode cX3_pass 16 = .ok (.ifCond .eq 12, 3) := by decide +kernel
theorem dX3_pass_19 : decode cX3_pass 19 = .ok (.aload_n 0, 1) := by decide +kernel
theorem dX3_pass_20 : decode cX3_pass 20 = .ok (.getfield 52, 3) := by decide +kernel
theorem dX3_pass_23 : decode cX3_pass 23 = .ok (.iconst 1, 1) := by decide +kernel
theorem dX3_pass_24 : decode cX3_pass 24 = .ok (.iadd, 1) := by decide +kernel
theorem dX3_pass_25 : decode cX3_pass 25 = .ok (.goto 7, 3) := by decide +kernel
theorem dX3_pass_28 : decode cX3_pass 28 = .ok (.aload_n 0, 1) := by decide +kernel
theorem dX3_pass_29 : decode cX3_pass 29 = .ok (.getfield 52, 3) := by decide +kernel
theorem dX3_pass_32 : decode cX3_pass 32 = .ok (.putfield 52, 3) := by decide +kernel
theorem dX3_pass_35 : decode cX3_pass 35 = .ok (.iload_n 2, 1) := by decide +kernel
theorem dX3_pass_36 : decode cX3_pass 36 = .ok (.ireturn, 1) := by decide +kernel
theorem dX3_isDigit_0 : decode cX3_isDigit 0 = .ok (.aload_n 0, 1) := by decide +kernel
theorem dX3_isDigit_1 : decode cX3_isDigit 1 = .ok (.invokevirtual 55, 3) := by decide +kernel
theorem dX3_isDigit_4 : decode cX3_isDigit 4 = .ok (.bipush 48, 2) := by decide +kernel
theorem dX3_isDigit_6 : decode cX3_isDigit 6 = .ok (.if_icmp .lt 16, 3) := by decide +kernel
theorem dX3_isDigit_9 : decode cX3_isDigit 9 = .ok (.aload_n 0, 1) := by decide +kernel
theorem dX3_isDigit_10 : decode cX3_isDigit 10 = .ok (.invokevirtual 55, 3) := by decide +kernel
theorem dX3_isDigit_13 : decode cX3_isDigit 13 = .ok (.bipush 57, 2) := by decide +kernel
theorem dX3_isDigit_15 : decode cX3_isDigit 15 = .ok (.if_icmp .gt 7, 3) := by decide +kernel
theorem dX3_isDigit_18 : decode cX3_isDigit 18 = .ok (.iconst 1, 1) := by decide +kernel
theorem dX3_isDigit_19 : decode cX3_isDigit 19 = .ok (.goto 4, 3) := by decide +kernel
theorem dX3_isDigit_22 : decode cX3_isDigit 22 = .ok (.iconst 0, 1) := by decide +kernel
theorem dX3_isDigit_23 : decode cX3_isDigit 23 = .ok (.ireturn, 1) := by decide +kernel
theorem dX3_digit_0 : decode cX3_digit 0 = .ok (.aload_n 0, 1) := by decide +kernel
theorem dX3_digit_1 : decode cX3_digit 1 = .ok (.dup, 1) := by decide +kernel
theorem dX3_digit_2 : decode cX3_digit 2 = .ok (.getfield 52, 3) := by decide +kernel
theorem dX3_digit_5 : decode cX3_digit 5 = .ok (.iconst 1, 1) := by decide +kernel
theorem dX3_digit_6 : decode cX3_digit 6 = .ok (.iadd, 1) := by decide +kernel
theorem dX3_digit_7 : decode cX3_digit 7 = .ok (.putfield 52, 3) := by decide +kernel
theorem dX3_digit_10 : decode cX3_digit 10 = .ok (.aload_n 0, 1) := by decide +kernel
theorem dX3_digit_11 : decode cX3_digit 11 = .ok (.getfield 7, 3) := by decide +kernel
theorem dX3_digit_14 : decode cX3_digit 14 = .ok (.aload_n 0, 1) := by decide +kernel
theorem dX3_digit_15 : decode cX3_digit 15 = .ok (.getfield 52, 3) := by decide +kernel
theorem dX3_digit_18 : decode cX3_digit 18 = .ok (.iconst 1, 1) := by decide +kernel
theorem dX3_digit_19 : decode cX3_digit 19 = .ok (.isub, 1) := by decide +kernel
theorem dX3_digit_20 : decode cX3_digit 20 = .ok (.caload, 1) := by decide +kernel
theorem dX3_digit_21 : decode cX3_digit 21 = .ok (.bipush 48, 2) := by decide +kernel
theorem dX3_digit_23 : decode cX3_digit 23 = .ok (.isub, 1) := by decide +kernel
theorem dX3_digit_24 : decode cX3_digit 24 = .ok (.ireturn, 1) := by decide +kernel
theorem dX3_readTerm_0 : decode cX3_readTerm 0 = .ok (.aload_n 0, 1) := by decide +kernel
theorem dX3_readTerm_1 : decode cX3_readTerm 1 = .ok (.invokevirtual 59, 3) := by decide +kernel
theorem dX3_readTerm_4 : decode cX3_readTerm 4 = .ok (.istore_n 3, 1) := by decide +kernel
theorem dX3_readTerm_5 : decode cX3_readTerm 5 = .ok (.iload_n 3, 1) := by decide +kernel
theorem dX3_readTerm_6 : decode cX3_readTerm 6 = .ok (.ifCond .eq 11, 3) := by decide +kernel
theorem dX3_readTerm_9 : decode cX3_readTerm 9 = .ok (.aload_n 0, 1) := by decide +kernel
theorem dX3_readTerm_10 : decode cX3_readTerm 10 = .ok (.invokevirtual 63, 3) := by decide +kernel
theorem dX3_readTerm_13 : decode cX3_readTerm 13 = .ok (.i2l, 1) := by decide +kernel
theorem dX3_readTerm_14 : decode cX3_readTerm 14 = .ok (.goto 4, 3) := by decide +kernel
theorem dX3_readTerm_17 : decode cX3_readTerm 17 = .ok (.lconst 1, 1) := by decide +kernel
theorem dX3_readTerm_18 : decode cX3_readTerm 18 = .ok (.lstore 4, 2) := by decide +kernel
theorem dX3_readTerm_20 : decode cX3_readTerm 20 = .ok (.iload_n 3, 1) := by decide +kernel
theorem dX3_readTerm_21 : decode cX3_readTerm 21 = .ok (.ifCond .eq 25, 3) := by decide +kernel
theorem dX3_readTerm_24 : decode cX3_readTerm 24 = .ok (.aload_n 0, 1) := by decide +kernel
theorem dX3_readTerm_25 : decode cX3_readTerm 25 = .ok (.invokevirtual 59, 3) := by decide +kernel
theorem dX3_readTerm_28 : decode cX3_readTerm 28 = .ok (.ifCond .eq 18, 3) := by decide +kernel
theorem dX3_readTerm_31 : decode cX3_readTerm 31 = .ok (.ldc2_w 67, 3) := by decide +kernel
theorem dX3_readTerm_34 : decode cX3_readTerm 34 = .ok (.lload 4, 2) := by decide +kernel
theorem dX3_readTerm_36 : decode cX3_readTerm 36 = .ok (.lmul, 1) := by decide +kernel
theorem dX3_readTerm_37 : decode cX3_readTerm 37 = .ok (.aload_n 0, 1) := by decide +kernel
theorem dX3_readTerm_38 : decode cX3_readTerm 38 = .ok (.invokevirtual 63, 3) := by decide +kernel
theorem dX3_readTerm_41 : decode cX3_readTerm 41 = .ok (.i2l, 1) := by decide +kernel
theorem dX3_readTerm_42 : decode cX3_readTerm 42 = .ok (.ladd, 1) := by decide +kernel
theorem dX3_readTerm_43 : decode cX3_readTerm 43 = .ok (.goto 5, 3) := by decide +kernel
theorem dX3_readTerm_46 : decode cX3_readTerm 46 = .ok (.lload 4, 2) := by decide +kernel
theorem dX3_readTerm_48 : decode cX3_readTerm 48 = .ok (.lstore 4, 2) := by decide +kernel
theorem dX3_readTerm_50 : decode cX3_readTerm 50 = .ok (.iconst 0, 1) := by decide +kernel
theorem dX3_readTerm_51 : decode cX3_readTerm 51 = .ok (.istore 6, 2) := by decide +kernel
theorem dX3_readTerm_53 : decode cX3_readTerm 53 = .ok (.aload_n 0, 1) := by decide +kernel
theorem dX3_readTerm_54 : decode cX3_readTerm 54 = .ok (.bipush 120, 2) := by decide +kernel
theorem dX3_readTerm_56 : decode cX3_readTerm 56 = .ok (.invokevirtual 69, 3) := by decide +kernel
theorem dX3_readTerm_59 : decode cX3_readTerm 59 = .ok (.istore 7, 2) := by decide +kernel
theorem dX3_readTerm_61 : decode cX3_readTerm 61 = .ok (.iload_n 3, 1) := by decide +kernel
theorem dX3_readTerm_62 : decode cX3_readTerm 62 = .ok (.ifCond .ne 10, 3) := by decide +kernel
theorem dX3_readTerm_65 : decode cX3_readTerm 65 = .ok (.iload 7, 2) := by decide +kernel
theorem dX3_readTerm_67 : decode cX3_readTerm 67 = .ok (.ifCond .ne 5, 3) := by decide +kernel
theorem dX3_readTerm_70 : decode cX3_readTerm 70 = .ok (.iconst 0, 1) := by decide +kernel
theorem dX3_readTerm_71 : decode cX3_readTerm 71 = .ok (.ireturn, 1) := by decide +kernel
theorem dX3_readTerm_72 : decode cX3_readTerm 72 = .ok (.iload 7, 2) := by decide +kernel
theorem dX3_readTerm_74 : decode cX3_readTerm 74 = .ok (.ifCond .eq 30, 3) := by decide +kernel
theorem dX3_readTerm_77 : decode cX3_readTerm 77 = .ok (.iconst 1, 1) := by decide +kernel
theorem dX3_readTerm_78 : decode cX3_readTerm 78 = .ok (.istore 6, 2) := by decide +kernel
theorem dX3_readTerm_80 : decode cX3_readTerm 80 = .ok (.aload_n 0, 1) := by decide +kernel
theorem dX3_readTerm_81 : decode cX3_readTerm 81 = .ok (.bipush 94, 2) := by decide +kernel
theorem dX3_readTerm_83 : decode cX3_readTerm 83 = .ok (.invokevirtual 69, 3) := by decide +kernel
theorem dX3_readTerm_86 : decode cX3_readTerm 86 = .ok (.ifCond .eq 18, 3) := by decide +kernel
theorem dX3_readTerm_89 : decode cX3_readTerm 89 = .ok (.aload_n 0, 1) := by decide +kernel
theorem dX3_readTerm_90 : decode cX3_readTerm 90 = .ok (.invokevirtual 59, 3) := by decide +kernel
theorem dX3_readTerm_93 : decode cX3_readTerm 93 = .ok (.ifCond .ne 5, 3) := by decide +kernel
theorem dX3_readTerm_96 : decode cX3_readTerm 96 = .ok (.iconst 0, 1) := by decide +kernel
theorem dX3_readTerm_97 : decode cX3_readTerm 97 = .ok (.ireturn, 1) := by decide +kernel
theorem dX3_readTerm_98 : decode cX3_readTerm 98 = .ok (.aload_n 0, 1) := by decide +kernel
theorem dX3_readTerm_99 : decode cX3_readTerm 99 = .ok (.invokevirtual 63, 3) := by decide +kernel
theorem dX3_readTerm_102 : decode cX3_readTerm 102 = .ok (.istore 6, 2) := by decide +kernel
theorem dX3_readTerm_104 : decode cX3_readTerm 104 = .ok (.iload 6, 2) := by decide +kernel
theorem dX3_readTerm_106 : decode cX3_readTerm 106 = .ok (.bipush 6, 2) := by decide +kernel
theorem dX3_readTerm_108 : decode cX3_readTerm 108 = .ok (.if_icmp .le 5, 3) := by decide +kernel
theorem dX3_readTerm_111 : decode cX3_readTerm 111 = .ok (.iconst 0, 1) := by decide +kernel
theorem dX3_readTerm_112 : decode cX3_readTerm 112 = .ok (.ireturn, 1) := by decide +kernel
theorem dX3_readTerm_113 : decode cX3_readTerm 113 = .ok (.aload_n 0, 1) := by decide +kernel
theorem dX3_readTerm_114 : decode cX3_readTerm 114 = .ok (.getfield 43, 3) := by decide +kernel
theorem dX3_readTerm_117 : decode cX3_readTerm 117 = .ok (.iload 6, 2) := by decide +kernel
theorem dX3_readTerm_119 : decode cX3_readTerm 119 = .ok (.aload_n 0, 1) := by decide +kernel
theorem dX3_readTerm_120 : decode cX3_readTerm 120 = .ok (.getfield 43, 3) := by decide +kernel
theorem dX3_readTerm_123 : decode cX3_readTerm 123 = .ok (.iload 6, 2) := by decide +kernel
theorem dX3_readTerm_125 : decode cX3_readTerm 125 = .ok (.laload, 1) := by decide +kernel
theorem dX3_readTerm_126 : decode cX3_readTerm 126 = .ok (.lload_n 1, 1) := by decide +kernel
theorem dX3_readTerm_127 : decode cX3_readTerm 127 = .ok (.lload 4, 2) := by decide +kernel
theorem dX3_readTerm_129 : decode cX3_readTerm 129 = .ok (.lmul, 1) := by decide +kernel
theorem dX3_readTerm_130 : decode cX3_readTerm 130 = .ok (.ladd, 1) := by decide +kernel
theorem dX3_readTerm_131 : decode cX3_readTerm 131 = .ok (.lastore, 1) := by decide +kernel
theorem dX3_readTerm_132 : decode cX3_readTerm 132 = .ok (.iconst 1, 1) := by decide +kernel
theorem dX3_readTerm_133 : decode cX3_readTerm 133 = .ok (.ireturn, 1) := by decide +kernel
theorem dX3_readPolynomial_0 : decode cX3_readPolynomial 0 = .ok (.aload_n 0, 1) := by decide +kernel
theorem dX3_readPolynomial_1 : decode cX3_readPolynomial 1 = .ok (.iconst 0, 1) := by decide +kernel
theorem dX3_readPolynomial_2 : decode cX3_readPolynomial 2 = .ok (.putfield 52, 3) := by decide +kernel
theorem dX3_readPolynomial_5 : decode cX3_readPolynomial 5 = .ok (.iconst 0, 1) := by decide +kernel
theorem dX3_readPolynomial_6 : decode cX3_readPolynomial 6 = .ok (.istore_n 1, 1) := by decide +kernel
theorem dX3_readPolynomial_7 : decode cX3_readPolynomial 7 = .ok (.iload_n 1, 1) := by decide +kernel
theorem dX3_readPolynomial_8 : decode cX3_readPolynomial 8 = .ok (.bipush 7, 2) := by decide +kernel
theorem dX3_readPolynomial_10 : decode cX3_readPolynomial 10 = .ok (.if_icmp .ge 16, 3) := by decide +kernel
theorem dX3_readPolynomial_13 : decode cX3_readPolynomial 13 = .ok (.aload_n 0, 1) := by decide +kernel
theorem dX3_readPolynomial_14 : decode cX3_readPolynomial 14 = .ok (.getfield 43, 3) := by decide +kernel
theorem dX3_readPolynomial_17 : decode cX3_readPolynomial 17 = .ok (.iload_n 1, 1) := by decide +kernel
theorem dX3_readPolynomial_18 : decode cX3_readPolynomial 18 = .ok (.lconst 0, 1) := by decide +kernel
theorem dX3_readPolynomial_19 : decode cX3_readPolynomial 19 = .ok (.lastore, 1) := by decide +kernel
theorem dX3_readPolynomial_20 : decode cX3_readPolynomial 20 = .ok (.iinc 1 1, 3) := by decide +kernel
theorem dX3_readPolynomial_23 : decode cX3_readPolynomial 23 = .ok (.goto (-16), 3) := by decide +kernel
theorem dX3_readPolynomial_26 : decode cX3_readPolynomial 26 = .ok (.aload_n 0, 1) := by decide +kernel
theorem dX3_readPolynomial_27 : decode cX3_readPolynomial 27 = .ok (.bipush 45, 2) := by decide +kernel
theorem dX3_readPolynomial_29 : decode cX3_readPolynomial 29 = .ok (.invokevirtual 69, 3) := by decide +kernel
theorem dX3_readPolynomial_32 : decode cX3_readPolynomial 32 = .ok (.istore_n 1, 1) := by decide +kernel
theorem dX3_readPolynomial_33 : decode cX3_readPolynomial 33 = .ok (.iload_n 1, 1) := by decide +kernel
theorem dX3_readPolynomial_34 : decode cX3_readPolynomial 34 = .ok (.ifCond .ne 10, 3) := by decide +kernel
theorem dX3_readPolynomial_37 : decode cX3_readPolynomial 37 = .ok (.aload_n 0, 1) := by decide +kernel
theorem dX3_readPolynomial_38 : decode cX3_readPolynomial 38 = .ok (.bipush 43, 2) := by decide +kernel
theorem dX3_readPolynomial_40 : decode cX3_readPolynomial 40 = .ok (.invokevirtual 69, 3) := by decide +kernel
theorem dX3_readPolynomial_43 : decode cX3_readPolynomial 43 = .ok (.pop, 1) := by decide +kernel
theorem dX3_readPolynomial_44 : decode cX3_readPolynomial 44 = .ok (.aload_n 0, 1) := by decide +kernel
theorem dX3_readPolynomial_45 : decode cX3_readPolynomial 45 = .ok (.iload_n 1, 1) := by decide +kernel
theorem dX3_readPolynomial_46 : decode cX3_readPolynomial 46 = .ok (.ifCond .eq 9, 3) := by decide +kernel
theorem dX3_readPolynomial_49 : decode cX3_readPolynomial 49 = .ok (.ldc2_w 73, 3) := by decide +kernel
theorem dX3_readPolynomial_52 : decode cX3_readPolynomial 52 = .ok (.goto 4, 3) := by decide +kernel
theorem dX3_readPolynomial_55 : decode cX3_readPolynomial 55 = .ok (.lconst 1, 1) := by decide +kernel
theorem dX3_readPolynomial_56 : decode cX3_readPolynomial 56 = .ok (.invokevirtual 75, 3) := by decide +kernel
theorem dX3_readPolynomial_59 : decode cX3_readPolynomial 59 = .ok (.istore_n 2, 1) := by decide +kernel
theorem dX3_readPolynomial_60 : decode cX3_readPolynomial 60 = .ok (.iload_n 2, 1) := by decide +kernel
theorem dX3_readPolynomial_61 : decode cX3_readPolynomial 61 = .ok (.ifCond .eq 84, 3) := by decide +kernel
theorem dX3_readPolynomial_64 : decode cX3_readPolynomial 64 = .ok (.aload_n 0, 1) := by decide +kernel
theorem dX3_readPolynomial_65 : decode cX3_readPolynomial 65 = .ok (.getfield 52, 3) := by decide +kernel
theorem dX3_readPolynomial_68 : decode cX3_readPolynomial 68 = .ok (.aload_n 0, 1) := by decide +kernel
theorem dX3_readPolynomial_69 : decode cX3_readPolynomial 69 = .ok (.getfield 49, 3) := by decide +kernel
theorem dX3_readPolynomial_72 : decode cX3_readPolynomial 72 = .ok (.if_icmp .ge 73, 3) := by decide +kernel
theorem dX3_readPolynomial_75 : decode cX3_readPolynomial 75 = .ok (.aload_n 0, 1) := by decide +kernel
theorem dX3_readPolynomial_76 : decode cX3_readPolynomial 76 = .ok (.invokevirtual 55, 3) := by decide +kernel
theorem dX3_readPolynomial_79 : decode cX3_readPolynomial 79 = .ok (.bipush 45, 2) := by decide +kernel
theorem dX3_readPolynomial_81 : decode cX3_readPolynomial 81 = .ok (.if_icmp .ne 7, 3) := by decide +kernel
theorem dX3_readPolynomial_84 : decode cX3_readPolynomial 84 = .ok (.iconst 1, 1) := by decide +kernel
theorem dX3_readPolynomial_85 : decode cX3_readPolynomial 85 = .ok (.goto 4, 3) := by decide +kernel
theorem dX3_readPolynomial_88 : decode cX3_readPolynomial 88 = .ok (.iconst 0, 1) := by decide +kernel
theorem dX3_readPolynomial_89 : decode cX3_readPolynomial 89 = .ok (.istore_n 1, 1) := by decide +kernel
theorem dX3_readPolynomial_90 : decode cX3_readPolynomial 90 = .ok (.aload_n 0, 1) := by decide +kernel
theorem dX3_readPolynomial_91 : decode cX3_readPolynomial 91 = .ok (.bipush 43, 2) := by decide +kernel
theorem dX3_readPolynomial_93 : decode cX3_readPolynomial 93 = .ok (.invokevirtual 69, 3) := by decide +kernel
theorem dX3_readPolynomial_96 : decode cX3_readPolynomial 96 = .ok (.ifCond .ne 12, 3) := by decide +kernel
theorem dX3_readPolynomial_99 : decode cX3_readPolynomial 99 = .ok (.aload_n 0, 1) := by decide +kernel
theorem dX3_readPolynomial_100 : decode cX3_readPolynomial 100 = .ok (.bipush 45, 2) := by decide +kernel
theorem dX3_readPolynomial_102 : decode cX3_readPolynomial 102 = .ok (.invokevirtual 69, 3) := by decide +kernel
theorem dX3_readPolynomial_105 : decode cX3_readPolynomial 105 = .ok (.ifCond .eq 7, 3) := by decide +kernel
theorem dX3_readPolynomial_108 : decode cX3_readPolynomial 108 = .ok (.iconst 1, 1) := by decide +kernel
theorem dX3_readPolynomial_109 : decode cX3_readPolynomial 109 = .ok (.goto 4, 3) := by decide +kernel
theorem dX3_readPolynomial_112 : decode cX3_readPolynomial 112 = .ok (.iconst 0, 1) := by decide +kernel
theorem dX3_readPolynomial_113 : decode cX3_readPolynomial 113 = .ok (.istore_n 2, 1) := by decide +kernel
theorem dX3_readPolynomial_114 : decode cX3_readPolynomial 114 = .ok (.iload_n 2, 1) := by decide +kernel
theorem dX3_readPolynomial_115 : decode cX3_readPolynomial 115 = .ok (.ifCond .eq 25, 3) := by decide +kernel
theorem dX3_readPolynomial_118 : decode cX3_readPolynomial 118 = .ok (.aload_n 0, 1) := by decide +kernel
theorem dX3_readPolynomial_119 : decode cX3_readPolynomial 119 = .ok (.iload_n 1, 1) := by decide +kernel
theorem dX3_readPolynomial_120 : decode cX3_readPolynomial 120 = .ok (.ifCond .eq 9, 3) := by decide +kernel
theorem dX3_readPolynomial_123 : decode cX3_readPolynomial 123 = .ok (.ldc2_w 73, 3) := by decide +kernel
theorem dX3_readPolynomial_126 : decode cX3_readPolynomial 126 = .ok (.goto 4, 3) := by decide +kernel
theorem dX3_readPolynomial_129 : decode cX3_readPolynomial 129 = .ok (.lconst 1, 1) := by decide +kernel
theorem dX3_readPolynomial_130 : decode cX3_readPolynomial 130 = .ok (.invokevirtual 75, 3) := by decide +kernel
theorem dX3_readPolynomial_133 : decode cX3_readPolynomial 133 = .ok (.ifCond .eq 7, 3) := by decide +kernel
theorem dX3_readPolynomial_136 : decode cX3_readPolynomial 136 = .ok (.iconst 1, 1) := by decide +kernel
theorem dX3_readPolynomial_137 : decode cX3_readPolynomial 137 = .ok (.goto 4, 3) := by decide +kernel
theorem dX3_readPolynomial_140 : decode cX3_readPolynomial 140 = .ok (.iconst 0, 1) := by decide +kernel
theorem dX3_readPolynomial_141 : decode cX3_readPolynomial 141 = .ok (.istore_n 2, 1) := by decide +kernel
theorem dX3_readPolynomial_142 : decode cX3_readPolynomial 142 = .ok (.goto (-82), 3) := by decide +kernel
theorem dX3_readPolynomial_145 : decode cX3_readPolynomial 145 = .ok (.iload_n 2, 1) := by decide +kernel
theorem dX3_readPolynomial_146 : decode cX3_readPolynomial 146 = .ok (.ireturn, 1) := by decide +kernel
theorem dX3_numerator_0 : decode cX3_numerator 0 = .ok (.aload_n 0, 1) := by decide +kernel
theorem dX3_numerator_1 : decode cX3_numerator 1 = .ok (.iconst 0, 1) := by decide +kernel
theorem dX3_numerator_2 : decode cX3_numerator 2 = .ok (.putfield 46, 3) := by decide +kernel
theorem dX3_numerator_5 : decode cX3_numerator 5 = .ok (.aload_n 0, 1) := by decide +kernel
theorem dX3_numerator_6 : decode cX3_numerator 6 = .ok (.invokevirtual 79, 3) := by decide +kernel
theorem dX3_numerator_9 : decode cX3_numerator 9 = .ok (.istore_n 1, 1) := by decide +kernel
theorem dX3_numerator_10 : decode cX3_numerator 10 = .ok (.aload_n 0, 1) := by decide +kernel
theorem dX3_numerator_11 : decode cX3_numerator 11 = .ok (.iconst 0, 1) := by decide +kernel
theorem dX3_numerator_12 : decode cX3_numerator 12 = .ok (.putfield 49, 3) := by decide +kernel
theorem dX3_numerator_15 : decode cX3_numerator 15 = .ok (.iload_n 1, 1) := by decide +kernel
theorem dX3_numerator_16 : decode cX3_numerator 16 = .ok (.ifCond .ne 9, 3) := by decide +kernel
theorem dX3_numerator_19 : decode cX3_numerator 19 = .ok (.aload_n 0, 1) := by decide +kernel
theorem dX3_numerator_20 : decode cX3_numerator 20 = .ok (.iconst 1, 1) := by decide +kernel
theorem dX3_numerator_21 : decode cX3_numerator 21 = .ok (.invokevirtual 82, 3) := by decide +kernel
theorem dX3_numerator_24 : decode cX3_numerator 24 = .ok (.ireturn, 1) := by decide +kernel
theorem dX3_numerator_25 : decode cX3_numerator 25 = .ok (.iconst 0, 1) := by decide +kernel
theorem dX3_numerator_26 : decode cX3_numerator 26 = .ok (.istore_n 2, 1) := by decide +kernel
theorem dX3_numerator_27 : decode cX3_numerator 27 = .ok (.iconst 0, 1) := by decide +kernel
theorem dX3_numerator_28 : decode cX3_numerator 28 = .ok (.istore_n 3, 1) := by decide +kernel
theorem dX3_numerator_29 : decode cX3_numerator 29 = .ok (.iload_n 3, 1) := by decide +kernel
theorem dX3_numerator_30 : decode cX3_numerator 30 = .ok (.bipush 7, 2) := by decide +kernel
theorem dX3_numerator_32 : decode cX3_numerator 32 = .ok (.if_icmp .ge 38, 3) := by decide +kernel
theorem dX3_numerator_35 : decode cX3_numerator 35 = .ok (.aload_n 0, 1) := by decide +kernel
theorem dX3_numerator_36 : decode cX3_numerator 36 = .ok (.getfield 13, 3) := by decide +kernel
theorem dX3_numerator_39 : decode cX3_numerator 39 = .ok (.iload_n 3, 1) := by decide +kernel
theorem dX3_numerator_40 : decode cX3_numerator 40 = .ok (.aload_n 0, 1) := by decide +kernel
theorem dX3_numerator_41 : decode cX3_numerator 41 = .ok (.getfield 43, 3) := by decide +kernel
theorem dX3_numerator_44 : decode cX3_numerator 44 = .ok (.iload_n 3, 1) := by decide +kernel
theorem dX3_numerator_45 : decode cX3_numerator 45 = .ok (.laload, 1) := by decide +kernel
theorem dX3_numerator_46 : decode cX3_numerator 46 = .ok (.lastore, 1) := by decide +kernel
theorem dX3_numerator_47 : decode cX3_numerator 47 = .ok (.aload_n 0, 1) := by decide +kernel
theorem dX3_numerator_48 : decode cX3_numerator 48 = .ok (.getfield 13, 3) := by decide +kernel
theorem dX3_numerator_51 : decode cX3_numerator 51 = .ok (.iload_n 3, 1) := by decide +kernel
theorem dX3_numerator_52 : decode cX3_numerator 52 = .ok (.laload, 1) := by decide +kernel
theorem dX3_numerator_53 : decode cX3_numerator 53 = .ok (.lconst 0, 1) := by decide +kernel
theorem dX3_numerator_54 : decode cX3_numerator 54 = .ok (.lcmp, 1) := by decide +kernel
theorem dX3_numerator_55 : decode cX3_numerator 55 = .ok (.ifCond .eq 7, 3) := by decide +kernel
theorem dX3_numerator_58 : decode cX3_numerator 58 = .ok (.iload_n 3, 1) := by decide +kernel
theorem dX3_numerator_59 : decode cX3_numerator 59 = .ok (.goto 4, 3) := by decide +kernel
theorem dX3_numerator_62 : decode cX3_numerator 62 = .ok (.iload_n 2, 1) := by decide +kernel
theorem dX3_numerator_63 : decode cX3_numerator 63 = .ok (.istore_n 2, 1) := by decide +kernel
theorem dX3_numerator_64 : decode cX3_numerator 64 = .ok (.iinc 3 1, 3) := by decide +kernel
theorem dX3_numerator_67 : decode cX3_numerator 67 = .ok (.goto (-38), 3) := by decide +kernel
theorem dX3_numerator_70 : decode cX3_numerator 70 = .ok (.iload_n 2, 1) := by decide +kernel
theorem dX3_numerator_71 : decode cX3_numerator 71 = .ok (.ireturn, 1) := by decide +kernel
theorem dX3_readFactor_0 : decode cX3_readFactor 0 = .ok (.aload_n 0, 1) := by decide +kernel
theorem dX3_readFactor_1 : decode cX3_readFactor 1 = .ok (.bipush 40, 2) := by decide +kernel
theorem dX3_readFactor_3 : decode cX3_readFactor 3 = .ok (.invokevirtual 69, 3) := by decide +kernel
theorem dX3_readFactor_6 : decode cX3_readFactor 6 = .ok (.ifCond .eq 12, 3) := by decide +kernel
theorem dX3_readFactor_9 : decode cX3_readFactor 9 = .ok (.aload_n 0, 1) := by decide +kernel
theorem dX3_readFactor_10 : decode cX3_readFactor 10 = .ok (.bipush 120, 2) := by decide +kernel
theorem dX3_readFactor_12 : decode cX3_readFactor 12 = .ok (.invokevirtual 69, 3) := by decide +kernel
theorem dX3_readFactor_15 : decode cX3_readFactor 15 = .ok (.ifCond .ne 5, 3) := by decide +kernel
theorem dX3_readFactor_18 : decode cX3_readFactor 18 = .ok (.iconst 0, 1) := by decide +kernel
theorem dX3_readFactor_19 : decode cX3_readFactor 19 = .ok (.ireturn, 1) := by decide +kernel
theorem dX3_readFactor_20 : decode cX3_readFactor 20 = .ok (.iconst 0, 1) := by decide +kernel
theorem dX3_readFactor_21 : decode cX3_readFactor 21 = .ok (.istore_n 1, 1) := by decide +kernel
theorem dX3_readFactor_22 : decode cX3_readFactor 22 = .ok (.aload_n 0, 1) := by decide +kernel
theorem dX3_readFactor_23 : decode cX3_readFactor 23 = .ok (.invokevirtual 55, 3) := by decide +kernel
theorem dX3_readFactor_26 : decode cX3_readFactor 26 = .ok (.bipush 43, 2) := by decide +kernel
theorem dX3_readFactor_28 : decode cX3_readFactor 28 = .ok (.if_icmp .ne 7, 3) := by decide +kernel
theorem dX3_readFactor_31 : decode cX3_readFactor 31 = .ok (.iconst 1, 1) := by decide +kernel
theorem dX3_readFactor_32 : decode cX3_readFactor 32 = .ok (.goto 4, 3) := by decide +kernel
theorem dX3_readFactor_35 : decode cX3_readFactor 35 = .ok (.iconst 0, 1) := by decide +kernel
theorem dX3_readFactor_36 : decode cX3_readFactor 36 = .ok (.istore_n 2, 1) := by decide +kernel
theorem dX3_readFactor_37 : decode cX3_readFactor 37 = .ok (.aload_n 0, 1) := by decide +kernel
theorem dX3_readFactor_38 : decode cX3_readFactor 38 = .ok (.bipush 43, 2) := by decide +kernel
theorem dX3_readFactor_40 : decode cX3_readFactor 40 = .ok (.invokevirtual 69, 3) := by decide +kernel
theorem dX3_readFactor_43 : decode cX3_readFactor 43 = .ok (.ifCond .ne 12, 3) := by decide +kernel
theorem dX3_readFactor_46 : decode cX3_readFactor 46 = .ok (.aload_n 0, 1) := by decide +kernel
theorem dX3_readFactor_47 : decode cX3_readFactor 47 = .ok (.bipush 45, 2) := by decide +kernel
theorem dX3_readFactor_49 : decode cX3_readFactor 49 = .ok (.invokevirtual 69, 3) := by decide +kernel
theorem dX3_readFactor_52 : decode cX3_readFactor 52 = .ok (.ifCond .eq 39, 3) := by decide +kernel
theorem dX3_readFactor_55 : decode cX3_readFactor 55 = .ok (.aload_n 0, 1) := by decide +kernel
theorem dX3_readFactor_56 : decode cX3_readFactor 56 = .ok (.invokevirtual 55, 3) := by decide +kernel
theorem dX3_readFactor_59 : decode cX3_readFactor 59 = .ok (.bipush 49, 2) := by decide +kernel
theorem dX3_readFactor_61 : decode cX3_readFactor 61 = .ok (.if_icmp .lt 12, 3) := by decide +kernel
theorem dX3_readFactor_64 : decode cX3_readFactor 64 = .ok (.aload_n 0, 1) := by decide +kernel
theorem dX3_readFactor_65 : decode cX3_readFactor 65 = .ok (.invokevirtual 55, 3) := by decide +kernel
theorem dX3_readFactor_68 : decode cX3_readFactor 68 = .ok (.bipush 51, 2) := by decide +kernel
theorem dX3_readFactor_70 : decode cX3_readFactor 70 = .ok (.if_icmp .le 5, 3) := by decide +kernel
theorem dX3_readFactor_73 : decode cX3_readFactor 73 = .ok (.iconst 0, 1) := by decide +kernel
theorem dX3_readFactor_74 : decode cX3_readFactor 74 = .ok (.ireturn, 1) := by decide +kernel
theorem dX3_readFactor_75 : decode cX3_readFactor 75 = .ok (.aload_n 0, 1) := by decide +kernel
theorem dX3_readFactor_76 : decode cX3_readFactor 76 = .ok (.invokevirtual 63, 3) := by decide +kernel
theorem dX3_readFactor_79 : decode cX3_readFactor 79 = .ok (.istore_n 1, 1) := by decide +kernel
theorem dX3_readFactor_80 : decode cX3_readFactor 80 = .ok (.iload_n 2, 1) := by decide +kernel
theorem dX3_readFactor_81 : decode cX3_readFactor 81 = .ok (.ifCond .eq 8, 3) := by decide +kernel
theorem dX3_readFactor_84 : decode cX3_readFactor 84 = .ok (.iload_n 1, 1) := by decide +kernel
theorem dX3_readFactor_85 : decode cX3_readFactor 85 = .ok (.ineg, 1) := by decide +kernel
theorem dX3_readFactor_86 : decode cX3_readFactor 86 = .ok (.goto 4, 3) := by decide +kernel
theorem dX3_readFactor_89 : decode cX3_readFactor 89 = .ok (.iload_n 1, 1) := by decide +kernel
theorem dX3_readFactor_90 : decode cX3_readFactor 90 = .ok (.istore_n 1, 1) := by decide +kernel
theorem dX3_readFactor_91 : decode cX3_readFactor 91 = .ok (.aload_n 0, 1) := by decide +kernel
theorem dX3_readFactor_92 : decode cX3_readFactor 92 = .ok (.bipush 41, 2) := by decide +kernel
theorem dX3_readFactor_94 : decode cX3_readFactor 94 = .ok (.invokevirtual 69, 3) := by decide +kernel
theorem dX3_readFactor_97 : decode cX3_readFactor 97 = .ok (.ifCond .ne 5, 3) := by decide +kernel
theorem dX3_readFactor_100 : decode cX3_readFactor 100 = .ok (.iconst 0, 1) := by decide +kernel
theorem dX3_readFactor_101 : decode cX3_readFactor 101 = .ok (.ireturn, 1) := by decide +kernel
theorem dX3_readFactor_102 : decode cX3_readFactor 102 = .ok (.iconst 1, 1) := by decide +kernel
theorem dX3_readFactor_103 : decode cX3_readFactor 103 = .ok (.istore_n 3, 1) := by decide +kernel
theorem dX3_readFactor_104 : decode cX3_readFactor 104 = .ok (.aload_n 0, 1) := by decide +kernel
theorem dX3_readFactor_105 : decode cX3_readFactor 105 = .ok (.bipush 94, 2) := by decide +kernel
theorem dX3_readFactor_107 : decode cX3_readFactor 107 = .ok (.invokevirtual 69, 3) := by decide +kernel
theorem dX3_readFactor_110 : decode cX3_readFactor 110 = .ok (.ifCond .eq 28, 3) := by decide +kernel
theorem dX3_readFactor_113 : decode cX3_readFactor 113 = .ok (.aload_n 0, 1) := by decide +kernel
theorem dX3_readFactor_114 : decode cX3_readFactor 114 = .ok (.invokevirtual 55, 3) := by decide +kernel
theorem dX3_readFactor_117 : decode cX3_readFactor 117 = .ok (.bipush 49, 2) := by decide +kernel
theorem dX3_readFactor_119 : decode cX3_readFactor 119 = .ok (.if_icmp .lt 12, 3) := by decide +kernel
theorem dX3_readFactor_122 : decode cX3_readFactor 122 = .ok (.aload_n 0, 1) := by decide +kernel
theorem dX3_readFactor_123 : decode cX3_readFactor 123 = .ok (.invokevirtual 55, 3) := by decide +kernel
theorem dX3_readFactor_126 : decode cX3_readFactor 126 = .ok (.bipush 51, 2) := by decide +kernel
theorem dX3_readFactor_128 : decode cX3_readFactor 128 = .ok (.if_icmp .le 5, 3) := by decide +kernel
theorem dX3_readFactor_131 : decode cX3_readFactor 131 = .ok (.iconst 0, 1) := by decide +kernel
theorem dX3_readFactor_132 : decode cX3_readFactor 132 = .ok (.ireturn, 1) := by decide +kernel
theorem dX3_readFactor_133 : decode cX3_readFactor 133 = .ok (.aload_n 0, 1) := by decide +kernel
theorem dX3_readFactor_134 : decode cX3_readFactor 134 = .ok (.invokevirtual 63, 3) := by decide +kernel
theorem dX3_readFactor_137 : decode cX3_readFactor 137 = .ok (.istore_n 3, 1) := by decide +kernel
theorem dX3_readFactor_138 : decode cX3_readFactor 138 = .ok (.aload_n 0, 1) := by decide +kernel
theorem dX3_readFactor_139 : decode cX3_readFactor 139 = .ok (.getfield 31, 3) := by decide +kernel
theorem dX3_readFactor_142 : decode cX3_readFactor 142 = .ok (.iload_n 1, 1) := by decide +kernel
theorem dX3_readFactor_143 : decode cX3_readFactor 143 = .ok (.iconst 3, 1) := by decide +kernel
theorem dX3_readFactor_144 : decode cX3_readFactor 144 = .ok (.iadd, 1) := by decide +kernel
theorem dX3_readFactor_145 : decode cX3_readFactor 145 = .ok (.aload_n 0, 1) := by decide +kernel
theorem dX3_readFactor_146 : decode cX3_readFactor 146 = .ok (.getfield 31, 3) := by decide +kernel
theorem dX3_readFactor_149 : decode cX3_readFactor 149 = .ok (.iload_n 1, 1) := by decide +kernel
theorem dX3_readFactor_150 : decode cX3_readFactor 150 = .ok (.iconst 3, 1) := by decide +kernel
theorem dX3_readFactor_151 : decode cX3_readFactor 151 = .ok (.iadd, 1) := by decide +kernel
theorem dX3_readFactor_152 : decode cX3_readFactor 152 = .ok (.iaload, 1) := by decide +kernel
theorem dX3_readFactor_153 : decode cX3_readFactor 153 = .ok (.iload_n 3, 1) := by decide +kernel
theorem dX3_readFactor_154 : decode cX3_readFactor 154 = .ok (.iadd, 1) := by decide +kernel
theorem dX3_readFactor_155 : decode cX3_readFactor 155 = .ok (.iastore, 1) := by decide +kernel
theorem dX3_readFactor_156 : decode cX3_readFactor 156 = .ok (.iconst 1, 1) := by decide +kernel
theorem dX3_readFactor_157 : decode cX3_readFactor 157 = .ok (.ireturn, 1) := by decide +kernel
theorem dX3_denominator_0 : decode cX3_denominator 0 = .ok (.aload_n 0, 1) := by decide +kernel
theorem dX3_denominator_1 : decode cX3_denominator 1 = .ok (.iconst 0, 1) := by decide +kernel
theorem dX3_denominator_2 : decode cX3_denominator 2 = .ok (.putfield 46, 3) := by decide +kernel
theorem dX3_denominator_5 : decode cX3_denominator 5 = .ok (.aload_n 0, 1) := by decide +kernel
theorem dX3_denominator_6 : decode cX3_denominator 6 = .ok (.iconst 0, 1) := by decide +kernel
theorem dX3_denominator_7 : decode cX3_denominator 7 = .ok (.putfield 52, 3) := by decide +kernel
theorem dX3_denominator_10 : decode cX3_denominator 10 = .ok (.iconst 0, 1) := by decide +kernel
theorem dX3_denominator_11 : decode cX3_denominator 11 = .ok (.istore_n 1, 1) := by decide +kernel
theorem dX3_denominator_12 : decode cX3_denominator 12 = .ok (.iload_n 1, 1) := by decide +kernel
theorem dX3_denominator_13 : decode cX3_denominator 13 = .ok (.bipush 7, 2) := by decide +kernel
theorem dX3_denominator_15 : decode cX3_denominator 15 = .ok (.if_icmp .ge 16, 3) := by decide +kernel
theorem dX3_denominator_18 : decode cX3_denominator 18 = .ok (.aload_n 0, 1) := by decide +kernel
theorem dX3_denominator_19 : decode cX3_denominator 19 = .ok (.getfield 31, 3) := by decide +kernel
theorem dX3_denominator_22 : decode cX3_denominator 22 = .ok (.iload_n 1, 1) := by decide +kernel
theorem dX3_denominator_23 : decode cX3_denominator 23 = .ok (.iconst 0, 1) := by decide +kernel
theorem dX3_denominator_24 : decode cX3_denominator 24 = .ok (.iastore, 1) := by decide +kernel
theorem dX3_denominator_25 : decode cX3_denominator 25 = .ok (.iinc 1 1, 3) := by decide +kernel
theorem dX3_denominator_28 : decode cX3_denominator 28 = .ok (.goto (-16), 3) := by decide +kernel
theorem dX3_denominator_31 : decode cX3_denominator 31 = .ok (.aload_n 0, 1) := by decide +kernel
theorem dX3_denominator_32 : decode cX3_denominator 32 = .ok (.invokevirtual 86, 3) := by decide +kernel
theorem dX3_denominator_35 : decode cX3_denominator 35 = .ok (.istore_n 1, 1) := by decide +kernel
theorem dX3_denominator_36 : decode cX3_denominator 36 = .ok (.iload_n 1, 1) := by decide +kernel
theorem dX3_denominator_37 : decode cX3_denominator 37 = .ok (.ifCond .eq 22, 3) := by decide +kernel
theorem dX3_denominator_40 : decode cX3_denominator 40 = .ok (.aload_n 0, 1) := by decide +kernel
theorem dX3_denominator_41 : decode cX3_denominator 41 = .ok (.getfield 52, 3) := by decide +kernel
theorem dX3_denominator_44 : decode cX3_denominator 44 = .ok (.aload_n 0, 1) := by decide +kernel
theorem dX3_denominator_45 : decode cX3_denominator 45 = .ok (.getfield 49, 3) := by decide +kernel
theorem dX3_denominator_48 : decode cX3_denominator 48 = .ok (.if_icmp .ge 11, 3) := by decide +kernel
theorem dX3_denominator_51 : decode cX3_denominator 51 = .ok (.aload_n 0, 1) := by decide +kernel
theorem dX3_denominator_52 : decode cX3_denominator 52 = .ok (.invokevirtual 86, 3) := by decide +kernel
theorem dX3_denominator_55 : decode cX3_denominator 55 = .ok (.istore_n 1, 1) := by decide +kernel
theorem dX3_denominator_56 : decode cX3_denominator 56 = .ok (.goto (-20), 3) := by decide +kernel
theorem dX3_denominator_59 : decode cX3_denominator 59 = .ok (.aload_n 0, 1) := by decide +kernel
theorem dX3_denominator_60 : decode cX3_denominator 60 = .ok (.iconst 0, 1) := by decide +kernel
theorem dX3_denominator_61 : decode cX3_denominator 61 = .ok (.putfield 49, 3) := by decide +kernel
theorem dX3_denominator_64 : decode cX3_denominator 64 = .ok (.iload_n 1, 1) := by decide +kernel
theorem dX3_denominator_65 : decode cX3_denominator 65 = .ok (.ifCond .ne 9, 3) := by decide +kernel
theorem dX3_denominator_68 : decode cX3_denominator 68 = .ok (.aload_n 0, 1) := by decide +kernel
theorem dX3_denominator_69 : decode cX3_denominator 69 = .ok (.iconst 1, 1) := by decide +kernel
theorem dX3_denominator_70 : decode cX3_denominator 70 = .ok (.invokevirtual 82, 3) := by decide +kernel
theorem dX3_denominator_73 : decode cX3_denominator 73 = .ok (.ireturn, 1) := by decide +kernel
theorem dX3_denominator_74 : decode cX3_denominator 74 = .ok (.iconst 0, 1) := by decide +kernel
theorem dX3_denominator_75 : decode cX3_denominator 75 = .ok (.istore_n 2, 1) := by decide +kernel
theorem dX3_denominator_76 : decode cX3_denominator 76 = .ok (.iconst 0, 1) := by decide +kernel
theorem dX3_denominator_77 : decode cX3_denominator 77 = .ok (.istore_n 3, 1) := by decide +kernel
theorem dX3_denominator_78 : decode cX3_denominator 78 = .ok (.iload_n 3, 1) := by decide +kernel
theorem dX3_denominator_79 : decode cX3_denominator 79 = .ok (.bipush 7, 2) := by decide +kernel
theorem dX3_denominator_81 : decode cX3_denominator 81 = .ok (.if_icmp .ge 18, 3) := by decide +kernel
theorem dX3_denominator_84 : decode cX3_denominator 84 = .ok (.iload_n 2, 1) := by decide +kernel
theorem dX3_denominator_85 : decode cX3_denominator 85 = .ok (.aload_n 0, 1) := by decide +kernel
theorem dX3_denominator_86 : decode cX3_denominator 86 = .ok (.getfield 31, 3) := by decide +kernel
theorem dX3_denominator_89 : decode cX3_denominator 89 = .ok (.iload_n 3, 1) := by decide +kernel
theorem dX3_denominator_90 : decode cX3_denominator 90 = .ok (.iaload, 1) := by decide +kernel
theorem dX3_denominator_91 : decode cX3_denominator 91 = .ok (.iadd, 1) := by decide +kernel
theorem dX3_denominator_92 : decode cX3_denominator 92 = .ok (.istore_n 2, 1) := by decide +kernel
theorem dX3_denominator_93 : decode cX3_denominator 93 = .ok (.iinc 3 1, 3) := by decide +kernel
theorem dX3_denominator_96 : decode cX3_denominator 96 = .ok (.goto (-18), 3) := by decide +kernel
theorem dX3_denominator_99 : decode cX3_denominator 99 = .ok (.iload_n 2, 1) := by decide +kernel
theorem dX3_denominator_100 : decode cX3_denominator 100 = .ok (.iconst 5, 1) := by decide +kernel
theorem dX3_denominator_101 : decode cX3_denominator 101 = .ok (.if_icmp .le 9, 3) := by decide +kernel
theorem dX3_denominator_104 : decode cX3_denominator 104 = .ok (.aload_n 0, 1) := by decide +kernel
theorem dX3_denominator_105 : decode cX3_denominator 105 = .ok (.iconst 2, 1) := by decide +kernel
theorem dX3_denominator_106 : decode cX3_denominator 106 = .ok (.invokevirtual 82, 3) := by decide +kernel
theorem dX3_denominator_109 : decode cX3_denominator 109 = .ok (.ireturn, 1) := by decide +kernel
theorem dX3_denominator_110 : decode cX3_denominator 110 = .ok (.aload_n 0, 1) := by decide +kernel
theorem dX3_denominator_111 : decode cX3_denominator 111 = .ok (.iload_n 2, 1) := by decide +kernel
theorem dX3_denominator_112 : decode cX3_denominator 112 = .ok (.putfield 23, 3) := by decide +kernel
theorem dX3_denominator_115 : decode cX3_denominator 115 = .ok (.iconst 0, 1) := by decide +kernel
theorem dX3_denominator_116 : decode cX3_denominator 116 = .ok (.istore_n 3, 1) := by decide +kernel
theorem dX3_denominator_117 : decode cX3_denominator 117 = .ok (.iload_n 3, 1) := by decide +kernel
theorem dX3_denominator_118 : decode cX3_denominator 118 = .ok (.bipush 6, 2) := by decide +kernel
theorem dX3_denominator_120 : decode cX3_denominator 120 = .ok (.if_icmp .ge 24, 3) := by decide +kernel
theorem dX3_denominator_123 : decode cX3_denominator 123 = .ok (.aload_n 0, 1) := by decide +kernel
theorem dX3_denominator_124 : decode cX3_denominator 124 = .ok (.getfield 17, 3) := by decide +kernel
theorem dX3_denominator_127 : decode cX3_denominator 127 = .ok (.iload_n 3, 1) := by decide +kernel
theorem dX3_denominator_128 : decode cX3_denominator 128 = .ok (.iload_n 3, 1) := by decide +kernel
theorem dX3_denominator_129 : decode cX3_denominator 129 = .ok (.ifCond .ne 7, 3) := by decide +kernel
theorem dX3_denominator_132 : decode cX3_denominator 132 = .ok (.lconst 1, 1) := by decide +kernel
theorem dX3_denominator_133 : decode cX3_denominator 133 = .ok (.goto 4, 3) := by decide +kernel
theorem dX3_denominator_136 : decode cX3_denominator 136 = .ok (.lconst 0, 1) := by decide +kernel
theorem dX3_denominator_137 : decode cX3_denominator 137 = .ok (.lastore, 1) := by decide +kernel
theorem dX3_denominator_138 : decode cX3_denominator 138 = .ok (.iinc 3 1, 3) := by decide +kernel
theorem dX3_denominator_141 : decode cX3_denominator 141 = .ok (.goto (-24), 3) := by decide +kernel
theorem dX3_denominator_144 : decode cX3_denominator 144 = .ok (.bipush (-3), 2) := by decide +kernel
theorem dX3_denominator_146 : decode cX3_denominator 146 = .ok (.istore_n 3, 1) := by decide +kernel
theorem dX3_denominator_147 : decode cX3_denominator 147 = .ok (.iload_n 3, 1) := by decide +kernel
theorem dX3_denominator_148 : decode cX3_denominator 148 = .ok (.iconst 4, 1) := by decide +kernel
theorem dX3_denominator_149 : decode cX3_denominator 149 = .ok (.if_icmp .ge 55, 3) := by decide +kernel
theorem dX3_denominator_152 : decode cX3_denominator 152 = .ok (.aload_n 0, 1) := by decide +kernel
theorem dX3_denominator_153 : decode cX3_denominator 153 = .ok (.getfield 27, 3) := by decide +kernel
theorem dX3_denominator_156 : decode cX3_denominator 156 = .ok (.iload_n 3, 1) := by decide +kernel
theorem dX3_denominator_157 : decode cX3_denominator 157 = .ok (.iconst 3, 1) := by decide +kernel
theorem dX3_denominator_158 : decode cX3_denominator 158 = .ok (.iadd, 1) := by decide +kernel
theorem dX3_denominator_159 : decode cX3_denominator 159 = .ok (.aload_n 0, 1) := by decide +kernel
theorem dX3_denominator_160 : decode cX3_denominator 160 = .ok (.getfield 31, 3) := by decide +kernel
theorem dX3_denominator_163 : decode cX3_denominator 163 = .ok (.iload_n 3, 1) := by decide +kernel
theorem dX3_denominator_164 : decode cX3_denominator 164 = .ok (.iconst 3, 1) := by decide +kernel
theorem dX3_denominator_165 : decode cX3_denominator 165 = .ok (.iadd, 1) := by decide +kernel
theorem dX3_denominator_166 : decode cX3_denominator 166 = .ok (.iaload, 1) := by decide +kernel
theorem dX3_denominator_167 : decode cX3_denominator 167 = .ok (.iastore, 1) := by decide +kernel
theorem dX3_denominator_168 : decode cX3_denominator 168 = .ok (.iconst 0, 1) := by decide +kernel
theorem dX3_denominator_169 : decode cX3_denominator 169 = .ok (.istore 4, 2) := by decide +kernel
theorem dX3_denominator_171 : decode cX3_denominator 171 = .ok (.iload 4, 2) := by decide +kernel
theorem dX3_denominator_173 : decode cX3_denominator 173 = .ok (.aload_n 0, 1) := by decide +kernel
theorem dX3_denominator_174 : decode cX3_denominator 174 = .ok (.getfield 31, 3) := by decide +kernel
theorem dX3_denominator_177 : decode cX3_denominator 177 = .ok (.iload_n 3, 1) := by decide +kernel
theorem dX3_denominator_178 : decode cX3_denominator 178 = .ok (.iconst 3, 1) := by decide +kernel
theorem dX3_denominator_179 : decode cX3_denominator 179 = .ok (.iadd, 1) := by decide +kernel
theorem dX3_denominator_180 : decode cX3_denominator 180 = .ok (.iaload, 1) := by decide +kernel
theorem dX3_denominator_181 : decode cX3_denominator 181 = .ok (.if_icmp .ge 17, 3) := by decide +kernel
theorem dX3_denominator_184 : decode cX3_denominator 184 = .ok (.aload_n 0, 1) := by decide +kernel
theorem dX3_denominator_185 : decode cX3_denominator 185 = .ok (.getfield 17, 3) := by decide +kernel
theorem dX3_denominator_188 : decode cX3_denominator 188 = .ok (.iload_n 3, 1) := by decide +kernel
theorem dX3_denominator_189 : decode cX3_denominator 189 = .ok (.invokestatic 89, 3) := by decide +kernel
theorem dX3_denominator_192 : decode cX3_denominator 192 = .ok (.iinc 4 1, 3) := by decide +kernel
theorem dX3_denominator_195 : decode cX3_denominator 195 = .ok (.goto (-24), 3) := by decide +kernel
theorem dX3_denominator_198 : decode cX3_denominator 198 = .ok (.iinc 3 1, 3) := by decide +kernel
theorem dX3_denominator_201 : decode cX3_denominator 201 = .ok (.goto (-54), 3) := by decide +kernel
theorem dX3_denominator_204 : decode cX3_denominator 204 = .ok (.iload_n 2, 1) := by decide +kernel
theorem dX3_denominator_205 : decode cX3_denominator 205 = .ok (.ireturn, 1) := by decide +kernel
theorem dX3_times_0 : decode cX3_times 0 = .ok (.iconst 5, 1) := by decide +kernel
theorem dX3_times_1 : decode cX3_times 1 = .ok (.istore_n 2, 1) := by decide +kernel
theorem dX3_times_2 : decode cX3_times 2 = .ok (.iload_n 2, 1) := by decide +kernel
theorem dX3_times_3 : decode cX3_times 3 = .ok (.ifCond .le 24, 3) := by decide +kernel
theorem dX3_times_6 : decode cX3_times 6 = .ok (.aload_n 0, 1) := by decide +kernel
theorem dX3_times_7 : decode cX3_times 7 = .ok (.iload_n 2, 1) := by decide +kernel
theorem dX3_times_8 : decode cX3_times 8 = .ok (.aload_n 0, 1) := by decide +kernel
theorem dX3_times_9 : decode cX3_times 9 = .ok (.iload_n 2, 1) := by decide +kernel
theorem dX3_times_10 : decode cX3_times 10 = .ok (.iconst 1, 1) := by decide +kernel
theorem dX3_times_11 : decode cX3_times 11 = .ok (.isub, 1) := by decide +kernel
theorem dX3_times_12 : decode cX3_times 12 = .ok (.laload, 1) := by decide +kernel
theorem dX3_times_13 : decode cX3_times 13 = .ok (.iload_n 1, 1) := by decide +kernel
theorem dX3_times_14 : decode cX3_times 14 = .ok (.i2l, 1) := by decide +kernel
theorem dX3_times_15 : decode cX3_times 15 = .ok (.aload_n 0, 1) := by decide +kernel
theorem dX3_times_16 : decode cX3_times 16 = .ok (.iload_n 2, 1) := by decide +kernel
theorem dX3_times_17 : decode cX3_times 17 = .ok (.laload, 1) := by decide +kernel
theorem dX3_times_18 : decode cX3_times 18 = .ok (.lmul, 1) := by decide +kernel
theorem dX3_times_19 : decode cX3_times 19 = .ok (.lsub, 1) := by decide +kernel
theorem dX3_times_20 : decode cX3_times 20 = .ok (.lastore, 1) := by decide +kernel
theorem dX3_times_21 : decode cX3_times 21 = .ok (.iinc 2 (-1), 3) := by decide +kernel
theorem dX3_times_24 : decode cX3_times 24 = .ok (.goto (-22), 3) := by decide +kernel
theorem dX3_times_27 : decode cX3_times 27 = .ok (.aload_n 0, 1) := by decide +kernel
theorem dX3_times_28 : decode cX3_times 28 = .ok (.iconst 0, 1) := by decide +kernel
theorem dX3_times_29 : decode cX3_times 29 = .ok (.iload_n 1, 1) := by decide +kernel
theorem dX3_times_30 : decode cX3_times 30 = .ok (.ineg, 1) := by decide +kernel
theorem dX3_times_31 : decode cX3_times 31 = .ok (.i2l, 1) := by decide +kernel
theorem dX3_times_32 : decode cX3_times 32 = .ok (.aload_n 0, 1) := by decide +kernel
theorem dX3_times_33 : decode cX3_times 33 = .ok (.iconst 0, 1) := by decide +kernel
theorem dX3_times_34 : decode cX3_times 34 = .ok (.laload, 1) := by decide +kernel
theorem dX3_times_35 : decode cX3_times 35 = .ok (.lmul, 1) := by decide +kernel
theorem dX3_times_36 : decode cX3_times 36 = .ok (.lastore, 1) := by decide +kernel
theorem dX3_times_37 : decode cX3_times 37 = .ok (.return_, 1) := by decide +kernel
theorem dX3_divide_0 : decode cX3_divide 0 = .ok (.iconst 0, 1) := by decide +kernel
theorem dX3_divide_1 : decode cX3_divide 1 = .ok (.istore_n 1, 1) := by decide +kernel
theorem dX3_divide_2 : decode cX3_divide 2 = .ok (.iload_n 1, 1) := by decide +kernel
theorem dX3_divide_3 : decode cX3_divide 3 = .ok (.bipush 7, 2) := by decide +kernel
theorem dX3_divide_5 : decode cX3_divide 5 = .ok (.if_icmp .ge 28, 3) := by decide +kernel
theorem dX3_divide_8 : decode cX3_divide 8 = .ok (.aload_n 0, 1) := by decide +kernel
theorem dX3_divide_9 : decode cX3_divide 9 = .ok (.getfield 34, 3) := by decide +kernel
theorem dX3_divide_12 : decode cX3_divide 12 = .ok (.iload_n 1, 1) := by decide +kernel
theorem dX3_divide_13 : decode cX3_divide 13 = .ok (.aload_n 0, 1) := by decide +kernel
theorem dX3_divide_14 : decode cX3_divide 14 = .ok (.getfield 13, 3) := by decide +kernel
theorem dX3_divide_17 : decode cX3_divide 17 = .ok (.iload_n 1, 1) := by decide +kernel
theorem dX3_divide_18 : decode cX3_divide 18 = .ok (.laload, 1) := by decide +kernel
theorem dX3_divide_19 : decode cX3_divide 19 = .ok (.lastore, 1) := by decide +kernel
theorem dX3_divide_20 : decode cX3_divide 20 = .ok (.aload_n 0, 1) := by decide +kernel
theorem dX3_divide_21 : decode cX3_divide 21 = .ok (.getfield 20, 3) := by decide +kernel
theorem dX3_divide_24 : decode cX3_divide 24 = .ok (.iload_n 1, 1) := by decide +kernel
theorem dX3_divide_25 : decode cX3_divide 25 = .ok (.lconst 0, 1) := by decide +kernel
theorem dX3_divide_26 : decode cX3_divide 26 = .ok (.lastore, 1) := by decide +kernel
theorem dX3_divide_27 : decode cX3_divide 27 = .ok (.iinc 1 1, 3) := by decide +kernel
theorem dX3_divide_30 : decode cX3_divide 30 = .ok (.goto (-28), 3) := by decide +kernel
theorem dX3_divide_33 : decode cX3_divide 33 = .ok (.bipush 6, 2) := by decide +kernel
theorem dX3_divide_35 : decode cX3_divide 35 = .ok (.istore_n 1, 1) := by decide +kernel
theorem dX3_divide_36 : decode cX3_divide 36 = .ok (.iload_n 1, 1) := by decide +kernel
theorem dX3_divide_37 : decode cX3_divide 37 = .ok (.aload_n 0, 1) := by decide +kernel
theorem dX3_divide_38 : decode cX3_divide 38 = .ok (.getfield 23, 3) := by decide +kernel
theorem dX3_divide_41 : decode cX3_divide 41 = .ok (.if_icmp .lt 84, 3) := by decide +kernel
theorem dX3_divide_44 : decode cX3_divide 44 = .ok (.aload_n 0, 1) := by decide +kernel
theorem dX3_divide_45 : decode cX3_divide 45 = .ok (.getfield 34, 3) := by decide +kernel
theorem dX3_divide_48 : decode cX3_divide 48 = .ok (.iload_n 1, 1) := by decide +kernel
theorem dX3_divide_49 : decode cX3_divide 49 = .ok (.laload, 1) := by decide +kernel
theorem dX3_divide_50 : decode cX3_divide 50 = .ok (.lstore_n 2, 1) := by decide +kernel
theorem dX3_divide_51 : decode cX3_divide 51 = .ok (.aload_n 0, 1) := by decide +kernel
theorem dX3_divide_52 : decode cX3_divide 52 = .ok (.getfield 20, 3) := by decide +kernel
theorem dX3_divide_55 : decode cX3_divide 55 = .ok (.iload_n 1, 1) := by decide +kernel
theorem dX3_divide_56 : decode cX3_divide 56 = .ok (.aload_n 0, 1) := by decide +kernel
theorem dX3_divide_57 : decode cX3_divide 57 = .ok (.getfield 23, 3) := by decide +kernel
theorem dX3_divide_60 : decode cX3_divide 60 = .ok (.isub, 1) := by decide +kernel
theorem dX3_divide_61 : decode cX3_divide 61 = .ok (.lload_n 2, 1) := by decide +kernel
theorem dX3_divide_62 : decode cX3_divide 62 = .ok (.lastore, 1) := by decide +kernel
theorem dX3_divide_63 : decode cX3_divide 63 = .ok (.iconst 0, 1) := by decide +kernel
theorem dX3_divide_64 : decode cX3_divide 64 = .ok (.istore 4, 2) := by decide +kernel
theorem dX3_divide_66 : decode cX3_divide 66 = .ok (.iload 4, 2) := by decide +kernel
theorem dX3_divide_68 : decode cX3_divide 68 = .ok (.aload_n 0, 1) := by decide +kernel
theorem dX3_divide_69 : decode cX3_divide 69 = .ok (.getfield 23, 3) := by decide +kernel
theorem dX3_divide_72 : decode cX3_divide 72 = .ok (.if_icmp .gt 47, 3) := by decide +kernel
theorem dX3_divide_75 : decode cX3_divide 75 = .ok (.aload_n 0, 1) := by decide +kernel
theorem dX3_divide_76 : decode cX3_divide 76 = .ok (.getfield 34, 3) := by decide +kernel
theorem dX3_divide_79 : decode cX3_divide 79 = .ok (.iload_n 1, 1) := by decide +kernel
theorem dX3_divide_80 : decode cX3_divide 80 = .ok (.aload_n 0, 1) := by decide +kernel
theorem dX3_divide_81 : decode cX3_divide 81 = .ok (.getfield 23, 3) := by decide +kernel
theorem dX3_divide_84 : decode cX3_divide 84 = .ok (.isub, 1) := by decide +kernel
theorem dX3_divide_85 : decode cX3_divide 85 = .ok (.iload 4, 2) := by decide +kernel
theorem dX3_divide_87 : decode cX3_divide 87 = .ok (.iadd, 1) := by decide +kernel
theorem dX3_divide_88 : decode cX3_divide 88 = .ok (.aload_n 0, 1) := by decide +kernel
theorem dX3_divide_89 : decode cX3_divide 89 = .ok (.getfield 34, 3) := by decide +kernel
theorem dX3_divide_92 : decode cX3_divide 92 = .ok (.iload_n 1, 1) := by decide +kernel
theorem dX3_divide_93 : decode cX3_divide 93 = .ok (.aload_n 0, 1) := by decide +kernel
theorem dX3_divide_94 : decode cX3_divide 94 = .ok (.getfield 23, 3) := by decide +kernel
theorem dX3_divide_97 : decode cX3_divide 97 = .ok (.isub, 1) := by decide +kernel
theorem dX3_divide_98 : decode cX3_divide 98 = .ok (.iload 4, 2) := by decide +kernel
theorem dX3_divide_100 : decode cX3_divide 100 = .ok (.iadd, 1) := by decide +kernel
theorem dX3_divide_101 : decode cX3_divide 101 = .ok (.laload, 1) := by decide +kernel
theorem dX3_divide_102 : decode cX3_divide 102 = .ok (.lload_n 2, 1) := by decide +kernel
theorem dX3_divide_103 : decode cX3_divide 103 = .ok (.aload_n 0, 1) := by decide +kernel
theorem dX3_divide_104 : decode cX3_divide 104 = .ok (.getfield 17, 3) := by decide +kernel
theorem dX3_divide_107 : decode cX3_divide 107 = .ok (.iload 4, 2) := by decide +kernel
theorem dX3_divide_109 : decode cX3_divide 109 = .ok (.laload, 1) := by decide +kernel
theorem dX3_divide_110 : decode cX3_divide 110 = .ok (.lmul, 1) := by decide +kernel
theorem dX3_divide_111 : decode cX3_divide 111 = .ok (.lsub, 1) := by decide +kernel
theorem dX3_divide_112 : decode cX3_divide 112 = .ok (.lastore, 1) := by decide +kernel
theorem dX3_divide_113 : decode cX3_divide 113 = .ok (.iinc 4 1, 3) := by decide +kernel
theorem dX3_divide_116 : decode cX3_divide 116 = .ok (.goto (-50), 3) := by decide +kernel
theorem dX3_divide_119 : decode cX3_divide 119 = .ok (.iinc 1 (-1), 3) := by decide +kernel
theorem dX3_divide_122 : decode cX3_divide 122 = .ok (.goto (-86), 3) := by decide +kernel
theorem dX3_divide_125 : decode cX3_divide 125 = .ok (.return_, 1) := by decide +kernel
theorem dX3_coefficient_0 : decode cX3_coefficient 0 = .ok (.aload_n 0, 1) := by decide +kernel
theorem dX3_coefficient_1 : decode cX3_coefficient 1 = .ok (.iconst 0, 1) := by decide +kernel
theorem dX3_coefficient_2 : decode cX3_coefficient 2 = .ok (.putfield 46, 3) := by decide +kernel
theorem dX3_coefficient_5 : decode cX3_coefficient 5 = .ok (.iload_n 1, 1) := by decide +kernel
theorem dX3_coefficient_6 : decode cX3_coefficient 6 = .ok (.ifCond .lt 28, 3) := by decide +kernel
theorem dX3_coefficient_9 : decode cX3_coefficient 9 = .ok (.iload_n 1, 1) := by decide +kernel
theorem dX3_coefficient_10 : decode cX3_coefficient 10 = .ok (.iconst 2, 1) := by decide +kernel
theorem dX3_coefficient_11 : decode cX3_coefficient 11 = .ok (.if_icmp .gt 23, 3) := by decide +kernel
theorem dX3_coefficient_14 : decode cX3_coefficient 14 = .ok (.iload_n 2, 1) := by decide +kernel
theorem dX3_coefficient_15 : decode cX3_coefficient 15 = .ok (.ifCond .lt 19, 3) := by decide +kernel
theorem dX3_coefficient_18 : decode cX3_coefficient 18 = .ok (.iload_n 2, 1) := by decide +kernel
theorem dX3_coefficient_19 : decode cX3_coefficient 19 = .ok (.bipush 6, 2) := by decide +kernel
theorem dX3_coefficient_21 : decode cX3_coefficient 21 = .ok (.if_icmp .gt 13, 3) := by decide +kernel
theorem dX3_coefficient_24 : decode cX3_coefficient 24 = .ok (.iload_n 1, 1) := by decide +kernel
theorem dX3_coefficient_25 : decode cX3_coefficient 25 = .ok (.iconst 1, 1) := by decide +kernel
theorem dX3_coefficient_26 : decode cX3_coefficient 26 = .ok (.if_icmp .ne 10, 3) := by decide +kernel
theorem dX3_coefficient_29 : decode cX3_coefficient 29 = .ok (.iload_n 2, 1) := by decide +kernel
theorem dX3_coefficient_30 : decode cX3_coefficient 30 = .ok (.iconst 5, 1) := by decide +kernel
theorem dX3_coefficient_31 : decode cX3_coefficient 31 = .ok (.if_icmp .le 5, 3) := by decide +kernel
theorem dX3_coefficient_34 : decode cX3_coefficient 34 = .ok (.lconst 0, 1) := by decide +kernel
theorem dX3_coefficient_35 : decode cX3_coefficient 35 = .ok (.lreturn, 1) := by decide +kernel
theorem dX3_coefficient_36 : decode cX3_coefficient 36 = .ok (.aload_n 0, 1) := by decide +kernel
theorem dX3_coefficient_37 : decode cX3_coefficient 37 = .ok (.invokevirtual 93, 3) := by decide +kernel
theorem dX3_coefficient_40 : decode cX3_coefficient 40 = .ok (.iload_n 1, 1) := by decide +kernel
theorem dX3_coefficient_41 : decode cX3_coefficient 41 = .ok (.ifCond .ne 12, 3) := by decide +kernel
theorem dX3_coefficient_44 : decode cX3_coefficient 44 = .ok (.aload_n 0, 1) := by decide +kernel
theorem dX3_coefficient_45 : decode cX3_coefficient 45 = .ok (.getfield 13, 3) := by decide +kernel
theorem dX3_coefficient_48 : decode cX3_coefficient 48 = .ok (.iload_n 2, 1) := by decide +kernel
theorem dX3_coefficient_49 : decode cX3_coefficient 49 = .ok (.laload, 1) := by decide +kernel
theorem dX3_coefficient_50 : decode cX3_coefficient 50 = .ok (.goto 23, 3) := by decide +kernel
theorem dX3_coefficient_53 : decode cX3_coefficient 53 = .ok (.iload_n 1, 1) := by decide +kernel
theorem dX3_coefficient_54 : decode cX3_coefficient 54 = .ok (.iconst 1, 1) := by decide +kernel
theorem dX3_coefficient_55 : decode cX3_coefficient 55 = .ok (.if_icmp .ne 12, 3) := by decide +kernel
theorem dX3_coefficient_58 : decode cX3_coefficient 58 = .ok (.aload_n 0, 1) := by decide +kernel
theorem dX3_coefficient_59 : decode cX3_coefficient 59 = .ok (.getfield 17, 3) := by decide +kernel
theorem dX3_coefficient_62 : decode cX3_coefficient 62 = .ok (.iload_n 2, 1) := by decide +kernel
theorem dX3_coefficient_63 : decode cX3_coefficient 63 = .ok (.laload, 1) := by decide +kernel
theorem dX3_coefficient_64 : decode cX3_coefficient 64 = .ok (.goto 9, 3) := by decide +kernel
theorem dX3_coefficient_67 : decode cX3_coefficient 67 = .ok (.aload_n 0, 1) := by decide +kernel
theorem dX3_coefficient_68 : decode cX3_coefficient 68 = .ok (.getfield 20, 3) := by decide +kernel
theorem dX3_coefficient_71 : decode cX3_coefficient 71 = .ok (.iload_n 2, 1) := by decide +kernel
theorem dX3_coefficient_72 : decode cX3_coefficient 72 = .ok (.laload, 1) := by decide +kernel
theorem dX3_coefficient_73 : decode cX3_coefficient 73 = .ok (.lreturn, 1) := by decide +kernel
theorem dX3_many_0 : decode cX3_many 0 = .ok (.aload_n 0, 1) := by decide +kernel
theorem dX3_many_1 : decode cX3_many 1 = .ok (.iconst 0, 1) := by decide +kernel
theorem dX3_many_2 : decode cX3_many 2 = .ok (.putfield 46, 3) := by decide +kernel
theorem dX3_many_5 : decode cX3_many 5 = .ok (.iload_n 1, 1) := by decide +kernel
theorem dX3_many_6 : decode cX3_many 6 = .ok (.bipush (-3), 2) := by decide +kernel
theorem dX3_many_8 : decode cX3_many 8 = .ok (.if_icmp .lt 19, 3) := by decide +kernel
theorem dX3_many_11 : decode cX3_many 11 = .ok (.iload_n 1, 1) := by decide +kernel
theorem dX3_many_12 : decode cX3_many 12 = .ok (.iconst 3, 1) := by decide +kernel
theorem dX3_many_13 : decode cX3_many 13 = .ok (.if_icmp .gt 14, 3) := by decide +kernel
theorem dX3_many_16 : decode cX3_many 16 = .ok (.aload_n 0, 1) := by decide +kernel
theorem dX3_many_17 : decode cX3_many 17 = .ok (.getfield 27, 3) := by decide +kernel
theorem dX3_many_20 : decode cX3_many 20 = .ok (.iload_n 1, 1) := by decide +kernel
theorem dX3_many_21 : decode cX3_many 21 = .ok (.iconst 3, 1) := by decide +kernel
theorem dX3_many_22 : decode cX3_many 22 = .ok (.iadd, 1) := by decide +kernel
theorem dX3_many_23 : decode cX3_many 23 = .ok (.iaload, 1) := by decide +kernel
theorem dX3_many_24 : decode cX3_many 24 = .ok (.goto 4, 3) := by decide +kernel
theorem dX3_many_27 : decode cX3_many 27 = .ok (.iconst 0, 1) := by decide +kernel
theorem dX3_many_28 : decode cX3_many 28 = .ok (.ireturn, 1) := by decide +kernel
theorem dX3_around_0 : decode cX3_around 0 = .ok (.iconst 0, 1) := by decide +kernel
theorem dX3_around_1 : decode cX3_around 1 = .ok (.istore_n 2, 1) := by decide +kernel
theorem dX3_around_2 : decode cX3_around 2 = .ok (.iload_n 2, 1) := by decide +kernel
theorem dX3_around_3 : decode cX3_around 3 = .ok (.bipush 7, 2) := by decide +kernel
theorem dX3_around_5 : decode cX3_around 5 = .ok (.if_icmp .ge 21, 3) := by decide +kernel
theorem dX3_around_8 : decode cX3_around 8 = .ok (.aload_n 0, 1) := by decide +kernel
theorem dX3_around_9 : decode cX3_around 9 = .ok (.getfield 34, 3) := by decide +kernel
theorem dX3_around_12 : decode cX3_around 12 = .ok (.iload_n 2, 1) := by decide +kernel
theorem dX3_around_13 : decode cX3_around 13 = .ok (.aload_n 0, 1) := by decide +kernel
theorem dX3_around_14 : decode cX3_around 14 = .ok (.getfield 13, 3) := by decide +kernel
theorem dX3_around_17 : decode cX3_around 17 = .ok (.iload_n 2, 1) := by decide +kernel
theorem dX3_around_18 : decode cX3_around 18 = .ok (.laload, 1) := by decide +kernel
theorem dX3_around_19 : decode cX3_around 19 = .ok (.lastore, 1) := by decide +kernel
theorem dX3_around_20 : decode cX3_around 20 = .ok (.iinc 2 1, 3) := by decide +kernel
theorem dX3_around_23 : decode cX3_around 23 = .ok (.goto (-21), 3) := by decide +kernel
theorem dX3_around_26 : decode cX3_around 26 = .ok (.iconst 0, 1) := by decide +kernel
theorem dX3_around_27 : decode cX3_around 27 = .ok (.istore_n 2, 1) := by decide +kernel
theorem dX3_around_28 : decode cX3_around 28 = .ok (.iload_n 2, 1) := by decide +kernel
theorem dX3_around_29 : decode cX3_around 29 = .ok (.bipush 6, 2) := by decide +kernel
theorem dX3_around_31 : decode cX3_around 31 = .ok (.if_icmp .ge 46, 3) := by decide +kernel
theorem dX3_around_34 : decode cX3_around 34 = .ok (.iconst 5, 1) := by decide +kernel
theorem dX3_around_35 : decode cX3_around 35 = .ok (.istore_n 3, 1) := by decide +kernel
theorem dX3_around_36 : decode cX3_around 36 = .ok (.iload_n 3, 1) := by decide +kernel
theorem dX3_around_37 : decode cX3_around 37 = .ok (.iload_n 2, 1) := by decide +kernel
theorem dX3_around_38 : decode cX3_around 38 = .ok (.if_icmp .lt 33, 3) := by decide +kernel
theorem dX3_around_41 : decode cX3_around 41 = .ok (.aload_n 0, 1) := by decide +kernel
theorem dX3_around_42 : decode cX3_around 42 = .ok (.getfield 34, 3) := by decide +kernel
theorem dX3_around_45 : decode cX3_around 45 = .ok (.iload_n 3, 1) := by decide +kernel
theorem dX3_around_46 : decode cX3_around 46 = .ok (.aload_n 0, 1) := by decide +kernel
theorem dX3_around_47 : decode cX3_around 47 = .ok (.getfield 34, 3) := by decide +kernel
theorem dX3_around_50 : decode cX3_around 50 = .ok (.iload_n 3, 1) := by decide +kernel
theorem dX3_around_51 : decode cX3_around 51 = .ok (.laload, 1) := by decide +kernel
theorem dX3_around_52 : decode cX3_around 52 = .ok (.iload_n 1, 1) := by decide +kernel
theorem dX3_around_53 : decode cX3_around 53 = .ok (.i2l, 1) := by decide +kernel
theorem dX3_around_54 : decode cX3_around 54 = .ok (.aload_n 0, 1) := by decide +kernel
theorem dX3_around_55 : decode cX3_around 55 = .ok (.getfield 34, 3) := by decide +kernel
theorem dX3_around_58 : decode cX3_around 58 = .ok (.iload_n 3, 1) := by decide +kernel
theorem dX3_around_59 : decode cX3_around 59 = .ok (.iconst 1, 1) := by decide +kernel
theorem dX3_around_60 : decode cX3_around 60 = .ok (.iadd, 1) := by decide +kernel
theorem dX3_around_61 : decode cX3_around 61 = .ok (.laload, 1) := by decide +kernel
theorem dX3_around_62 : decode cX3_around 62 = .ok (.lmul, 1) := by decide +kernel
theorem dX3_around_63 : decode cX3_around 63 = .ok (.ladd, 1) := by decide +kernel
theorem dX3_around_64 : decode cX3_around 64 = .ok (.lastore, 1) := by decide +kernel
theorem dX3_around_65 : decode cX3_around 65 = .ok (.iinc 3 (-1), 3) := by decide +kernel
theorem dX3_around_68 : decode cX3_around 68 = .ok (.goto (-32), 3) := by decide +kernel
theorem dX3_around_71 : decode cX3_around 71 = .ok (.iinc 2 1, 3) := by decide +kernel
theorem dX3_around_74 : decode cX3_around 74 = .ok (.goto (-46), 3) := by decide +kernel
theorem dX3_around_77 : decode cX3_around 77 = .ok (.iconst 0, 1) := by decide +kernel
theorem dX3_around_78 : decode cX3_around 78 = .ok (.istore_n 2, 1) := by decide +kernel
theorem dX3_around_79 : decode cX3_around 79 = .ok (.iload_n 2, 1) := by decide +kernel
theorem dX3_around_80 : decode cX3_around 80 = .ok (.bipush 6, 2) := by decide +kernel
theorem dX3_around_82 : decode cX3_around 82 = .ok (.if_icmp .ge 24, 3) := by decide +kernel
theorem dX3_around_85 : decode cX3_around 85 = .ok (.aload_n 0, 1) := by decide +kernel
theorem dX3_around_86 : decode cX3_around 86 = .ok (.getfield 37, 3) := by decide +kernel
theorem dX3_around_89 : decode cX3_around 89 = .ok (.iload_n 2, 1) := by decide +kernel
theorem dX3_around_90 : decode cX3_around 90 = .ok (.iload_n 2, 1) := by decide +kernel
theorem dX3_around_91 : decode cX3_around 91 = .ok (.ifCond .ne 7, 3) := by decide +kernel
theorem dX3_around_94 : decode cX3_around 94 = .ok (.lconst 1, 1) := by decide +kernel
theorem dX3_around_95 : decode cX3_around 95 = .ok (.goto 4, 3) := by decide +kernel
theorem dX3_around_98 : decode cX3_around 98 = .ok (.lconst 0, 1) := by decide +kernel
theorem dX3_around_99 : decode cX3_around 99 = .ok (.lastore, 1) := by decide +kernel
theorem dX3_around_100 : decode cX3_around 100 = .ok (.iinc 2 1, 3) := by decide +kernel
theorem dX3_around_103 : decode cX3_around 103 = .ok (.goto (-24), 3) := by decide +kernel
theorem dX3_around_106 : decode cX3_around 106 = .ok (.bipush (-3), 2) := by decide +kernel
theorem dX3_around_108 : decode cX3_around 108 = .ok (.istore_n 2, 1) := by decide +kernel
theorem dX3_around_109 : decode cX3_around 109 = .ok (.iload_n 2, 1) := by decide +kernel
theorem dX3_around_110 : decode cX3_around 110 = .ok (.iconst 4, 1) := by decide +kernel
theorem dX3_around_111 : decode cX3_around 111 = .ok (.if_icmp .ge 44, 3) := by decide +kernel
theorem dX3_around_114 : decode cX3_around 114 = .ok (.iconst 0, 1) := by decide +kernel
theorem dX3_around_115 : decode cX3_around 115 = .ok (.istore_n 3, 1) := by decide +kernel
theorem dX3_around_116 : decode cX3_around 116 = .ok (.iload_n 3, 1) := by decide +kernel
theorem dX3_around_117 : decode cX3_around 117 = .ok (.aload_n 0, 1) := by decide +kernel
theorem dX3_around_118 : decode cX3_around 118 = .ok (.getfield 27, 3) := by decide +kernel
theorem dX3_around_121 : decode cX3_around 121 = .ok (.iload_n 2, 1) := by decide +kernel
theorem dX3_around_122 : decode cX3_around 122 = .ok (.iconst 3, 1) := by decide +kernel
theorem dX3_around_123 : decode cX3_around 123 = .ok (.iadd, 1) := by decide +kernel
theorem dX3_around_124 : decode cX3_around 124 = .ok (.iaload, 1) := by decide +kernel
theorem dX3_around_125 : decode cX3_around 125 = .ok (.if_icmp .ge 24, 3) := by decide +kernel
theorem dX3_around_128 : decode cX3_around 128 = .ok (.iload_n 2, 1) := by decide +kernel
theorem dX3_around_129 : decode cX3_around 129 = .ok (.iload_n 1, 1) := by decide +kernel
theorem dX3_around_130 : decode cX3_around 130 = .ok (.if_icmp .eq 19, 3) := by decide +kernel
theorem dX3_around_133 : decode cX3_around 133 = .ok (.aload_n 0, 1) := by decide +kernel
theorem dX3_around_134 : decode cX3_around 134 = .ok (.getfield 37, 3) := by decide +kernel
theorem dX3_around_137 : decode cX3_around 137 = .ok (.iload_n 2, 1) := by decide +kernel
theorem dX3_around_138 : decode cX3_around 138 = .ok (.iload_n 1, 1) := by decide +kernel
theorem dX3_around_139 : decode cX3_around 139 = .ok (.isub, 1) := by decide +kernel
theorem dX3_around_140 : decode cX3_around 140 = .ok (.invokestatic 89, 3) := by decide +kernel
theorem dX3_around_143 : decode cX3_around 143 = .ok (.iinc 3 1, 3) := by decide +kernel
theorem dX3_around_146 : decode cX3_around 146 = .ok (.goto (-30), 3) := by decide +kernel
theorem dX3_around_149 : decode cX3_around 149 = .ok (.iinc 2 1, 3) := by decide +kernel
theorem dX3_around_152 : decode cX3_around 152 = .ok (.goto (-43), 3) := by decide +kernel
theorem dX3_around_155 : decode cX3_around 155 = .ok (.return_, 1) := by decide +kernel
theorem dX3_tell_0 : decode cX3_tell 0 = .ok (.lload_n 1, 1) := by decide +kernel
theorem dX3_tell_1 : decode cX3_tell 1 = .ok (.lconst 0, 1) := by decide +kernel
theorem dX3_tell_2 : decode cX3_tell 2 = .ok (.lcmp, 1) := by decide +kernel
theorem dX3_tell_3 : decode cX3_tell 3 = .ok (.ifCond .ge 8, 3) := by decide +kernel
theorem dX3_tell_6 : decode cX3_tell 6 = .ok (.lload_n 1, 1) := by decide +kernel
theorem dX3_tell_7 : decode cX3_tell 7 = .ok (.lneg, 1) := by decide +kernel
theorem dX3_tell_8 : decode cX3_tell 8 = .ok (.goto 4, 3) := by decide +kernel
theorem dX3_tell_11 : decode cX3_tell 11 = .ok (.lload_n 1, 1) := by decide +kernel
theorem dX3_tell_12 : decode cX3_tell 12 = .ok (.lstore 5, 2) := by decide +kernel
theorem dX3_tell_14 : decode cX3_tell 14 = .ok (.lload_n 3, 1) := by decide +kernel
theorem dX3_tell_15 : decode cX3_tell 15 = .ok (.lconst 0, 1) := by decide +kernel
theorem dX3_tell_16 : decode cX3_tell 16 = .ok (.lcmp, 1) := by decide +kernel
theorem dX3_tell_17 : decode cX3_tell 17 = .ok (.ifCond .ge 8, 3) := by decide +kernel
theorem dX3_tell_20 : decode cX3_tell 20 = .ok (.lload_n 3, 1) := by decide +kernel
theorem dX3_tell_21 : decode cX3_tell 21 = .ok (.lneg, 1) := by decide +kernel
theorem dX3_tell_22 : decode cX3_tell 22 = .ok (.goto 4, 3) := by decide +kernel
theorem dX3_tell_25 : decode cX3_tell 25 = .ok (.lload_n 3, 1) := by decide +kernel
theorem dX3_tell_26 : decode cX3_tell 26 = .ok (.lstore 7, 2) := by decide +kernel
theorem dX3_tell_28 : decode cX3_tell 28 = .ok (.lload 7, 2) := by decide +kernel
theorem dX3_tell_30 : decode cX3_tell 30 = .ok (.lconst 0, 1) := by decide +kernel
theorem dX3_tell_31 : decode cX3_tell 31 = .ok (.lcmp, 1) := by decide +kernel
theorem dX3_tell_32 : decode cX3_tell 32 = .ok (.ifCond .eq 21, 3) := by decide +kernel
theorem dX3_tell_35 : decode cX3_tell 35 = .ok (.lload 5, 2) := by decide +kernel
theorem dX3_tell_37 : decode cX3_tell 37 = .ok (.lload 7, 2) := by decide +kernel
theorem dX3_tell_39 : decode cX3_tell 39 = .ok (.lrem, 1) := by decide +kernel
theorem dX3_tell_40 : decode cX3_tell 40 = .ok (.lstore 9, 2) := by decide +kernel
theorem dX3_tell_42 : decode cX3_tell 42 = .ok (.lload 7, 2) := by decide +kernel
theorem dX3_tell_44 : decode cX3_tell 44 = .ok (.lstore 5, 2) := by decide +kernel
theorem dX3_tell_46 : decode cX3_tell 46 = .ok (.lload 9, 2) := by decide +kernel
theorem dX3_tell_48 : decode cX3_tell 48 = .ok (.lstore 7, 2) := by decide +kernel
theorem dX3_tell_50 : decode cX3_tell 50 = .ok (.goto (-22), 3) := by decide +kernel
theorem dX3_tell_53 : decode cX3_tell 53 = .ok (.aload_n 0, 1) := by decide +kernel
theorem dX3_tell_54 : decode cX3_tell 54 = .ok (.lload_n 3, 1) := by decide +kernel
theorem dX3_tell_55 : decode cX3_tell 55 = .ok (.lconst 0, 1) := by decide +kernel
theorem dX3_tell_56 : decode cX3_tell 56 = .ok (.lcmp, 1) := by decide +kernel
theorem dX3_tell_57 : decode cX3_tell 57 = .ok (.ifCond .ge 11, 3) := by decide +kernel
theorem dX3_tell_60 : decode cX3_tell 60 = .ok (.lload_n 1, 1) := by decide +kernel
theorem dX3_tell_61 : decode cX3_tell 61 = .ok (.lneg, 1) := by decide +kernel
theorem dX3_tell_62 : decode cX3_tell 62 = .ok (.lload 5, 2) := by decide +kernel
theorem dX3_tell_64 : decode cX3_tell 64 = .ok (.ldiv, 1) := by decide +kernel
theorem dX3_tell_65 : decode cX3_tell 65 = .ok (.goto 7, 3) := by decide +kernel
theorem dX3_tell_68 : decode cX3_tell 68 = .ok (.lload_n 1, 1) := by decide +kernel
theorem dX3_tell_69 : decode cX3_tell 69 = .ok (.lload 5, 2) := by decide +kernel
theorem dX3_tell_71 : decode cX3_tell 71 = .ok (.ldiv, 1) := by decide +kernel
theorem dX3_tell_72 : decode cX3_tell 72 = .ok (.putfield 96, 3) := by decide +kernel
theorem dX3_tell_75 : decode cX3_tell 75 = .ok (.aload_n 0, 1) := by decide +kernel
theorem dX3_tell_76 : decode cX3_tell 76 = .ok (.lload_n 3, 1) := by decide +kernel
theorem dX3_tell_77 : decode cX3_tell 77 = .ok (.lconst 0, 1) := by decide +kernel
theorem dX3_tell_78 : decode cX3_tell 78 = .ok (.lcmp, 1) := by decide +kernel
theorem dX3_tell_79 : decode cX3_tell 79 = .ok (.ifCond .ge 8, 3) := by decide +kernel
theorem dX3_tell_82 : decode cX3_tell 82 = .ok (.lload_n 3, 1) := by decide +kernel
theorem dX3_tell_83 : decode cX3_tell 83 = .ok (.lneg, 1) := by decide +kernel
theorem dX3_tell_84 : decode cX3_tell 84 = .ok (.goto 4, 3) := by decide +kernel
theorem dX3_tell_87 : decode cX3_tell 87 = .ok (.lload_n 3, 1) := by decide +kernel
theorem dX3_tell_88 : decode cX3_tell 88 = .ok (.lload 5, 2) := by decide +kernel
theorem dX3_tell_90 : decode cX3_tell 90 = .ok (.ldiv, 1) := by decide +kernel
theorem dX3_tell_91 : decode cX3_tell 91 = .ok (.putfield 100, 3) := by decide +kernel
theorem dX3_tell_94 : decode cX3_tell 94 = .ok (.return_, 1) := by decide +kernel
theorem dX3_work_0 : decode cX3_work 0 = .ok (.aload_n 0, 1) := by decide +kernel
theorem dX3_work_1 : decode cX3_work 1 = .ok (.iload_n 1, 1) := by decide +kernel
theorem dX3_work_2 : decode cX3_work 2 = .ok (.invokevirtual 103, 3) := by decide +kernel
theorem dX3_work_5 : decode cX3_work 5 = .ok (.aload_n 0, 1) := by decide +kernel
theorem dX3_work_6 : decode cX3_work 6 = .ok (.getfield 27, 3) := by decide +kernel
theorem dX3_work_9 : decode cX3_work 9 = .ok (.iload_n 1, 1) := by decide +kernel
theorem dX3_work_10 : decode cX3_work 10 = .ok (.iconst 3, 1) := by decide +kernel
theorem dX3_work_11 : decode cX3_work 11 = .ok (.iadd, 1) := by decide +kernel
theorem dX3_work_12 : decode cX3_work 12 = .ok (.iaload, 1) := by decide +kernel
theorem dX3_work_13 : decode cX3_work 13 = .ok (.iload_n 2, 1) := by decide +kernel
theorem dX3_work_14 : decode cX3_work 14 = .ok (.isub, 1) := by decide +kernel
theorem dX3_work_15 : decode cX3_work 15 = .ok (.istore_n 3, 1) := by decide +kernel
theorem dX3_work_16 : decode cX3_work 16 = .ok (.iconst 0, 1) := by decide +kernel
theorem dX3_work_17 : decode cX3_work 17 = .ok (.istore 4, 2) := by decide +kernel
theorem dX3_work_19 : decode cX3_work 19 = .ok (.iload 4, 2) := by decide +kernel
theorem dX3_work_21 : decode cX3_work 21 = .ok (.iload_n 3, 1) := by decide +kernel
theorem dX3_work_22 : decode cX3_work 22 = .ok (.if_icmp .gt 124, 3) := by decide +kernel
theorem dX3_work_25 : decode cX3_work 25 = .ok (.aload_n 0, 1) := by decide +kernel
theorem dX3_work_26 : decode cX3_work 26 = .ok (.getfield 34, 3) := by decide +kernel
theorem dX3_work_29 : decode cX3_work 29 = .ok (.iload 4, 2) := by decide +kernel
theorem dX3_work_31 : decode cX3_work 31 = .ok (.laload, 1) := by decide +kernel
theorem dX3_work_32 : decode cX3_work 32 = .ok (.lstore 5, 2) := by decide +kernel
theorem dX3_work_34 : decode cX3_work 34 = .ok (.iconst 0, 1) := by decide +kernel
theorem dX3_work_35 : decode cX3_work 35 = .ok (.istore 7, 2) := by decide +kernel
theorem dX3_work_37 : decode cX3_work 37 = .ok (.iload 7, 2) := by decide +kernel
theorem dX3_work_39 : decode cX3_work 39 = .ok (.iload 4, 2) := by decide +kernel
theorem dX3_work_41 : decode cX3_work 41 = .ok (.if_icmp .ge 20, 3) := by decide +kernel
theorem dX3_work_44 : decode cX3_work 44 = .ok (.lload 5, 2) := by decide +kernel
theorem dX3_work_46 : decode cX3_work 46 = .ok (.aload_n 0, 1) := by decide +kernel
theorem dX3_work_47 : decode cX3_work 47 = .ok (.getfield 37, 3) := by decide +kernel
theorem dX3_work_50 : decode cX3_work 50 = .ok (.iconst 0, 1) := by decide +kernel
theorem dX3_work_51 : decode cX3_work 51 = .ok (.laload, 1) := by decide +kernel
theorem dX3_work_52 : decode cX3_work 52 = .ok (.lmul, 1) := by decide +kernel
theorem dX3_work_53 : decode cX3_work 53 = .ok (.lstore 5, 2) := by decide +kernel
theorem dX3_work_55 : decode cX3_work 55 = .ok (.iinc 7 1, 3) := by decide +kernel
theorem dX3_work_58 : decode cX3_work 58 = .ok (.goto (-21), 3) := by decide +kernel
theorem dX3_work_61 : decode cX3_work 61 = .ok (.iconst 1, 1) := by decide +kernel
theorem dX3_work_62 : decode cX3_work 62 = .ok (.istore 7, 2) := by decide +kernel
theorem dX3_work_64 : decode cX3_work 64 = .ok (.iload 7, 2) := by decide +kernel
theorem dX3_work_66 : decode cX3_work 66 = .ok (.iload 4, 2) := by decide +kernel
theorem dX3_work_68 : decode cX3_work 68 = .ok (.if_icmp .gt 63, 3) := by decide +kernel
theorem dX3_work_71 : decode cX3_work 71 = .ok (.aload_n 0, 1) := by decide +kernel
theorem dX3_work_72 : decode cX3_work 72 = .ok (.getfield 37, 3) := by decide +kernel
theorem dX3_work_75 : decode cX3_work 75 = .ok (.iload 7, 2) := by decide +kernel
theorem dX3_work_77 : decode cX3_work 77 = .ok (.laload, 1) := by decide +kernel
theorem dX3_work_78 : decode cX3_work 78 = .ok (.aload_n 0, 1) := by decide +kernel
theorem dX3_work_79 : decode cX3_work 79 = .ok (.getfield 40, 3) := by decide +kernel
theorem dX3_work_82 : decode cX3_work 82 = .ok (.iload 4, 2) := by decide +kernel
theorem dX3_work_84 : decode cX3_work 84 = .ok (.iload 7, 2) := by decide +kernel
theorem dX3_work_86 : decode cX3_work 86 = .ok (.isub, 1) := by decide +kernel
theorem dX3_work_87 : decode cX3_work 87 = .ok (.laload, 1) := by decide +kernel
theorem dX3_work_88 : decode cX3_work 88 = .ok (.lmul, 1) := by decide +kernel
theorem dX3_work_89 : decode cX3_work 89 = .ok (.lstore 8, 2) := by decide +kernel
theorem dX3_work_91 : decode cX3_work 91 = .ok (.iconst 1, 1) := by decide +kernel
theorem dX3_work_92 : decode cX3_work 92 = .ok (.istore 10, 2) := by decide +kernel
theorem dX3_work_94 : decode cX3_work 94 = .ok (.iload 10, 2) := by decide +kernel
theorem dX3_work_96 : decode cX3_work 96 = .ok (.iload 7, 2) := by decide +kernel
theorem dX3_work_98 : decode cX3_work 98 = .ok (.if_icmp .ge 20, 3) := by decide +kernel
theorem dX3_work_101 : decode cX3_work 101 = .ok (.lload 8, 2) := by decide +kernel
theorem dX3_work_103 : decode cX3_work 103 = .ok (.aload_n 0, 1) := by decide +kernel
theorem dX3_work_104 : decode cX3_work 104 = .ok (.getfield 37, 3) := by decide +kernel
theorem dX3_work_107 : decode cX3_work 107 = .ok (.iconst 0, 1) := by decide +kernel
theorem dX3_work_108 : decode cX3_work 108 = .ok (.laload, 1) := by decide +kernel
theorem dX3_work_109 : decode cX3_work 109 = .ok (.lmul, 1) := by decide +kernel
theorem dX3_work_110 : decode cX3_work 110 = .ok (.lstore 8, 2) := by decide +kernel
theorem dX3_work_112 : decode cX3_work 112 = .ok (.iinc 10 1, 3) := by decide +kernel
theorem dX3_work_115 : decode cX3_work 115 = .ok (.goto (-21), 3) := by decide +kernel
theorem dX3_work_118 : decode cX3_work 118 = .ok (.lload 5, 2) := by decide +kernel
theorem dX3_work_120 : decode cX3_work 120 = .ok (.lload 8, 2) := by decide +kernel
theorem dX3_work_122 : decode cX3_work 122 = .ok (.lsub, 1) := by decide +kernel
theorem dX3_work_123 : decode cX3_work 123 = .ok (.lstore 5, 2) := by decide +kernel
theorem dX3_work_125 : decode cX3_work 125 = .ok (.iinc 7 1, 3) := by decide +kernel
theorem dX3_work_128 : decode cX3_work 128 = .ok (.goto (-64), 3) := by decide +kernel
theorem dX3_work_131 : decode cX3_work 131 = .ok (.aload_n 0, 1) := by decide +kernel
theorem dX3_work_132 : decode cX3_work 132 = .ok (.getfield 40, 3) := by decide +kernel
theorem dX3_work_135 : decode cX3_work 135 = .ok (.iload 4, 2) := by decide +kernel
theorem dX3_work_137 : decode cX3_work 137 = .ok (.lload 5, 2) := by decide +kernel
theorem dX3_work_139 : decode cX3_work 139 = .ok (.lastore, 1) := by decide +kernel
theorem dX3_work_140 : decode cX3_work 140 = .ok (.iinc 4 1, 3) := by decide +kernel
theorem dX3_work_143 : decode cX3_work 143 = .ok (.goto (-124), 3) := by decide +kernel
theorem dX3_work_146 : decode cX3_work 146 = .ok (.lconst 1, 1) := by decide +kernel
theorem dX3_work_147 : decode cX3_work 147 = .ok (.lstore 4, 2) := by decide +kernel
theorem dX3_work_149 : decode cX3_work 149 = .ok (.iconst 0, 1) := by decide +kernel
theorem dX3_work_150 : decode cX3_work 150 = .ok (.istore 6, 2) := by decide +kernel
theorem dX3_work_152 : decode cX3_work 152 = .ok (.iload 6, 2) := by decide +kernel
theorem dX3_work_154 : decode cX3_work 154 = .ok (.iload_n 3, 1) := by decide +kernel
theorem dX3_work_155 : decode cX3_work 155 = .ok (.if_icmp .gt 20, 3) := by decide +kernel
theorem dX3_work_158 : decode cX3_work 158 = .ok (.lload 4, 2) := by decide +kernel
theorem dX3_work_160 : decode cX3_work 160 = .ok (.aload_n 0, 1) := by decide +kernel
theorem dX3_work_161 : decode cX3_work 161 = .ok (.getfield 37, 3) := by decide +kernel
theorem dX3_work_164 : decode cX3_work 164 = .ok (.iconst 0, 1) := by decide +kernel
theorem dX3_work_165 : decode cX3_work 165 = .ok (.laload, 1) := by decide +kernel
theorem dX3_work_166 : decode cX3_work 166 = .ok (.lmul, 1) := by decide +kernel
theorem dX3_work_167 : decode cX3_work 167 = .ok (.lstore 4, 2) := by decide +kernel
theorem dX3_work_169 : decode cX3_work 169 = .ok (.iinc 6 1, 3) := by decide +kernel
theorem dX3_work_172 : decode cX3_work 172 = .ok (.goto (-20), 3) := by decide +kernel
theorem dX3_work_175 : decode cX3_work 175 = .ok (.aload_n 0, 1) := by decide +kernel
theorem dX3_work_176 : decode cX3_work 176 = .ok (.aload_n 0, 1) := by decide +kernel
theorem dX3_work_177 : decode cX3_work 177 = .ok (.getfield 40, 3) := by decide +kernel
theorem dX3_work_180 : decode cX3_work 180 = .ok (.iload_n 3, 1) := by decide +kernel
theorem dX3_work_181 : decode cX3_work 181 = .ok (.laload, 1) := by decide +kernel
theorem dX3_work_182 : decode cX3_work 182 = .ok (.lload 4, 2) := by decide +kernel
theorem dX3_work_184 : decode cX3_work 184 = .ok (.invokevirtual 107, 3) := by decide +kernel
theorem dX3_work_187 : decode cX3_work 187 = .ok (.return_, 1) := by decide +kernel
theorem dX3_isPart_0 : decode cX3_isPart 0 = .ok (.aload_n 0, 1) := by decide +kernel
theorem dX3_isPart_1 : decode cX3_isPart 1 = .ok (.iload_n 1, 1) := by decide +kernel
theorem dX3_isPart_2 : decode cX3_isPart 2 = .ok (.invokevirtual 111, 3) := by decide +kernel
theorem dX3_isPart_5 : decode cX3_isPart 5 = .ok (.ifCond .le 21, 3) := by decide +kernel
theorem dX3_isPart_8 : decode cX3_isPart 8 = .ok (.iload_n 2, 1) := by decide +kernel
theorem dX3_isPart_9 : decode cX3_isPart 9 = .ok (.iconst 1, 1) := by decide +kernel
theorem dX3_isPart_10 : decode cX3_isPart 10 = .ok (.if_icmp .lt 16, 3) := by decide +kernel
theorem dX3_isPart_13 : decode cX3_isPart 13 = .ok (.iload_n 2, 1) := by decide +kernel
theorem dX3_isPart_14 : decode cX3_isPart 14 = .ok (.aload_n 0, 1) := by decide +kernel
theorem dX3_isPart_15 : decode cX3_isPart 15 = .ok (.iload_n 1, 1) := by decide +kernel
theorem dX3_isPart_16 : decode cX3_isPart 16 = .ok (.invokevirtual 111, 3) := by decide +kernel
theorem dX3_isPart_19 : decode cX3_isPart 19 = .ok (.if_icmp .gt 7, 3) := by decide +kernel
theorem dX3_isPart_22 : decode cX3_isPart 22 = .ok (.iconst 1, 1) := by decide +kernel
theorem dX3_isPart_23 : decode cX3_isPart 23 = .ok (.goto 4, 3) := by decide +kernel
theorem dX3_isPart_26 : decode cX3_isPart 26 = .ok (.iconst 0, 1) := by decide +kernel
theorem dX3_isPart_27 : decode cX3_isPart 27 = .ok (.ireturn, 1) := by decide +kernel
theorem dX3_part_0 : decode cX3_part 0 = .ok (.aload_n 0, 1) := by decide +kernel
theorem dX3_part_1 : decode cX3_part 1 = .ok (.iload_n 1, 1) := by decide +kernel
theorem dX3_part_2 : decode cX3_part 2 = .ok (.iload_n 2, 1) := by decide +kernel
theorem dX3_part_3 : decode cX3_part 3 = .ok (.invokevirtual 113, 3) := by decide +kernel
theorem dX3_part_6 : decode cX3_part 6 = .ok (.ifCond .eq 16, 3) := by decide +kernel
theorem dX3_part_9 : decode cX3_part 9 = .ok (.iload_n 3, 1) := by decide +kernel
theorem dX3_part_10 : decode cX3_part 10 = .ok (.ifCond .lt 12, 3) := by decide +kernel
theorem dX3_part_13 : decode cX3_part 13 = .ok (.iload_n 3, 1) := by decide +kernel
theorem dX3_part_14 : decode cX3_part 14 = .ok (.iconst 2, 1) := by decide +kernel
theorem dX3_part_15 : decode cX3_part 15 = .ok (.if_icmp .ge 7, 3) := by decide +kernel
theorem dX3_part_18 : decode cX3_part 18 = .ok (.iconst 1, 1) := by decide +kernel
theorem dX3_part_19 : decode cX3_part 19 = .ok (.goto 4, 3) := by decide +kernel
theorem dX3_part_22 : decode cX3_part 22 = .ok (.iconst 0, 1) := by decide +kernel
theorem dX3_part_23 : decode cX3_part 23 = .ok (.istore 4, 2) := by decide +kernel
theorem dX3_part_25 : decode cX3_part 25 = .ok (.aload_n 0, 1) := by decide +kernel
theorem dX3_part_26 : decode cX3_part 26 = .ok (.iload 4, 2) := by decide +kernel
theorem dX3_part_28 : decode cX3_part 28 = .ok (.ifCond .eq 7, 3) := by decide +kernel
theorem dX3_part_31 : decode cX3_part 31 = .ok (.iconst 0, 1) := by decide +kernel
theorem dX3_part_32 : decode cX3_part 32 = .ok (.goto 4, 3) := by decide +kernel
theorem dX3_part_35 : decode cX3_part 35 = .ok (.iconst 1, 1) := by decide +kernel
theorem dX3_part_36 : decode cX3_part 36 = .ok (.putfield 46, 3) := by decide +kernel
theorem dX3_part_39 : decode cX3_part 39 = .ok (.iload 4, 2) := by decide +kernel
theorem dX3_part_41 : decode cX3_part 41 = .ok (.ifCond .ne 5, 3) := by decide +kernel
theorem dX3_part_44 : decode cX3_part 44 = .ok (.lconst 0, 1) := by decide +kernel
theorem dX3_part_45 : decode cX3_part 45 = .ok (.lreturn, 1) := by decide +kernel
theorem dX3_part_46 : decode cX3_part 46 = .ok (.aload_n 0, 1) := by decide +kernel
theorem dX3_part_47 : decode cX3_part 47 = .ok (.iload_n 1, 1) := by decide +kernel
theorem dX3_part_48 : decode cX3_part 48 = .ok (.iload_n 2, 1) := by decide +kernel
theorem dX3_part_49 : decode cX3_part 49 = .ok (.invokevirtual 117, 3) := by decide +kernel
theorem dX3_part_52 : decode cX3_part 52 = .ok (.iload_n 3, 1) := by decide +kernel
theorem dX3_part_53 : decode cX3_part 53 = .ok (.ifCond .ne 10, 3) := by decide +kernel
theorem dX3_part_56 : decode cX3_part 56 = .ok (.aload_n 0, 1) := by decide +kernel
theorem dX3_part_57 : decode cX3_part 57 = .ok (.getfield 96, 3) := by decide +kernel
theorem dX3_part_60 : decode cX3_part 60 = .ok (.goto 7, 3) := by decide +kernel
theorem dX3_part_63 : decode cX3_part 63 = .ok (.aload_n 0, 1) := by decide +kernel
theorem dX3_part_64 : decode cX3_part 64 = .ok (.getfield 100, 3) := by decide +kernel
theorem dX3_part_67 : decode cX3_part 67 = .ok (.lreturn, 1) := by decide +kernel
theorem dX3_integral_0 : decode cX3_integral 0 = .ok (.iload_n 1, 1) := by decide +kernel
theorem dX3_integral_1 : decode cX3_integral 1 = .ok (.bipush 9, 2) := by decide +kernel
theorem dX3_integral_3 : decode cX3_integral 3 = .ok (.if_icmp .ne 11, 3) := by decide +kernel
theorem dX3_integral_6 : decode cX3_integral 6 = .ok (.iload_n 2, 1) := by decide +kernel
theorem dX3_integral_7 : decode cX3_integral 7 = .ok (.ifCond .le 7, 3) := by decide +kernel
theorem dX3_integral_10 : decode cX3_integral 10 = .ok (.iconst 1, 1) := by decide +kernel
theorem dX3_integral_11 : decode cX3_integral 11 = .ok (.goto 4, 3) := by decide +kernel
theorem dX3_integral_14 : decode cX3_integral 14 = .ok (.iconst 0, 1) := by decide +kernel
theorem dX3_integral_15 : decode cX3_integral 15 = .ok (.istore 4, 2) := by decide +kernel
theorem dX3_integral_17 : decode cX3_integral 17 = .ok (.iload 4, 2) := by decide +kernel
theorem dX3_integral_19 : decode cX3_integral 19 = .ok (.ifCond .ne 16, 3) := by decide +kernel
theorem dX3_integral_22 : decode cX3_integral 22 = .ok (.iload_n 2, 1) := by decide +kernel
theorem dX3_integral_23 : decode cX3_integral 23 = .ok (.ifCond .lt 25, 3) := by decide +kernel
theorem dX3_integral_26 : decode cX3_integral 26 = .ok (.iload_n 2, 1) := by decide +kernel
theorem dX3_integral_27 : decode cX3_integral 27 = .ok (.aload_n 0, 1) := by decide +kernel
theorem dX3_integral_28 : decode cX3_integral 28 = .ok (.iload_n 1, 1) := by decide +kernel
theorem dX3_integral_29 : decode cX3_integral 29 = .ok (.invokevirtual 111, 3) := by decide +kernel
theorem dX3_integral_32 : decode cX3_integral 32 = .ok (.if_icmp .ge 16, 3) := by decide +kernel
theorem dX3_integral_35 : decode cX3_integral 35 = .ok (.iload_n 3, 1) := by decide +kernel
theorem dX3_integral_36 : decode cX3_integral 36 = .ok (.ifCond .lt 12, 3) := by decide +kernel
theorem dX3_integral_39 : decode cX3_integral 39 = .ok (.iload_n 3, 1) := by decide +kernel
theorem dX3_integral_40 : decode cX3_integral 40 = .ok (.iconst 2, 1) := by decide +kernel
theorem dX3_integral_41 : decode cX3_integral 41 = .ok (.if_icmp .ge 7, 3) := by decide +kernel
theorem dX3_integral_44 : decode cX3_integral 44 = .ok (.iconst 1, 1) := by decide +kernel
theorem dX3_integral_45 : decode cX3_integral 45 = .ok (.goto 4, 3) := by decide +kernel
theorem dX3_integral_48 : decode cX3_integral 48 = .ok (.iconst 0, 1) := by decide +kernel
theorem dX3_integral_49 : decode cX3_integral 49 = .ok (.istore 5, 2) := by decide +kernel
theorem dX3_integral_51 : decode cX3_integral 51 = .ok (.aload_n 0, 1) := by decide +kernel
theorem dX3_integral_52 : decode cX3_integral 52 = .ok (.iload 5, 2) := by decide +kernel
theorem dX3_integral_54 : decode cX3_integral 54 = .ok (.ifCond .eq 7, 3) := by decide +kernel
theorem dX3_integral_57 : decode cX3_integral 57 = .ok (.iconst 0, 1) := by decide +kernel
theorem dX3_integral_58 : decode cX3_integral 58 = .ok (.goto 4, 3) := by decide +kernel
theorem dX3_integral_61 : decode cX3_integral 61 = .ok (.iconst 1, 1) := by decide +kernel
theorem dX3_integral_62 : decode cX3_integral 62 = .ok (.putfield 46, 3) := by decide +kernel
theorem dX3_integral_65 : decode cX3_integral 65 = .ok (.iload 5, 2) := by decide +kernel
theorem dX3_integral_67 : decode cX3_integral 67 = .ok (.ifCond .ne 5, 3) := by decide +kernel
theorem dX3_integral_70 : decode cX3_integral 70 = .ok (.lconst 0, 1) := by decide +kernel
theorem dX3_integral_71 : decode cX3_integral 71 = .ok (.lreturn, 1) := by decide +kernel
theorem dX3_integral_72 : decode cX3_integral 72 = .ok (.aload_n 0, 1) := by decide +kernel
theorem dX3_integral_73 : decode cX3_integral 73 = .ok (.invokevirtual 93, 3) := by decide +kernel
theorem dX3_integral_76 : decode cX3_integral 76 = .ok (.iload 4, 2) := by decide +kernel
theorem dX3_integral_78 : decode cX3_integral 78 = .ok (.ifCond .eq 30, 3) := by decide +kernel
theorem dX3_integral_81 : decode cX3_integral 81 = .ok (.aload_n 0, 1) := by decide +kernel
theorem dX3_integral_82 : decode cX3_integral 82 = .ok (.iload_n 2, 1) := by decide +kernel
theorem dX3_integral_83 : decode cX3_integral 83 = .ok (.bipush 8, 2) := by decide +kernel
theorem dX3_integral_85 : decode cX3_integral 85 = .ok (.if_icmp .ge 14, 3) := by decide +kernel
theorem dX3_integral_88 : decode cX3_integral 88 = .ok (.aload_n 0, 1) := by decide +kernel
theorem dX3_integral_89 : decode cX3_integral 89 = .ok (.getfield 20, 3) := by decide +kernel
theorem dX3_integral_92 : decode cX3_integral 92 = .ok (.iload_n 2, 1) := by decide +kernel
theorem dX3_integral_93 : decode cX3_integral 93 = .ok (.iconst 1, 1) := by decide +kernel
theorem dX3_integral_94 : decode cX3_integral 94 = .ok (.isub, 1) := by decide +kernel
theorem dX3_integral_95 : decode cX3_integral 95 = .ok (.laload, 1) := by decide +kernel
theorem dX3_integral_96 : decode cX3_integral 96 = .ok (.goto 4, 3) := by decide +kernel
theorem dX3_integral_99 : decode cX3_integral 99 = .ok (.lconst 0, 1) := by decide +kernel
theorem dX3_integral_100 : decode cX3_integral 100 = .ok (.iload_n 2, 1) := by decide +kernel
theorem dX3_integral_101 : decode cX3_integral 101 = .ok (.i2l, 1) := by decide +kernel
theorem dX3_integral_102 : decode cX3_integral 102 = .ok (.invokevirtual 107, 3) := by decide +kernel
theorem dX3_integral_105 : decode cX3_integral 105 = .ok (.goto 11, 3) := by decide +kernel
theorem dX3_integral_108 : decode cX3_integral 108 = .ok (.aload_n 0, 1) := by decide +kernel
theorem dX3_integral_109 : decode cX3_integral 109 = .ok (.iload_n 1, 1) := by decide +kernel
theorem dX3_integral_110 : decode cX3_integral 110 = .ok (.iload_n 2, 1) := by decide +kernel
theorem dX3_integral_111 : decode cX3_integral 111 = .ok (.iconst 1, 1) := by decide +kernel
theorem dX3_integral_112 : decode cX3_integral 112 = .ok (.iadd, 1) := by decide +kernel
theorem dX3_integral_113 : decode cX3_integral 113 = .ok (.invokevirtual 117, 3) := by decide +kernel
theorem dX3_integral_116 : decode cX3_integral 116 = .ok (.iload 4, 2) := by decide +kernel
theorem dX3_integral_118 : decode cX3_integral 118 = .ok (.ifCond .ne 23, 3) := by decide +kernel
theorem dX3_integral_121 : decode cX3_integral 121 = .ok (.iload_n 2, 1) := by decide +kernel
theorem dX3_integral_122 : decode cX3_integral 122 = .ok (.ifCond .le 19, 3) := by decide +kernel
theorem dX3_integral_125 : decode cX3_integral 125 = .ok (.aload_n 0, 1) := by decide +kernel
theorem dX3_integral_126 : decode cX3_integral 126 = .ok (.aload_n 0, 1) := by decide +kernel
theorem dX3_integral_127 : decode cX3_integral 127 = .ok (.getfield 96, 3) := by decide +kernel
theorem dX3_integral_130 : decode cX3_integral 130 = .ok (.lneg, 1) := by decide +kernel
theorem dX3_integral_131 : decode cX3_integral 131 = .ok (.aload_n 0, 1) := by decide +kernel
theorem dX3_integral_132 : decode cX3_integral 132 = .ok (.getfield 100, 3) := by decide +kernel
theorem dX3_integral_135 : decode cX3_integral 135 = .ok (.iload_n 2, 1) := by decide +kernel
theorem dX3_integral_136 : decode cX3_integral 136 = .ok (.i2l, 1) := by decide +kernel
theorem dX3_integral_137 : decode cX3_integral 137 = .ok (.lmul, 1) := by decide +kernel
theorem dX3_integral_138 : decode cX3_integral 138 = .ok (.invokevirtual 107, 3) := by decide +kernel
theorem dX3_integral_141 : decode cX3_integral 141 = .ok (.iload_n 3, 1) := by decide +kernel
theorem dX3_integral_142 : decode cX3_integral 142 = .ok (.ifCond .ne 10, 3) := by decide +kernel
theorem dX3_integral_145 : decode cX3_integral 145 = .ok (.aload_n 0, 1) := by decide +kernel
theorem dX3_integral_146 : decode cX3_integral 146 = .ok (.getfield 96, 3) := by decide +kernel
theorem dX3_integral_149 : decode cX3_integral 149 = .ok (.goto 7, 3) := by decide +kernel
theorem dX3_integral_152 : decode cX3_integral 152 = .ok (.aload_n 0, 1) := by decide +kernel
theorem dX3_integral_153 : decode cX3_integral 153 = .ok (.getfield 100, 3) := by decide +kernel
theorem dX3_integral_156 : decode cX3_integral 156 = .ok (.lreturn, 1) := by decide +kernel
theorem dX3_valueOf_0 : decode cX3_valueOf 0 = .ok (.lconst 0, 1) := by decide +kernel
theorem dX3_valueOf_1 : decode cX3_valueOf 1 = .ok (.lstore 4, 2) := by decide +kernel
theorem dX3_valueOf_3 : decode cX3_valueOf 3 = .ok (.iload_n 1, 1) := by decide +kernel
theorem dX3_valueOf_4 : decode cX3_valueOf 4 = .ok (.istore 6, 2) := by decide +kernel
theorem dX3_valueOf_6 : decode cX3_valueOf 6 = .ok (.iload 6, 2) := by decide +kernel
theorem dX3_valueOf_8 : decode cX3_valueOf 8 = .ok (.ifCond .lt 20, 3) := by decide +kernel
theorem dX3_valueOf_11 : decode cX3_valueOf 11 = .ok (.lload 4, 2) := by decide +kernel
theorem dX3_valueOf_13 : decode cX3_valueOf 13 = .ok (.lload_n 2, 1) := by decide +kernel
theorem dX3_valueOf_14 : decode cX3_valueOf 14 = .ok (.lmul, 1) := by decide +kernel
theorem dX3_valueOf_15 : decode cX3_valueOf 15 = .ok (.aload_n 0, 1) := by decide +kernel
theorem dX3_valueOf_16 : decode cX3_valueOf 16 = .ok (.iload 6, 2) := by decide +kernel
theorem dX3_valueOf_18 : decode cX3_valueOf 18 = .ok (.laload, 1) := by decide +kernel
theorem dX3_valueOf_19 : decode cX3_valueOf 19 = .ok (.ladd, 1) := by decide +kernel
theorem dX3_valueOf_20 : decode cX3_valueOf 20 = .ok (.lstore 4, 2) := by decide +kernel
theorem dX3_valueOf_22 : decode cX3_valueOf 22 = .ok (.iinc 6 (-1), 3) := by decide +kernel
theorem dX3_valueOf_25 : decode cX3_valueOf 25 = .ok (.goto (-19), 3) := by decide +kernel
theorem dX3_valueOf_28 : decode cX3_valueOf 28 = .ok (.lload 4, 2) := by decide +kernel
theorem dX3_valueOf_30 : decode cX3_valueOf 30 = .ok (.lreturn, 1) := by decide +kernel
theorem dX3_value_0 : decode cX3_value 0 = .ok (.iload_n 1, 1) := by decide +kernel
theorem dX3_value_1 : decode cX3_value 1 = .ok (.bipush (-20), 2) := by decide +kernel
theorem dX3_value_3 : decode cX3_value 3 = .ok (.if_icmp .lt 30, 3) := by decide +kernel
theorem dX3_value_6 : decode cX3_value 6 = .ok (.iload_n 1, 1) := by decide +kernel
theorem dX3_value_7 : decode cX3_value 7 = .ok (.bipush 20, 2) := by decide +kernel
theorem dX3_value_9 : decode cX3_value 9 = .ok (.if_icmp .gt 24, 3) := by decide +kernel
theorem dX3_value_12 : decode cX3_value 12 = .ok (.aload_n 0, 1) := by decide +kernel
theorem dX3_value_13 : decode cX3_value 13 = .ok (.iload_n 1, 1) := by decide +kernel
theorem dX3_value_14 : decode cX3_value 14 = .ok (.invokevirtual 111, 3) := by decide +kernel
theorem dX3_value_17 : decode cX3_value 17 = .ok (.ifCond .ne 16, 3) := by decide +kernel
theorem dX3_value_20 : decode cX3_value 20 = .ok (.iload_n 2, 1) := by decide +kernel
theorem dX3_value_21 : decode cX3_value 21 = .ok (.ifCond .lt 12, 3) := by decide +kernel
theorem dX3_value_24 : decode cX3_value 24 = .ok (.iload_n 2, 1) := by decide +kernel
theorem dX3_value_25 : decode cX3_value 25 = .ok (.iconst 2, 1) := by decide +kernel
theorem dX3_value_26 : decode cX3_value 26 = .ok (.if_icmp .ge 7, 3) := by decide +kernel
theorem dX3_value_29 : decode cX3_value 29 = .ok (.iconst 1, 1) := by decide +kernel
theorem dX3_value_30 : decode cX3_value 30 = .ok (.goto 4, 3) := by decide +kernel
theorem dX3_value_33 : decode cX3_value 33 = .ok (.iconst 0, 1) := by decide +kernel
theorem dX3_value_34 : decode cX3_value 34 = .ok (.istore_n 3, 1) := by decide +kernel
theorem dX3_value_35 : decode cX3_value 35 = .ok (.aload_n 0, 1) := by decide +kernel
theorem dX3_value_36 : decode cX3_value 36 = .ok (.iload_n 3, 1) := by decide +kernel
theorem dX3_value_37 : decode cX3_value 37 = .ok (.ifCond .eq 7, 3) := by decide +kernel
theorem dX3_value_40 : decode cX3_value 40 = .ok (.iconst 0, 1) := by decide +kernel
theorem dX3_value_41 : decode cX3_value 41 = .ok (.goto 4, 3) := by decide +kernel
theorem dX3_value_44 : decode cX3_value 44 = .ok (.iconst 1, 1) := by decide +kernel
theorem dX3_value_45 : decode cX3_value 45 = .ok (.putfield 46, 3) := by decide +kernel
theorem dX3_value_48 : decode cX3_value 48 = .ok (.iload_n 3, 1) := by decide +kernel
theorem dX3_value_49 : decode cX3_value 49 = .ok (.ifCond .ne 5, 3) := by decide +kernel
theorem dX3_value_52 : decode cX3_value 52 = .ok (.lconst 0, 1) := by decide +kernel
theorem dX3_value_53 : decode cX3_value 53 = .ok (.lreturn, 1) := by decide +kernel
theorem dX3_value_54 : decode cX3_value 54 = .ok (.aload_n 0, 1) := by decide +kernel
theorem dX3_value_55 : decode cX3_value 55 = .ok (.aload_n 0, 1) := by decide +kernel
theorem dX3_value_56 : decode cX3_value 56 = .ok (.getfield 13, 3) := by decide +kernel
theorem dX3_value_59 : decode cX3_value 59 = .ok (.bipush 6, 2) := by decide +kernel
theorem dX3_value_61 : decode cX3_value 61 = .ok (.iload_n 1, 1) := by decide +kernel
theorem dX3_value_62 : decode cX3_value 62 = .ok (.i2l, 1) := by decide +kernel
theorem dX3_value_63 : decode cX3_value 63 = .ok (.invokestatic 121, 3) := by decide +kernel
theorem dX3_value_66 : decode cX3_value 66 = .ok (.aload_n 0, 1) := by decide +kernel
theorem dX3_value_67 : decode cX3_value 67 = .ok (.getfield 17, 3) := by decide +kernel
theorem dX3_value_70 : decode cX3_value 70 = .ok (.iconst 5, 1) := by decide +kernel
theorem dX3_value_71 : decode cX3_value 71 = .ok (.iload_n 1, 1) := by decide +kernel
theorem dX3_value_72 : decode cX3_value 72 = .ok (.i2l, 1) := by decide +kernel
theorem dX3_value_73 : decode cX3_value 73 = .ok (.invokestatic 121, 3) := by decide +kernel
theorem dX3_value_76 : decode cX3_value 76 = .ok (.invokevirtual 107, 3) := by decide +kernel
theorem dX3_value_79 : decode cX3_value 79 = .ok (.iload_n 2, 1) := by decide +kernel
theorem dX3_value_80 : decode cX3_value 80 = .ok (.ifCond .ne 10, 3) := by decide +kernel
theorem dX3_value_83 : decode cX3_value 83 = .ok (.aload_n 0, 1) := by decide +kernel
theorem dX3_value_84 : decode cX3_value 84 = .ok (.getfield 96, 3) := by decide +kernel
theorem dX3_value_87 : decode cX3_value 87 = .ok (.goto 7, 3) := by decide +kernel
theorem dX3_value_90 : decode cX3_value 90 = .ok (.aload_n 0, 1) := by decide +kernel
theorem dX3_value_91 : decode cX3_value 91 = .ok (.getfield 100, 3) := by decide +kernel
theorem dX3_value_94 : decode cX3_value 94 = .ok (.lreturn, 1) := by decide +kernel
theorem dX3_valueAt_0 : decode cX3_valueAt 0 = .ok (.dconst 0, 1) := by decide +kernel
theorem dX3_valueAt_1 : decode cX3_valueAt 1 = .ok (.dstore 4, 2) := by decide +kernel
theorem dX3_valueAt_3 : decode cX3_valueAt 3 = .ok (.iload_n 1, 1) := by decide +kernel
theorem dX3_valueAt_4 : decode cX3_valueAt 4 = .ok (.istore 6, 2) := by decide +kernel
theorem dX3_valueAt_6 : decode cX3_valueAt 6 = .ok (.iload 6, 2) := by decide +kernel
theorem dX3_valueAt_8 : decode cX3_valueAt 8 = .ok (.ifCond .lt 21, 3) := by decide +kernel
theorem dX3_valueAt_11 : decode cX3_valueAt 11 = .ok (.dload 4, 2) := by decide +kernel
theorem dX3_valueAt_13 : decode cX3_valueAt 13 = .ok (.dload_n 2, 1) := by decide +kernel
theorem dX3_valueAt_14 : decode cX3_valueAt 14 = .ok (.dmul, 1) := by decide +kernel
theorem dX3_valueAt_15 : decode cX3_valueAt 15 = .ok (.aload_n 0, 1) := by decide +kernel
theorem dX3_valueAt_16 : decode cX3_valueAt 16 = .ok (.iload 6, 2) := by decide +kernel
theorem dX3_valueAt_18 : decode cX3_valueAt 18 = .ok (.laload, 1) := by decide +kernel
theorem dX3_valueAt_19 : decode cX3_valueAt 19 = .ok (.l2d, 1) := by decide +kernel
theorem dX3_valueAt_20 : decode cX3_valueAt 20 = .ok (.dadd, 1) := by decide +kernel
theorem dX3_valueAt_21 : decode cX3_valueAt 21 = .ok (.dstore 4, 2) := by decide +kernel
theorem dX3_valueAt_23 : decode cX3_valueAt 23 = .ok (.iinc 6 (-1), 3) := by decide +kernel
theorem dX3_valueAt_26 : decode cX3_valueAt 26 = .ok (.goto (-20), 3) := by decide +kernel
theorem dX3_valueAt_29 : decode cX3_valueAt 29 = .ok (.dload 4, 2) := by decide +kernel
theorem dX3_valueAt_31 : decode cX3_valueAt 31 = .ok (.dreturn, 1) := by decide +kernel
theorem dX3_isPlace_0 : decode cX3_isPlace 0 = .ok (.dload_n 1, 1) := by decide +kernel
theorem dX3_isPlace_1 : decode cX3_isPlace 1 = .ok (.ldc2_w 125, 3) := by decide +kernel
theorem dX3_isPlace_4 : decode cX3_isPlace 4 = .ok (.dcmp .l, 1) := by decide +kernel
theorem dX3_isPlace_5 : decode cX3_isPlace 5 = .ok (.ifCond .lt 15, 3) := by decide +kernel
theorem dX3_isPlace_8 : decode cX3_isPlace 8 = .ok (.dload_n 1, 1) := by decide +kernel
theorem dX3_isPlace_9 : decode cX3_isPlace 9 = .ok (.ldc2_w 127, 3) := by decide +kernel
theorem dX3_isPlace_12 : decode cX3_isPlace 12 = .ok (.dcmp .g, 1) := by decide +kernel
theorem dX3_isPlace_13 : decode cX3_isPlace 13 = .ok (.ifCond .gt 7, 3) := by decide +kernel
theorem dX3_isPlace_16 : decode cX3_isPlace 16 = .ok (.iconst 1, 1) := by decide +kernel
theorem dX3_isPlace_17 : decode cX3_isPlace 17 = .ok (.goto 4, 3) := by decide +kernel
theorem dX3_isPlace_20 : decode cX3_isPlace 20 = .ok (.iconst 0, 1) := by decide +kernel
theorem dX3_isPlace_21 : decode cX3_isPlace 21 = .ok (.ireturn, 1) := by decide +kernel
theorem dX3_at_0 : decode cX3_at 0 = .ok (.aload_n 0, 1) := by decide +kernel
theorem dX3_at_1 : decode cX3_at 1 = .ok (.aload_n 0, 1) := by decide +kernel
theorem dX3_at_2 : decode cX3_at 2 = .ok (.dload_n 1, 1) := by decide +kernel
theorem dX3_at_3 : decode cX3_at 3 = .ok (.invokevirtual 129, 3) := by decide +kernel
theorem dX3_at_6 : decode cX3_at 6 = .ok (.ifCond .eq 7, 3) := by decide +kernel
theorem dX3_at_9 : decode cX3_at 9 = .ok (.iconst 0, 1) := by decide +kernel
theorem dX3_at_10 : decode cX3_at 10 = .ok (.goto 4, 3) := by decide +kernel
theorem dX3_at_13 : decode cX3_at 13 = .ok (.iconst 1, 1) := by decide +kernel
theorem dX3_at_14 : decode cX3_at 14 = .ok (.putfield 46, 3) := by decide +kernel
theorem dX3_at_17 : decode cX3_at 17 = .ok (.aload_n 0, 1) := by decide +kernel
theorem dX3_at_18 : decode cX3_at 18 = .ok (.getfield 46, 3) := by decide +kernel
theorem dX3_at_21 : decode cX3_at 21 = .ok (.ifCond .le 5, 3) := by decide +kernel
theorem dX3_at_24 : decode cX3_at 24 = .ok (.dconst 0, 1) := by decide +kernel
theorem dX3_at_25 : decode cX3_at 25 = .ok (.dreturn, 1) := by decide +kernel
theorem dX3_at_26 : decode cX3_at 26 = .ok (.aload_n 0, 1) := by decide +kernel
theorem dX3_at_27 : decode cX3_at 27 = .ok (.getfield 17, 3) := by decide +kernel
theorem dX3_at_30 : decode cX3_at 30 = .ok (.iconst 5, 1) := by decide +kernel
theorem dX3_at_31 : decode cX3_at 31 = .ok (.dload_n 1, 1) := by decide +kernel
theorem dX3_at_32 : decode cX3_at 32 = .ok (.invokestatic 133, 3) := by decide +kernel
theorem dX3_at_35 : decode cX3_at 35 = .ok (.dstore_n 3, 1) := by decide +kernel
theorem dX3_at_36 : decode cX3_at 36 = .ok (.dload_n 3, 1) := by decide +kernel
theorem dX3_at_37 : decode cX3_at 37 = .ok (.dconst 0, 1) := by decide +kernel
theorem dX3_at_38 : decode cX3_at 38 = .ok (.dcmp .l, 1) := by decide +kernel
theorem dX3_at_39 : decode cX3_at 39 = .ok (.ifCond .ne 7, 3) := by decide +kernel
theorem dX3_at_42 : decode cX3_at 42 = .ok (.dconst 0, 1) := by decide +kernel
theorem dX3_at_43 : decode cX3_at 43 = .ok (.goto 15, 3) := by decide +kernel
theorem dX3_at_46 : decode cX3_at 46 = .ok (.aload_n 0, 1) := by decide +kernel
theorem dX3_at_47 : decode cX3_at 47 = .ok (.getfield 13, 3) := by decide +kernel
theorem dX3_at_50 : decode cX3_at 50 = .ok (.bipush 6, 2) := by decide +kernel
theorem dX3_at_52 : decode cX3_at 52 = .ok (.dload_n 1, 1) := by decide +kernel
theorem dX3_at_53 : decode cX3_at 53 = .ok (.invokestatic 133, 3) := by decide +kernel
theorem dX3_at_56 : decode cX3_at 56 = .ok (.dload_n 3, 1) := by decide +kernel
theorem dX3_at_57 : decode cX3_at 57 = .ok (.ddiv, 1) := by decide +kernel
theorem dX3_at_58 : decode cX3_at 58 = .ok (.dreturn, 1) := by decide +kernel
theorem dX3_byParts_0 : decode cX3_byParts 0 = .ok (.aload_n 0, 1) := by decide +kernel
theorem dX3_byParts_1 : decode cX3_byParts 1 = .ok (.aload_n 0, 1) := by decide +kernel
theorem dX3_byParts_2 : decode cX3_byParts 2 = .ok (.dload_n 1, 1) := by decide +kernel
theorem dX3_byParts_3 : decode cX3_byParts 3 = .ok (.invokevirtual 129, 3) := by decide +kernel
theorem dX3_byParts_6 : decode cX3_byParts 6 = .ok (.ifCond .eq 7, 3) := by decide +kernel
theorem dX3_byParts_9 : decode cX3_byParts 9 = .ok (.iconst 0, 1) := by decide +kernel
theorem dX3_byParts_10 : decode cX3_byParts 10 = .ok (.goto 4, 3) := by decide +kernel
theorem dX3_byParts_13 : decode cX3_byParts 13 = .ok (.iconst 1, 1) := by decide +kernel
theorem dX3_byParts_14 : decode cX3_byParts 14 = .ok (.putfield 46, 3) := by decide +kernel
theorem dX3_byParts_17 : decode cX3_byParts 17 = .ok (.aload_n 0, 1) := by decide +kernel
theorem dX3_byParts_18 : decode cX3_byParts 18 = .ok (.getfield 46, 3) := by decide +kernel
theorem dX3_byParts_21 : decode cX3_byParts 21 = .ok (.ifCond .le 5, 3) := by decide +kernel
theorem dX3_byParts_24 : decode cX3_byParts 24 = .ok (.dconst 0, 1) := by decide +kernel
theorem dX3_byParts_25 : decode cX3_byParts 25 = .ok (.dreturn, 1) := by decide +kernel
theorem dX3_byParts_26 : decode cX3_byParts 26 = .ok (.aload_n 0, 1) := by decide +kernel
theorem dX3_byParts_27 : decode cX3_byParts 27 = .ok (.invokevirtual 93, 3) := by decide +kernel
theorem dX3_byParts_30 : decode cX3_byParts 30 = .ok (.aload_n 0, 1) := by decide +kernel
theorem dX3_byParts_31 : decode cX3_byParts 31 = .ok (.getfield 20, 3) := by decide +kernel
theorem dX3_byParts_34 : decode cX3_byParts 34 = .ok (.bipush 6, 2) := by decide +kernel
theorem dX3_byParts_36 : decode cX3_byParts 36 = .ok (.dload_n 1, 1) := by decide +kernel
theorem dX3_byParts_37 : decode cX3_byParts 37 = .ok (.invokestatic 133, 3) := by decide +kernel
theorem dX3_byParts_40 : decode cX3_byParts 40 = .ok (.dstore_n 3, 1) := by decide +kernel
theorem dX3_byParts_41 : decode cX3_byParts 41 = .ok (.bipush (-3), 2) := by decide +kernel
theorem dX3_byParts_43 : decode cX3_byParts 43 = .ok (.istore 5, 2) := by decide +kernel
theorem dX3_byParts_45 : decode cX3_byParts 45 = .ok (.iload 5, 2) := by decide +kernel
theorem dX3_byParts_47 : decode cX3_byParts 47 = .ok (.iconst 4, 1) := by decide +kernel
theorem dX3_byParts_48 : decode cX3_byParts 48 = .ok (.if_icmp .ge 95, 3) := by decide +kernel
theorem dX3_byParts_51 : decode cX3_byParts 51 = .ok (.dconst 1, 1) := by decide +kernel
theorem dX3_byParts_52 : decode cX3_byParts 52 = .ok (.dstore 6, 2) := by decide +kernel
theorem dX3_byParts_54 : decode cX3_byParts 54 = .ok (.iconst 1, 1) := by decide +kernel
theorem dX3_byParts_55 : decode cX3_byParts 55 = .ok (.istore 8, 2) := by decide +kernel
theorem dX3_byParts_57 : decode cX3_byParts 57 = .ok (.iload 8, 2) := by decide +kernel
theorem dX3_byParts_59 : decode cX3_byParts 59 = .ok (.aload_n 0, 1) := by decide +kernel
theorem dX3_byParts_60 : decode cX3_byParts 60 = .ok (.getfield 27, 3) := by decide +kernel
theorem dX3_byParts_63 : decode cX3_byParts 63 = .ok (.iload 5, 2) := by decide +kernel
theorem dX3_byParts_65 : decode cX3_byParts 65 = .ok (.iconst 3, 1) := by decide +kernel
theorem dX3_byParts_66 : decode cX3_byParts 66 = .ok (.iadd, 1) := by decide +kernel
theorem dX3_byParts_67 : decode cX3_byParts 67 = .ok (.iaload, 1) := by decide +kernel
theorem dX3_byParts_68 : decode cX3_byParts 68 = .ok (.if_icmp .gt 69, 3) := by decide +kernel
theorem dX3_byParts_71 : decode cX3_byParts 71 = .ok (.iload 8, 2) := by decide +kernel
theorem dX3_byParts_73 : decode cX3_byParts 73 = .ok (.iconst 1, 1) := by decide +kernel
theorem dX3_byParts_74 : decode cX3_byParts 74 = .ok (.if_icmp .ne 11, 3) := by decide +kernel
theorem dX3_byParts_77 : decode cX3_byParts 77 = .ok (.dload_n 1, 1) := by decide +kernel
theorem dX3_byParts_78 : decode cX3_byParts 78 = .ok (.iload 5, 2) := by decide +kernel
theorem dX3_byParts_80 : decode cX3_byParts 80 = .ok (.i2d, 1) := by decide +kernel
theorem dX3_byParts_81 : decode cX3_byParts 81 = .ok (.dsub, 1) := by decide +kernel
theorem dX3_byParts_82 : decode cX3_byParts 82 = .ok (.goto 11, 3) := by decide +kernel
theorem dX3_byParts_85 : decode cX3_byParts 85 = .ok (.dload 6, 2) := by decide +kernel
theorem dX3_byParts_87 : decode cX3_byParts 87 = .ok (.dload_n 1, 1) := by decide +kernel
theorem dX3_byParts_88 : decode cX3_byParts 88 = .ok (.iload 5, 2) := by decide +kernel
theorem dX3_byParts_90 : decode cX3_byParts 90 = .ok (.i2d, 1) := by decide +kernel
theorem dX3_byParts_91 : decode cX3_byParts 91 = .ok (.dsub, 1) := by decide +kernel
theorem dX3_byParts_92 : decode cX3_byParts 92 = .ok (.dmul, 1) := by decide +kernel
theorem dX3_byParts_93 : decode cX3_byParts 93 = .ok (.dstore 6, 2) := by decide +kernel
theorem dX3_byParts_95 : decode cX3_byParts 95 = .ok (.aload_n 0, 1) := by decide +kernel
theorem dX3_byParts_96 : decode cX3_byParts 96 = .ok (.iload 5, 2) := by decide +kernel
theorem dX3_byParts_98 : decode cX3_byParts 98 = .ok (.iload 8, 2) := by decide +kernel
theorem dX3_byParts_100 : decode cX3_byParts 100 = .ok (.invokevirtual 117, 3) := by decide +kernel
theorem dX3_byParts_103 : decode cX3_byParts 103 = .ok (.dload 6, 2) := by decide +kernel
theorem dX3_byParts_105 : decode cX3_byParts 105 = .ok (.dconst 0, 1) := by decide +kernel
theorem dX3_byParts_106 : decode cX3_byParts 106 = .ok (.dcmp .l, 1) := by decide +kernel
theorem dX3_byParts_107 : decode cX3_byParts 107 = .ok (.ifCond .ne 7, 3) := by decide +kernel
theorem dX3_byParts_110 : decode cX3_byParts 110 = .ok (.dload_n 3, 1) := by decide +kernel
theorem dX3_byParts_111 : decode cX3_byParts 111 = .ok (.goto 19, 3) := by decide +kernel
theorem dX3_byParts_114 : decode cX3_byParts 114 = .ok (.dload_n 3, 1) := by decide +kernel
theorem dX3_byParts_115 : decode cX3_byParts 115 = .ok (.aload_n 0, 1) := by decide +kernel
theorem dX3_byParts_116 : decode cX3_byParts 116 = .ok (.getfield 96, 3) := by decide +kernel
theorem dX3_byParts_119 : decode cX3_byParts 119 = .ok (.l2d, 1) := by decide +kernel
theorem dX3_byParts_120 : decode cX3_byParts 120 = .ok (.aload_n 0, 1) := by decide +kernel
theorem dX3_byParts_121 : decode cX3_byParts 121 = .ok (.getfield 100, 3) := by decide +kernel
theorem dX3_byParts_124 : decode cX3_byParts 124 = .ok (.l2d, 1) := by decide +kernel
theorem dX3_byParts_125 : decode cX3_byParts 125 = .ok (.ddiv, 1) := by decide +kernel
theorem dX3_byParts_126 : decode cX3_byParts 126 = .ok (.dload 6, 2) := by decide +kernel
theorem dX3_byParts_128 : decode cX3_byParts 128 = .ok (.ddiv, 1) := by decide +kernel
theorem dX3_byParts_129 : decode cX3_byParts 129 = .ok (.dadd, 1) := by decide +kernel
theorem dX3_byParts_130 : decode cX3_byParts 130 = .ok (.dstore_n 3, 1) := by decide +kernel
theorem dX3_byParts_131 : decode cX3_byParts 131 = .ok (.iinc 8 1, 3) := by decide +kernel
theorem dX3_byParts_134 : decode cX3_byParts 134 = .ok (.goto (-77), 3) := by decide +kernel
theorem dX3_byParts_137 : decode cX3_byParts 137 = .ok (.iinc 5 1, 3) := by decide +kernel
theorem dX3_byParts_140 : decode cX3_byParts 140 = .ok (.goto (-95), 3) := by decide +kernel
theorem dX3_byParts_143 : decode cX3_byParts 143 = .ok (.dload_n 3, 1) := by decide +kernel
theorem dX3_byParts_144 : decode cX3_byParts 144 = .ok (.dreturn, 1) := by decide +kernel
