theorem dX0_init_0 : decode cX0_init 0 = .ok (.aload_n 0, 1) := by decide +kernel
theorem dX0_init_1 : decode cX0_init 1 = .ok (.invokespecial 3, 3) := by decide +kernel
theorem dX0_init_4 : decode cX0_init 4 = .ok (.aload_n 0, 1) := by decide +kernel
theorem dX0_init_5 : decode cX0_init 5 = .ok (.bipush 30, 2) := by decide +kernel
theorem dX0_init_7 : decode cX0_init 7 = .ok (.newarray .char, 2) := by decide +kernel
theorem dX0_init_9 : decode cX0_init 9 = .ok (.putfield 9, 3) := by decide +kernel
theorem dX0_init_12 : decode cX0_init 12 = .ok (.return_, 1) := by decide +kernel
theorem dX0_append_0 : decode cX0_append 0 = .ok (.aload_n 0, 1) := by decide +kernel
theorem dX0_append_1 : decode cX0_append 1 = .ok (.getfield 15, 3) := by decide +kernel
theorem dX0_append_4 : decode cX0_append 4 = .ok (.bipush 30, 2) := by decide +kernel
theorem dX0_append_6 : decode cX0_append 6 = .ok (.if_icmp .ge 15, 3) := by decide +kernel
theorem dX0_append_9 : decode cX0_append 9 = .ok (.iload_n 1, 1) := by decide +kernel
theorem dX0_append_10 : decode cX0_append 10 = .ok (.bipush 32, 2) := by decide +kernel
theorem dX0_append_12 : decode cX0_append 12 = .ok (.if_icmp .lt 9, 3) := by decide +kernel
theorem dX0_append_15 : decode cX0_append 15 = .ok (.iload_n 1, 1) := by decide +kernel
theorem dX0_append_16 : decode cX0_append 16 = .ok (.bipush 126, 2) := by decide +kernel
theorem dX0_append_18 : decode cX0_append 18 = .ok (.if_icmp .le 5, 3) := by decide +kernel
theorem dX0_append_21 : decode cX0_append 21 = .ok (.iconst 0, 1) := by decide +kernel
theorem dX0_append_22 : decode cX0_append 22 = .ok (.ireturn, 1) := by decide +kernel
theorem dX0_append_23 : decode cX0_append 23 = .ok (.aload_n 0, 1) := by decide +kernel
theorem dX0_append_24 : decode cX0_append 24 = .ok (.getfield 9, 3) := by decide +kernel
theorem dX0_append_27 : decode cX0_append 27 = .ok (.aload_n 0, 1) := by decide +kernel
theorem dX0_append_28 : decode cX0_append 28 = .ok (.getfield 15, 3) := by decide +kernel
theorem dX0_append_31 : decode cX0_append 31 = .ok (.iload_n 1, 1) := by decide +kernel
theorem dX0_append_32 : decode cX0_append 32 = .ok (.castore, 1) := by decide +kernel
theorem dX0_append_33 : decode cX0_append 33 = .ok (.aload_n 0, 1) := by decide +kernel
theorem dX0_append_34 : decode cX0_append 34 = .ok (.dup, 1) := by decide +kernel
theorem dX0_append_35 : decode cX0_append 35 = .ok (.getfield 15, 3) := by decide +kernel
theorem dX0_append_38 : decode cX0_append 38 = .ok (.iconst 1, 1) := by decide +kernel
theorem dX0_append_39 : decode cX0_append 39 = .ok (.iadd, 1) := by decide +kernel
theorem dX0_append_40 : decode cX0_append 40 = .ok (.putfield 15, 3) := by decide +kernel
theorem dX0_append_43 : decode cX0_append 43 = .ok (.iconst 1, 1) := by decide +kernel
theorem dX0_append_44 : decode cX0_append 44 = .ok (.ireturn, 1) := by decide +kernel
theorem dX0_empty_0 : decode cX0_empty 0 = .ok (.aload_n 0, 1) := by decide +kernel
theorem dX0_empty_1 : decode cX0_empty 1 = .ok (.iconst 0, 1) := by decide +kernel
theorem dX0_empty_2 : decode cX0_empty 2 = .ok (.putfield 15, 3) := by decide +kernel
theorem dX0_empty_5 : decode cX0_empty 5 = .ok (.aload_n 0, 1) := by decide +kernel
theorem dX0_empty_6 : decode cX0_empty 6 = .ok (.iconst 0, 1) := by decide +kernel
theorem dX0_empty_7 : decode cX0_empty 7 = .ok (.putfield 19, 3) := by decide +kernel
theorem dX0_empty_10 : decode cX0_empty 10 = .ok (.return_, 1) := by decide +kernel
theorem dX0_isAtEnd_0 : decode cX0_isAtEnd 0 = .ok (.aload_n 0, 1) := by decide +kernel
theorem dX0_isAtEnd_1 : decode cX0_isAtEnd 1 = .ok (.getfield 19, 3) := by decide +kernel
theorem dX0_isAtEnd_4 : decode cX0_isAtEnd 4 = .ok (.aload_n 0, 1) := by decide +kernel
theorem dX0_isAtEnd_5 : decode cX0_isAtEnd 5 = .ok (.getfield 15, 3) := by decide +kernel
theorem dX0_isAtEnd_8 : decode cX0_isAtEnd 8 = .ok (.if_icmp .lt 7, 3) := by decide +kernel
theorem dX0_isAtEnd_11 : decode cX0_isAtEnd 11 = .ok (.iconst 1, 1) := by decide +kernel
theorem dX0_isAtEnd_12 : decode cX0_isAtEnd 12 = .ok (.goto 4, 3) := by decide +kernel
theorem dX0_isAtEnd_15 : decode cX0_isAtEnd 15 = .ok (.iconst 0, 1) := by decide +kernel
theorem dX0_isAtEnd_16 : decode cX0_isAtEnd 16 = .ok (.ireturn, 1) := by decide +kernel
theorem dX0_takes_0 : decode cX0_takes 0 = .ok (.aload_n 0, 1) := by decide +kernel
theorem dX0_takes_1 : decode cX0_takes 1 = .ok (.invokevirtual 22, 3) := by decide +kernel
theorem dX0_takes_4 : decode cX0_takes 4 = .ok (.ifCond .ne 20, 3) := by decide +kernel
theorem dX0_takes_7 : decode cX0_takes 7 = .ok (.aload_n 0, 1) := by decide +kernel
theorem dX0_takes_8 : decode cX0_takes 8 = .ok (.getfield 9, 3) := by decide +kernel
theorem dX0_takes_11 : decode cX0_takes 11 = .ok (.aload_n 0, 1) := by decide +kernel
theorem dX0_takes_12 : decode cX0_takes 12 = .ok (.getfield 19, 3) := by decide +kernel
theorem dX0_takes_15 : decode cX0_takes 15 = .ok (.caload, 1) := by decide +kernel
theorem dX0_takes_16 : decode cX0_takes 16 = .ok (.iload_n 1, 1) := by decide +kernel
theorem dX0_takes_17 : decode cX0_takes 17 = .ok (.if_icmp .ne 7, 3) := by decide +kernel
theorem dX0_takes_20 : decode cX0_takes 20 = .ok (.iconst 1, 1) := by decide +kernel
theorem dX0_takes_21 : decode cX0_takes 21 = .ok (.goto 4, 3) := by decide +kernel
theorem dX0_takes_24 : decode cX0_takes 24 = .ok (.iconst 0, 1) := by decide +kernel
theorem dX0_takes_25 : decode cX0_takes 25 = .ok (.istore_n 2, 1) := by decide +kernel
theorem dX0_takes_26 : decode cX0_takes 26 = .ok (.iload_n 2, 1) := by decide +kernel
theorem dX0_takes_27 : decode cX0_takes 27 = .ok (.ifCond .eq 13, 3) := by decide +kernel
theorem dX0_takes_30 : decode cX0_takes 30 = .ok (.aload_n 0, 1) := by decide +kernel
theorem dX0_takes_31 : decode cX0_takes 31 = .ok (.dup, 1) := by decide +kernel
theorem dX0_takes_32 : decode cX0_takes 32 = .ok (.getfield 19, 3) := by decide +kernel
theorem dX0_takes_35 : decode cX0_takes 35 = .ok (.iconst 1, 1) := by decide +kernel
theorem dX0_takes_36 : decode cX0_takes 36 = .ok (.iadd, 1) := by decide +kernel
theorem dX0_takes_37 : decode cX0_takes 37 = .ok (.putfield 19, 3) := by decide +kernel
theorem dX0_takes_40 : decode cX0_takes 40 = .ok (.iload_n 2, 1) := by decide +kernel
theorem dX0_takes_41 : decode cX0_takes 41 = .ok (.ireturn, 1) := by decide +kernel
theorem dX0_takeDigit_0 : decode cX0_takeDigit 0 = .ok (.aload_n 0, 1) := by decide +kernel
theorem dX0_takeDigit_1 : decode cX0_takeDigit 1 = .ok (.invokevirtual 22, 3) := by decide +kernel
theorem dX0_takeDigit_4 : decode cX0_takeDigit 4 = .ok (.ifCond .eq 7, 3) := by decide +kernel
theorem dX0_takeDigit_7 : decode cX0_takeDigit 7 = .ok (.iconst (-1), 1) := by decide +kernel
theorem dX0_takeDigit_8 : decode cX0_takeDigit 8 = .ok (.goto 15, 3) := by decide +kernel
theorem dX0_takeDigit_11 : decode cX0_takeDigit 11 = .ok (.aload_n 0, 1) := by decide +kernel
theorem dX0_takeDigit_12 : decode cX0_takeDigit 12 = .ok (.getfield 9, 3) := by decide +kernel
theorem dX0_takeDigit_15 : decode cX0_takeDigit 15 = .ok (.aload_n 0, 1) := by decide +kernel
theorem dX0_takeDigit_16 : decode cX0_takeDigit 16 = .ok (.getfield 19, 3) := by decide +kernel
theorem dX0_takeDigit_19 : decode cX0_takeDigit 19 = .ok (.caload, 1) := by decide +kernel
theorem dX0_takeDigit_20 : decode cX0_takeDigit 20 = .ok (.bipush 48, 2) := by decide +kernel
theorem dX0_takeDigit_22 : decode cX0_takeDigit 22 = .ok (.isub, 1) := by decide +kernel
theorem dX0_takeDigit_23 : decode cX0_takeDigit 23 = .ok (.istore_n 3, 1) := by decide +kernel
theorem dX0_takeDigit_24 : decode cX0_takeDigit 24 = .ok (.iload_n 3, 1) := by decide +kernel
theorem dX0_takeDigit_25 : decode cX0_takeDigit 25 = .ok (.iload_n 1, 1) := by decide +kernel
theorem dX0_takeDigit_26 : decode cX0_takeDigit 26 = .ok (.if_icmp .lt 8, 3) := by decide +kernel
theorem dX0_takeDigit_29 : decode cX0_takeDigit 29 = .ok (.iload_n 3, 1) := by decide +kernel
theorem dX0_takeDigit_30 : decode cX0_takeDigit 30 = .ok (.iload_n 2, 1) := by decide +kernel
theorem dX0_takeDigit_31 : decode cX0_takeDigit 31 = .ok (.if_icmp .le 5, 3) := by decide +kernel
theorem dX0_takeDigit_34 : decode cX0_takeDigit 34 = .ok (.iconst (-1), 1) := by decide +kernel
theorem dX0_takeDigit_35 : decode cX0_takeDigit 35 = .ok (.ireturn, 1) := by decide +kernel
theorem dX0_takeDigit_36 : decode cX0_takeDigit 36 = .ok (.aload_n 0, 1) := by decide +kernel
theorem dX0_takeDigit_37 : decode cX0_takeDigit 37 = .ok (.dup, 1) := by decide +kernel
theorem dX0_takeDigit_38 : decode cX0_takeDigit 38 = .ok (.getfield 19, 3) := by decide +kernel
theorem dX0_takeDigit_41 : decode cX0_takeDigit 41 = .ok (.iconst 1, 1) := by decide +kernel
theorem dX0_takeDigit_42 : decode cX0_takeDigit 42 = .ok (.iadd, 1) := by decide +kernel
theorem dX0_takeDigit_43 : decode cX0_takeDigit 43 = .ok (.putfield 19, 3) := by decide +kernel
theorem dX0_takeDigit_46 : decode cX0_takeDigit 46 = .ok (.iload_n 3, 1) := by decide +kernel
theorem dX0_takeDigit_47 : decode cX0_takeDigit 47 = .ok (.ireturn, 1) := by decide +kernel
theorem dX1_init_0 : decode cX1_init 0 = .ok (.aload_n 0, 1) := by decide +kernel
theorem dX1_init_1 : decode cX1_init 1 = .ok (.invokespecial 3, 3) := by decide +kernel
theorem dX1_init_4 : decode cX1_init 4 = .ok (.aload_n 0, 1) := by decide +kernel
theorem dX1_init_5 : decode cX1_init 5 = .ok (.bipush 7, 2) := by decide +kernel
theorem dX1_init_7 : decode cX1_init 7 = .ok (.newarray .long, 2) := by decide +kernel
theorem dX1_init_9 : decode cX1_init 9 = .ok (.putfield 9, 3) := by decide +kernel
theorem dX1_init_12 : decode cX1_init 12 = .ok (.return_, 1) := by decide +kernel
theorem dX1_becomeZero_0 : decode cX1_becomeZero 0 = .ok (.aload_n 0, 1) := by decide +kernel
theorem dX1_becomeZero_1 : decode cX1_becomeZero 1 = .ok (.getfield 9, 3) := by decide +kernel
theorem dX1_becomeZero_4 : decode cX1_becomeZero 4 = .ok (.lconst 0, 1) := by decide +kernel
theorem dX1_becomeZero_5 : decode cX1_becomeZero 5 = .ok (.invokestatic 15, 3) := by decide +kernel
theorem dX1_becomeZero_8 : decode cX1_becomeZero 8 = .ok (.return_, 1) := by decide +kernel
theorem dX1_becomeOne_0 : decode cX1_becomeOne 0 = .ok (.aload_n 0, 1) := by decide +kernel
theorem dX1_becomeOne_1 : decode cX1_becomeOne 1 = .ok (.invokevirtual 21, 3) := by decide +kernel
theorem dX1_becomeOne_4 : decode cX1_becomeOne 4 = .ok (.aload_n 0, 1) := by decide +kernel
theorem dX1_becomeOne_5 : decode cX1_becomeOne 5 = .ok (.getfield 9, 3) := by decide +kernel
theorem dX1_becomeOne_8 : decode cX1_becomeOne 8 = .ok (.iconst 0, 1) := by decide +kernel
theorem dX1_becomeOne_9 : decode cX1_becomeOne 9 = .ok (.lconst 1, 1) := by decide +kernel
theorem dX1_becomeOne_10 : decode cX1_becomeOne 10 = .ok (.lastore, 1) := by decide +kernel
theorem dX1_becomeOne_11 : decode cX1_becomeOne 11 = .ok (.return_, 1) := by decide +kernel
theorem dX1_become_0 : decode cX1_become 0 = .ok (.aload_n 1, 1) := by decide +kernel
theorem dX1_become_1 : decode cX1_become 1 = .ok (.getfield 9, 3) := by decide +kernel
theorem dX1_become_4 : decode cX1_become 4 = .ok (.iconst 0, 1) := by decide +kernel
theorem dX1_become_5 : decode cX1_become 5 = .ok (.aload_n 0, 1) := by decide +kernel
theorem dX1_become_6 : decode cX1_become 6 = .ok (.getfield 9, 3) := by decide +kernel
theorem dX1_become_9 : decode cX1_become 9 = .ok (.iconst 0, 1) := by decide +kernel
theorem dX1_become_10 : decode cX1_become 10 = .ok (.bipush 7, 2) := by decide +kernel
theorem dX1_become_12 : decode cX1_become 12 = .ok (.invokestatic 24, 3) := by decide +kernel
theorem dX1_become_15 : decode cX1_become 15 = .ok (.return_, 1) := by decide +kernel
theorem dX1_get_0 : decode cX1_get 0 = .ok (.iload_n 1, 1) := by decide +kernel
theorem dX1_get_1 : decode cX1_get 1 = .ok (.ifCond .lt 18, 3) := by decide +kernel
theorem dX1_get_4 : decode cX1_get 4 = .ok (.iload_n 1, 1) := by decide +kernel
theorem dX1_get_5 : decode cX1_get 5 = .ok (.bipush 6, 2) := by decide +kernel
theorem dX1_get_7 : decode cX1_get 7 = .ok (.if_icmp .gt 12, 3) := by decide +kernel
theorem dX1_get_10 : decode cX1_get 10 = .ok (.aload_n 0, 1) := by decide +kernel
theorem dX1_get_11 : decode cX1_get 11 = .ok (.getfield 9, 3) := by decide +kernel
theorem dX1_get_14 : decode cX1_get 14 = .ok (.iload_n 1, 1) := by decide +kernel
theorem dX1_get_15 : decode cX1_get 15 = .ok (.laload, 1) := by decide +kernel
theorem dX1_get_16 : decode cX1_get 16 = .ok (.goto 4, 3) := by decide +kernel
theorem dX1_get_19 : decode cX1_get 19 = .ok (.lconst 0, 1) := by decide +kernel
theorem dX1_get_20 : decode cX1_get 20 = .ok (.lreturn, 1) := by decide +kernel
theorem dX1_add_0 : decode cX1_add 0 = .ok (.iload_n 3, 1) := by decide +kernel
theorem dX1_add_1 : decode cX1_add 1 = .ok (.ifCond .lt 19, 3) := by decide +kernel
theorem dX1_add_4 : decode cX1_add 4 = .ok (.iload_n 3, 1) := by decide +kernel
theorem dX1_add_5 : decode cX1_add 5 = .ok (.bipush 6, 2) := by decide +kernel
theorem dX1_add_7 : decode cX1_add 7 = .ok (.if_icmp .gt 13, 3) := by decide +kernel
theorem dX1_add_10 : decode cX1_add 10 = .ok (.aload_n 0, 1) := by decide +kernel
theorem dX1_add_11 : decode cX1_add 11 = .ok (.getfield 9, 3) := by decide +kernel
theorem dX1_add_14 : decode cX1_add 14 = .ok (.iload_n 3, 1) := by decide +kernel
theorem dX1_add_15 : decode cX1_add 15 = .ok (.dup2, 1) := by decide +kernel
theorem dX1_add_16 : decode cX1_add 16 = .ok (.laload, 1) := by decide +kernel
theorem dX1_add_17 : decode cX1_add 17 = .ok (.lload_n 1, 1) := by decide +kernel
theorem dX1_add_18 : decode cX1_add 18 = .ok (.ladd, 1) := by decide +kernel
theorem dX1_add_19 : decode cX1_add 19 = .ok (.lastore, 1) := by decide +kernel
theorem dX1_add_20 : decode cX1_add 20 = .ok (.return_, 1) := by decide +kernel
theorem dX1_degree_0 : decode cX1_degree 0 = .ok (.bipush 6, 2) := by decide +kernel
theorem dX1_degree_2 : decode cX1_degree 2 = .ok (.istore_n 1, 1) := by decide +kernel
theorem dX1_degree_3 : decode cX1_degree 3 = .ok (.iload_n 1, 1) := by decide +kernel
theorem dX1_degree_4 : decode cX1_degree 4 = .ok (.ifCond .le 20, 3) := by decide +kernel
theorem dX1_degree_7 : decode cX1_degree 7 = .ok (.aload_n 0, 1) := by decide +kernel
theorem dX1_degree_8 : decode cX1_degree 8 = .ok (.getfield 9, 3) := by decide +kernel
theorem dX1_degree_11 : decode cX1_degree 11 = .ok (.iload_n 1, 1) := by decide +kernel
theorem dX1_degree_12 : decode cX1_degree 12 = .ok (.laload, 1) := by decide +kernel
theorem dX1_degree_13 : decode cX1_degree 13 = .ok (.lconst 0, 1) := by decide +kernel
theorem dX1_degree_14 : decode cX1_degree 14 = .ok (.lcmp, 1) := by decide +kernel
theorem dX1_degree_15 : decode cX1_degree 15 = .ok (.ifCond .ne 9, 3) := by decide +kernel
theorem dX1_degree_18 : decode cX1_degree 18 = .ok (.iinc 1 (-1), 3) := by decide +kernel
theorem dX1_degree_21 : decode cX1_degree 21 = .ok (.goto (-18), 3) := by decide +kernel
theorem dX1_degree_24 : decode cX1_degree 24 = .ok (.iload_n 1, 1) := by decide +kernel
theorem dX1_degree_25 : decode cX1_degree 25 = .ok (.ireturn, 1) := by decide +kernel
theorem dX1_multiplyByFactorOf_0 : decode cX1_multiplyByFactorOf 0 = .ok (.bipush 6, 2) := by decide +kernel
theorem dX1_multiplyByFactorOf_2 : decode cX1_multiplyByFactorOf 2 = .ok (.istore_n 2, 1) := by decide +kernel
theorem dX1_multiplyByFactorOf_3 : decode cX1_multiplyByFactorOf 3 = .ok (.iload_n 2, 1) := by decide +kernel
theorem dX1_multiplyByFactorOf_4 : decode cX1_multiplyByFactorOf 4 = .ok (.ifCond .le 33, 3) := by decide +kernel
theorem dX1_multiplyByFactorOf_7 : decode cX1_multiplyByFactorOf 7 = .ok (.aload_n 0, 1) := by decide +kernel
theorem dX1_multiplyByFactorOf_8 : decode cX1_multiplyByFactorOf 8 = .ok (.getfield 9, 3) := by decide +kernel
theorem dX1_multiplyByFactorOf_11 : decode cX1_multiplyByFactorOf 11 = .ok (.iload_n 2, 1) := by decide +kernel
theorem dX1_multiplyByFactorOf_12 : decode cX1_multiplyByFactorOf 12 = .ok (.aload_n 0, 1) := by decide +kernel
theorem dX1_multiplyByFactorOf_13 : decode cX1_multiplyByFactorOf 13 = .ok (.getfield 9, 3) := by decide +kernel
theorem dX1_multiplyByFactorOf_16 : decode cX1_multiplyByFactorOf 16 = .ok (.iload_n 2, 1) := by decide +kernel
theorem dX1_multiplyByFactorOf_17 : decode cX1_multiplyByFactorOf 17 = .ok (.iconst 1, 1) := by decide +kernel
theorem dX1_multiplyByFactorOf_18 : decode cX1_multiplyByFactorOf 18 = .ok (.isub, 1) := by decide +kernel
theorem dX1_multiplyByFactorOf_19 : decode cX1_multiplyByFactorOf 19 = .ok (.laload, 1) := by decide +kernel
theorem dX1_multiplyByFactorOf_20 : decode cX1_multiplyByFactorOf 20 = .ok (.iload_n 1, 1) := by decide +kernel
theorem dX1_multiplyByFactorOf_21 : decode cX1_multiplyByFactorOf 21 = .ok (.i2l, 1) := by decide +kernel
theorem dX1_multiplyByFactorOf_22 : decode cX1_multiplyByFactorOf 22 = .ok (.aload_n 0, 1) := by decide +kernel
theorem dX1_multiplyByFactorOf_23 : decode cX1_multiplyByFactorOf 23 = .ok (.getfield 9, 3) := by decide +kernel
theorem dX1_multiplyByFactorOf_26 : decode cX1_multiplyByFactorOf 26 = .ok (.iload_n 2, 1) := by decide +kernel
theorem dX1_multiplyByFactorOf_27 : decode cX1_multiplyByFactorOf 27 = .ok (.laload, 1) := by decide +kernel
theorem dX1_multiplyByFactorOf_28 : decode cX1_multiplyByFactorOf 28 = .ok (.lmul, 1) := by decide +kernel
theorem dX1_multiplyByFactorOf_29 : decode cX1_multiplyByFactorOf 29 = .ok (.lsub, 1) := by decide +kernel
theorem dX1_multiplyByFactorOf_30 : decode cX1_multiplyByFactorOf 30 = .ok (.lastore, 1) := by decide +kernel
theorem dX1_multiplyByFactorOf_31 : decode cX1_multiplyByFactorOf 31 = .ok (.iinc 2 (-1), 3) := by decide +kernel
theorem dX1_multiplyByFactorOf_34 : decode cX1_multiplyByFactorOf 34 = .ok (.goto (-31), 3) := by decide +kernel
theorem dX1_multiplyByFactorOf_37 : decode cX1_multiplyByFactorOf 37 = .ok (.aload_n 0, 1) := by decide +kernel
theorem dX1_multiplyByFactorOf_38 : decode cX1_multiplyByFactorOf 38 = .ok (.getfield 9, 3) := by decide +kernel
theorem dX1_multiplyByFactorOf_41 : decode cX1_multiplyByFactorOf 41 = .ok (.iconst 0, 1) := by decide +kernel
theorem dX1_multiplyByFactorOf_42 : decode cX1_multiplyByFactorOf 42 = .ok (.iload_n 1, 1) := by decide +kernel
theorem dX1_multiplyByFactorOf_43 : decode cX1_multiplyByFactorOf 43 = .ok (.ineg, 1) := by decide +kernel
theorem dX1_multiplyByFactorOf_44 : decode cX1_multiplyByFactorOf 44 = .ok (.i2l, 1) := by decide +kernel
theorem dX1_multiplyByFactorOf_45 : decode cX1_multiplyByFactorOf 45 = .ok (.aload_n 0, 1) := by decide +kernel
theorem dX1_multiplyByFactorOf_46 : decode cX1_multiplyByFactorOf 46 = .ok (.getfield 9, 3) := by decide +kernel
theorem dX1_multiplyByFactorOf_49 : decode cX1_multiplyByFactorOf 49 = .ok (.iconst 0, 1) := by decide +kernel
theorem dX1_multiplyByFactorOf_50 : decode cX1_multiplyByFactorOf 50 = .ok (.laload, 1) := by decide +kernel
theorem dX1_multiplyByFactorOf_51 : decode cX1_multiplyByFactorOf 51 = .ok (.lmul, 1) := by decide +kernel
theorem dX1_multiplyByFactorOf_52 : decode cX1_multiplyByFactorOf 52 = .ok (.lastore, 1) := by decide +kernel
theorem dX1_multiplyByFactorOf_53 : decode cX1_multiplyByFactorOf 53 = .ok (.return_, 1) := by decide +kernel
theorem dX1_divideByFactorOf_0 : decode cX1_divideByFactorOf 0 = .ok (.lconst 0, 1) := by decide +kernel
theorem dX1_divideByFactorOf_1 : decode cX1_divideByFactorOf 1 = .ok (.lstore_n 2, 1) := by decide +kernel
theorem dX1_divideByFactorOf_2 : decode cX1_divideByFactorOf 2 = .ok (.bipush 6, 2) := by decide +kernel
theorem dX1_divideByFactorOf_4 : decode cX1_divideByFactorOf 4 = .ok (.istore 4, 2) := by decide +kernel
theorem dX1_divideByFactorOf_6 : decode cX1_divideByFactorOf 6 = .ok (.iload 4, 2) := by decide +kernel
theorem dX1_divideByFactorOf_8 : decode cX1_divideByFactorOf 8 = .ok (.ifCond .lt 34, 3) := by decide +kernel
theorem dX1_divideByFactorOf_11 : decode cX1_divideByFactorOf 11 = .ok (.aload_n 0, 1) := by decide +kernel
theorem dX1_divideByFactorOf_12 : decode cX1_divideByFactorOf 12 = .ok (.getfield 9, 3) := by decide +kernel
theorem dX1_divideByFactorOf_15 : decode cX1_divideByFactorOf 15 = .ok (.iload 4, 2) := by decide +kernel
theorem dX1_divideByFactorOf_17 : decode cX1_divideByFactorOf 17 = .ok (.laload, 1) := by decide +kernel
theorem dX1_divideByFactorOf_18 : decode cX1_divideByFactorOf 18 = .ok (.iload_n 1, 1) := by decide +kernel
theorem dX1_divideByFactorOf_19 : decode cX1_divideByFactorOf 19 = .ok (.i2l, 1) := by decide +kernel
theorem dX1_divideByFactorOf_20 : decode cX1_divideByFactorOf 20 = .ok (.lload_n 2, 1) := by decide +kernel
theorem dX1_divideByFactorOf_21 : decode cX1_divideByFactorOf 21 = .ok (.lmul, 1) := by decide +kernel
theorem dX1_divideByFactorOf_22 : decode cX1_divideByFactorOf 22 = .ok (.ladd, 1) := by decide +kernel
theorem dX1_divideByFactorOf_23 : decode cX1_divideByFactorOf 23 = .ok (.lstore 5, 2) := by decide +kernel
theorem dX1_divideByFactorOf_25 : decode cX1_divideByFactorOf 25 = .ok (.aload_n 0, 1) := by decide +kernel
theorem dX1_divideByFactorOf_26 : decode cX1_divideByFactorOf 26 = .ok (.getfield 9, 3) := by decide +kernel
theorem dX1_divideByFactorOf_29 : decode cX1_divideByFactorOf 29 = .ok (.iload 4, 2) := by decide +kernel
theorem dX1_divideByFactorOf_31 : decode cX1_divideByFactorOf 31 = .ok (.lload_n 2, 1) := by decide +kernel
theorem dX1_divideByFactorOf_32 : decode cX1_divideByFactorOf 32 = .ok (.lastore, 1) := by decide +kernel
theorem dX1_divideByFactorOf_33 : decode cX1_divideByFactorOf 33 = .ok (.lload 5, 2) := by decide +kernel
theorem dX1_divideByFactorOf_35 : decode cX1_divideByFactorOf 35 = .ok (.lstore_n 2, 1) := by decide +kernel
theorem dX1_divideByFactorOf_36 : decode cX1_divideByFactorOf 36 = .ok (.iinc 4 (-1), 3) := by decide +kernel
theorem dX1_divideByFactorOf_39 : decode cX1_divideByFactorOf 39 = .ok (.goto (-33), 3) := by decide +kernel
theorem dX1_divideByFactorOf_42 : decode cX1_divideByFactorOf 42 = .ok (.lload_n 2, 1) := by decide +kernel
theorem dX1_divideByFactorOf_43 : decode cX1_divideByFactorOf 43 = .ok (.lreturn, 1) := by decide +kernel
theorem dX1_mix_0 : decode cX1_mix 0 = .ok (.iconst 0, 1) := by decide +kernel
theorem dX1_mix_1 : decode cX1_mix 1 = .ok (.istore 6, 2) := by decide +kernel
theorem dX1_mix_3 : decode cX1_mix 3 = .ok (.iload 6, 2) := by decide +kernel
theorem dX1_mix_5 : decode cX1_mix 5 = .ok (.bipush 6, 2) := by decide +kernel
theorem dX1_mix_7 : decode cX1_mix 7 = .ok (.if_icmp .gt 36, 3) := by decide +kernel
theorem dX1_mix_10 : decode cX1_mix 10 = .ok (.aload_n 0, 1) := by decide +kernel
theorem dX1_mix_11 : decode cX1_mix 11 = .ok (.getfield 9, 3) := by decide +kernel
theorem dX1_mix_14 : decode cX1_mix 14 = .ok (.iload 6, 2) := by decide +kernel
theorem dX1_mix_16 : decode cX1_mix 16 = .ok (.lload_n 1, 1) := by decide +kernel
theorem dX1_mix_17 : decode cX1_mix 17 = .ok (.aload_n 0, 1) := by decide +kernel
theorem dX1_mix_18 : decode cX1_mix 18 = .ok (.getfield 9, 3) := by decide +kernel
theorem dX1_mix_21 : decode cX1_mix 21 = .ok (.iload 6, 2) := by decide +kernel
theorem dX1_mix_23 : decode cX1_mix 23 = .ok (.laload, 1) := by decide +kernel
theorem dX1_mix_24 : decode cX1_mix 24 = .ok (.lmul, 1) := by decide +kernel
theorem dX1_mix_25 : decode cX1_mix 25 = .ok (.lload_n 3, 1) := by decide +kernel
theorem dX1_mix_26 : decode cX1_mix 26 = .ok (.aload 5, 2) := by decide +kernel
theorem dX1_mix_28 : decode cX1_mix 28 = .ok (.getfield 9, 3) := by decide +kernel
theorem dX1_mix_31 : decode cX1_mix 31 = .ok (.iload 6, 2) := by decide +kernel
theorem dX1_mix_33 : decode cX1_mix 33 = .ok (.laload, 1) := by decide +kernel
theorem dX1_mix_34 : decode cX1_mix 34 = .ok (.lmul, 1) := by decide +kernel
theorem dX1_mix_35 : decode cX1_mix 35 = .ok (.ladd, 1) := by decide +kernel
theorem dX1_mix_36 : decode cX1_mix 36 = .ok (.lastore, 1) := by decide +kernel
theorem dX1_mix_37 : decode cX1_mix 37 = .ok (.iinc 6 1, 3) := by decide +kernel
theorem dX1_mix_40 : decode cX1_mix 40 = .ok (.goto (-37), 3) := by decide +kernel
theorem dX1_mix_43 : decode cX1_mix 43 = .ok (.return_, 1) := by decide +kernel
theorem dX1_exactlyAt_0 : decode cX1_exactlyAt 0 = .ok (.lconst 0, 1) := by decide +kernel
theorem dX1_exactlyAt_1 : decode cX1_exactlyAt 1 = .ok (.lstore_n 2, 1) := by decide +kernel
theorem dX1_exactlyAt_2 : decode cX1_exactlyAt 2 = .ok (.bipush 6, 2) := by decide +kernel
theorem dX1_exactlyAt_4 : decode cX1_exactlyAt 4 = .ok (.istore 4, 2) := by decide +kernel
theorem dX1_exactlyAt_6 : decode cX1_exactlyAt 6 = .ok (.iload 4, 2) := by decide +kernel
theorem dX1_exactlyAt_8 : decode cX1_exactlyAt 8 = .ok (.ifCond .lt 22, 3) := by decide +kernel
theorem dX1_exactlyAt_11 : decode cX1_exactlyAt 11 = .ok (.lload_n 2, 1) := by decide +kernel
theorem dX1_exactlyAt_12 : decode cX1_exactlyAt 12 = .ok (.iload_n 1, 1) := by decide +kernel
theorem dX1_exactlyAt_13 : decode cX1_exactlyAt 13 = .ok (.i2l, 1) := by decide +kernel
theorem dX1_exactlyAt_14 : decode cX1_exactlyAt 14 = .ok (.lmul, 1) := by decide +kernel
theorem dX1_exactlyAt_15 : decode cX1_exactlyAt 15 = .ok (.aload_n 0, 1) := by decide +kernel
theorem dX1_exactlyAt_16 : decode cX1_exactlyAt 16 = .ok (.getfield 9, 3) := by decide +kernel
theorem dX1_exactlyAt_19 : decode cX1_exactlyAt 19 = .ok (.iload 4, 2) := by decide +kernel
theorem dX1_exactlyAt_21 : decode cX1_exactlyAt 21 = .ok (.laload, 1) := by decide +kernel
theorem dX1_exactlyAt_22 : decode cX1_exactlyAt 22 = .ok (.ladd, 1) := by decide +kernel
theorem dX1_exactlyAt_23 : decode cX1_exactlyAt 23 = .ok (.lstore_n 2, 1) := by decide +kernel
theorem dX1_exactlyAt_24 : decode cX1_exactlyAt 24 = .ok (.iinc 4 (-1), 3) := by decide +kernel
theorem dX1_exactlyAt_27 : decode cX1_exactlyAt 27 = .ok (.goto (-21), 3) := by decide +kernel
theorem dX1_exactlyAt_30 : decode cX1_exactlyAt 30 = .ok (.lload_n 2, 1) := by decide +kernel
theorem dX1_exactlyAt_31 : decode cX1_exactlyAt 31 = .ok (.lreturn, 1) := by decide +kernel
theorem dX1_inDoublesAt_0 : decode cX1_inDoublesAt 0 = .ok (.dconst 0, 1) := by decide +kernel
theorem dX1_inDoublesAt_1 : decode cX1_inDoublesAt 1 = .ok (.dstore_n 3, 1) := by decide +kernel
theorem dX1_inDoublesAt_2 : decode cX1_inDoublesAt 2 = .ok (.bipush 6, 2) := by decide +kernel
theorem dX1_inDoublesAt_4 : decode cX1_inDoublesAt 4 = .ok (.istore 5, 2) := by decide +kernel
theorem dX1_inDoublesAt_6 : decode cX1_inDoublesAt 6 = .ok (.iload 5, 2) := by decide +kernel
theorem dX1_inDoublesAt_8 : decode cX1_inDoublesAt 8 = .ok (.ifCond .lt 22, 3) := by decide +kernel
theorem dX1_inDoublesAt_11 : decode cX1_inDoublesAt 11 = .ok (.dload_n 3, 1) := by decide +kernel
theorem dX1_inDoublesAt_12 : decode cX1_inDoublesAt 12 = .ok (.dload_n 1, 1) := by decide +kernel
theorem dX1_inDoublesAt_13 : decode cX1_inDoublesAt 13 = .ok (.dmul, 1) := by decide +kernel
theorem dX1_inDoublesAt_14 : decode cX1_inDoublesAt 14 = .ok (.aload_n 0, 1) := by decide +kernel
theorem dX1_inDoublesAt_15 : decode cX1_inDoublesAt 15 = .ok (.getfield 9, 3) := by decide +kernel
theorem dX1_inDoublesAt_18 : decode cX1_inDoublesAt 18 = .ok (.iload 5, 2) := by decide +kernel
theorem dX1_inDoublesAt_20 : decode cX1_inDoublesAt 20 = .ok (.laload, 1) := by decide +kernel
theorem dX1_inDoublesAt_21 : decode cX1_inDoublesAt 21 = .ok (.l2d, 1) := by decide +kernel
theorem dX1_inDoublesAt_22 : decode cX1_inDoublesAt 22 = .ok (.dadd, 1) := by decide +kernel
theorem dX1_inDoublesAt_23 : decode cX1_inDoublesAt 23 = .ok (.dstore_n 3, 1) := by decide +kernel
theorem dX1_inDoublesAt_24 : decode cX1_inDoublesAt 24 = .ok (.iinc 5 (-1), 3) := by decide +kernel
theorem dX1_inDoublesAt_27 : decode cX1_inDoublesAt 27 = .ok (.goto (-21), 3) := by decide +kernel
theorem dX1_inDoublesAt_30 : decode cX1_inDoublesAt 30 = .ok (.dload_n 3, 1) := by decide +kernel
theorem dX1_inDoublesAt_31 : decode cX1_inDoublesAt 31 = .ok (.dreturn, 1) := by decide +kernel
theorem dX2_init_0 : decode cX2_init 0 = .ok (.aload_n 0, 1) := by decide +kernel
theorem dX2_init_1 : decode cX2_init 1 = .ok (.invokespecial 3, 3) := by decide +kernel
theorem dX2_init_4 : decode cX2_init 4 = .ok (.aload_n 0, 1) := by decide +kernel
theorem dX2_init_5 : decode cX2_init 5 = .ok (.new 9, 3) := by decide +kernel
theorem dX2_init_8 : decode cX2_init 8 = .ok (.dup, 1) := by decide +kernel
theorem dX2_init_9 : decode cX2_init 9 = .ok (.invokespecial 11, 3) := by decide +kernel
theorem dX2_init_12 : decode cX2_init 12 = .ok (.putfield 12, 3) := by decide +kernel
theorem dX2_init_15 : decode cX2_init 15 = .ok (.aload_n 0, 1) := by decide +kernel
theorem dX2_init_16 : decode cX2_init 16 = .ok (.new 16, 3) := by decide +kernel
theorem dX2_init_19 : decode cX2_init 19 = .ok (.dup, 1) := by decide +kernel
theorem dX2_init_20 : decode cX2_init 20 = .ok (.invokespecial 18, 3) := by decide +kernel
theorem dX2_init_23 : decode cX2_init 23 = .ok (.putfield 19, 3) := by decide +kernel
theorem dX2_init_26 : decode cX2_init 26 = .ok (.aload_n 0, 1) := by decide +kernel
theorem dX2_init_27 : decode cX2_init 27 = .ok (.new 16, 3) := by decide +kernel
theorem dX2_init_30 : decode cX2_init 30 = .ok (.dup, 1) := by decide +kernel
theorem dX2_init_31 : decode cX2_init 31 = .ok (.invokespecial 18, 3) := by decide +kernel
theorem dX2_init_34 : decode cX2_init 34 = .ok (.putfield 23, 3) := by decide +kernel
theorem dX2_init_37 : decode cX2_init 37 = .ok (.aload_n 0, 1) := by decide +kernel
theorem dX2_init_38 : decode cX2_init 38 = .ok (.new 16, 3) := by decide +kernel
theorem dX2_init_41 : decode cX2_init 41 = .ok (.dup, 1) := by decide +kernel
theorem dX2_init_42 : decode cX2_init 42 = .ok (.invokespecial 18, 3) := by decide +kernel
theorem dX2_init_45 : decode cX2_init 45 = .ok (.putfield 26, 3) := by decide +kernel
theorem dX2_init_48 : decode cX2_init 48 = .ok (.aload_n 0, 1) := by decide +kernel
theorem dX2_init_49 : decode cX2_init 49 = .ok (.bipush 7, 2) := by decide +kernel
theorem dX2_init_51 : decode cX2_init 51 = .ok (.newarray .int, 2) := by decide +kernel
theorem dX2_init_53 : decode cX2_init 53 = .ok (.putfield 29, 3) := by decide +kernel
theorem dX2_init_56 : decode cX2_init 56 = .ok (.aload_n 0, 1) := by decide +kernel
theorem dX2_init_57 : decode cX2_init 57 = .ok (.bipush 35, 2) := by decide +kernel
theorem dX2_init_59 : decode cX2_init 59 = .ok (.newarray .long, 2) := by decide +kernel
theorem dX2_init_61 : decode cX2_init 61 = .ok (.putfield 33, 3) := by decide +kernel
theorem dX2_init_64 : decode cX2_init 64 = .ok (.aload_n 0, 1) := by decide +kernel
theorem dX2_init_65 : decode cX2_init 65 = .ok (.bipush 35, 2) := by decide +kernel
theorem dX2_init_67 : decode cX2_init 67 = .ok (.newarray .long, 2) := by decide +kernel
theorem dX2_init_69 : decode cX2_init 69 = .ok (.putfield 37, 3) := by decide +kernel
theorem dX2_init_72 : decode cX2_init 72 = .ok (.aload_n 0, 1) := by decide +kernel
theorem dX2_init_73 : decode cX2_init 73 = .ok (.new 16, 3) := by decide +kernel
theorem dX2_init_76 : decode cX2_init 76 = .ok (.dup, 1) := by decide +kernel
theorem dX2_init_77 : decode cX2_init 77 = .ok (.invokespecial 18, 3) := by decide +kernel
theorem dX2_init_80 : decode cX2_init 80 = .ok (.putfield 40, 3) := by decide +kernel
theorem dX2_init_83 : decode cX2_init 83 = .ok (.aload_n 0, 1) := by decide +kernel
theorem dX2_init_84 : decode cX2_init 84 = .ok (.bipush 7, 2) := by decide +kernel
theorem dX2_init_86 : decode cX2_init 86 = .ok (.newarray .int, 2) := by decide +kernel
theorem dX2_init_88 : decode cX2_init 88 = .ok (.putfield 43, 3) := by decide +kernel
theorem dX2_init_91 : decode cX2_init 91 = .ok (.aload_n 0, 1) := by decide +kernel
theorem dX2_init_92 : decode cX2_init 92 = .ok (.new 16, 3) := by decide +kernel
theorem dX2_init_95 : decode cX2_init 95 = .ok (.dup, 1) := by decide +kernel
theorem dX2_init_96 : decode cX2_init 96 = .ok (.invokespecial 18, 3) := by decide +kernel
theorem dX2_init_99 : decode cX2_init 99 = .ok (.putfield 46, 3) := by decide +kernel
theorem dX2_init_102 : decode cX2_init 102 = .ok (.aload_n 0, 1) := by decide +kernel
theorem dX2_init_103 : decode cX2_init 103 = .ok (.new 16, 3) := by decide +kernel
theorem dX2_init_106 : decode cX2_init 106 = .ok (.dup, 1) := by decide +kernel
theorem dX2_init_107 : decode cX2_init 107 = .ok (.invokespecial 18, 3) := by decide +kernel
theorem dX2_init_110 : decode cX2_init 110 = .ok (.putfield 49, 3) := by decide +kernel
theorem dX2_init_113 : decode cX2_init 113 = .ok (.aload_n 0, 1) := by decide +kernel
theorem dX2_init_114 : decode cX2_init 114 = .ok (.getfield 29, 3) := by decide +kernel
theorem dX2_init_117 : decode cX2_init 117 = .ok (.iconst 3, 1) := by decide +kernel
theorem dX2_init_118 : decode cX2_init 118 = .ok (.iconst 1, 1) := by decide +kernel
theorem dX2_init_119 : decode cX2_init 119 = .ok (.iastore, 1) := by decide +kernel
theorem dX2_init_120 : decode cX2_init 120 = .ok (.aload_n 0, 1) := by decide +kernel
theorem dX2_init_121 : decode cX2_init 121 = .ok (.invokevirtual 52, 3) := by decide +kernel
theorem dX2_init_124 : decode cX2_init 124 = .ok (.return_, 1) := by decide +kernel
theorem dX2_write_0 : decode cX2_write 0 = .ok (.aload_n 0, 1) := by decide +kernel
theorem dX2_write_1 : decode cX2_write 1 = .ok (.getfield 12, 3) := by decide +kernel
theorem dX2_write_4 : decode cX2_write 4 = .ok (.iload_n 1, 1) := by decide +kernel
theorem dX2_write_5 : decode cX2_write 5 = .ok (.invokevirtual 55, 3) := by decide +kernel
theorem dX2_write_8 : decode cX2_write 8 = .ok (.ireturn, 1) := by decide +kernel
theorem dX2_numerator_0 : decode cX2_numerator 0 = .ok (.aload_n 0, 1) := by decide +kernel
theorem dX2_numerator_1 : decode cX2_numerator 1 = .ok (.invokevirtual 59, 3) := by decide +kernel
theorem dX2_numerator_4 : decode cX2_numerator 4 = .ok (.istore_n 1, 1) := by decide +kernel
theorem dX2_numerator_5 : decode cX2_numerator 5 = .ok (.aload_n 0, 1) := by decide +kernel
theorem dX2_numerator_6 : decode cX2_numerator 6 = .ok (.getfield 12, 3) := by decide +kernel
theorem dX2_numerator_9 : decode cX2_numerator 9 = .ok (.invokevirtual 63, 3) := by decide +kernel
theorem dX2_numerator_12 : decode cX2_numerator 12 = .ok (.iload_n 1, 1) := by decide +kernel
theorem dX2_numerator_13 : decode cX2_numerator 13 = .ok (.ifCond .ne 13, 3) := by decide +kernel
theorem dX2_numerator_16 : decode cX2_numerator 16 = .ok (.new 66, 3) := by decide +kernel
theorem dX2_numerator_19 : decode cX2_numerator 19 = .ok (.dup, 1) := by decide +kernel
theorem dX2_numerator_20 : decode cX2_numerator 20 = .ok (.ldc 68, 2) := by decide +kernel
theorem dX2_numerator_22 : decode cX2_numerator 22 = .ok (.invokespecial 70, 3) := by decide +kernel
theorem dX2_numerator_25 : decode cX2_numerator 25 = .ok (.athrow, 1) := by decide +kernel
theorem dX2_numerator_26 : decode cX2_numerator 26 = .ok (.aload_n 0, 1) := by decide +kernel
theorem dX2_numerator_27 : decode cX2_numerator 27 = .ok (.getfield 19, 3) := by decide +kernel
theorem dX2_numerator_30 : decode cX2_numerator 30 = .ok (.aload_n 0, 1) := by decide +kernel
theorem dX2_numerator_31 : decode cX2_numerator 31 = .ok (.getfield 40, 3) := by decide +kernel
theorem dX2_numerator_34 : decode cX2_numerator 34 = .ok (.invokevirtual 73, 3) := by decide +kernel
theorem dX2_numerator_37 : decode cX2_numerator 37 = .ok (.aload_n 0, 1) := by decide +kernel
theorem dX2_numerator_38 : decode cX2_numerator 38 = .ok (.invokevirtual 52, 3) := by decide +kernel
theorem dX2_numerator_41 : decode cX2_numerator 41 = .ok (.aload_n 0, 1) := by decide +kernel
theorem dX2_numerator_42 : decode cX2_numerator 42 = .ok (.getfield 19, 3) := by decide +kernel
theorem dX2_numerator_45 : decode cX2_numerator 45 = .ok (.invokevirtual 77, 3) := by decide +kernel
theorem dX2_numerator_48 : decode cX2_numerator 48 = .ok (.ireturn, 1) := by decide +kernel
theorem dX2_denominator_0 : decode cX2_denominator 0 = .ok (.aload_n 0, 1) := by decide +kernel
theorem dX2_denominator_1 : decode cX2_denominator 1 = .ok (.invokevirtual 81, 3) := by decide +kernel
theorem dX2_denominator_4 : decode cX2_denominator 4 = .ok (.istore_n 1, 1) := by decide +kernel
theorem dX2_denominator_5 : decode cX2_denominator 5 = .ok (.aload_n 0, 1) := by decide +kernel
theorem dX2_denominator_6 : decode cX2_denominator 6 = .ok (.getfield 12, 3) := by decide +kernel
theorem dX2_denominator_9 : decode cX2_denominator 9 = .ok (.invokevirtual 63, 3) := by decide +kernel
theorem dX2_denominator_12 : decode cX2_denominator 12 = .ok (.iload_n 1, 1) := by decide +kernel
theorem dX2_denominator_13 : decode cX2_denominator 13 = .ok (.ifCond .ne 13, 3) := by decide +kernel
theorem dX2_denominator_16 : decode cX2_denominator 16 = .ok (.new 66, 3) := by decide +kernel
theorem dX2_denominator_19 : decode cX2_denominator 19 = .ok (.dup, 1) := by decide +kernel
theorem dX2_denominator_20 : decode cX2_denominator 20 = .ok (.ldc 84, 2) := by decide +kernel
theorem dX2_denominator_22 : decode cX2_denominator 22 = .ok (.invokespecial 70, 3) := by decide +kernel
theorem dX2_denominator_25 : decode cX2_denominator 25 = .ok (.athrow, 1) := by decide +kernel
theorem dX2_denominator_26 : decode cX2_denominator 26 = .ok (.aload_n 0, 1) := by decide +kernel
theorem dX2_denominator_27 : decode cX2_denominator 27 = .ok (.getfield 43, 3) := by decide +kernel
theorem dX2_denominator_30 : decode cX2_denominator 30 = .ok (.invokestatic 86, 3) := by decide +kernel
theorem dX2_denominator_33 : decode cX2_denominator 33 = .ok (.iconst 5, 1) := by decide +kernel
theorem dX2_denominator_34 : decode cX2_denominator 34 = .ok (.if_icmp .le 13, 3) := by decide +kernel
theorem dX2_denominator_37 : decode cX2_denominator 37 = .ok (.new 90, 3) := by decide +kernel
theorem dX2_denominator_40 : decode cX2_denominator 40 = .ok (.dup, 1) := by decide +kernel
theorem dX2_denominator_41 : decode cX2_denominator 41 = .ok (.ldc 92, 2) := by decide +kernel
theorem dX2_denominator_43 : decode cX2_denominator 43 = .ok (.invokespecial 94, 3) := by decide +kernel
theorem dX2_denominator_46 : decode cX2_denominator 46 = .ok (.athrow, 1) := by decide +kernel
theorem dX2_denominator_47 : decode cX2_denominator 47 = .ok (.aload_n 0, 1) := by decide +kernel
theorem dX2_denominator_48 : decode cX2_denominator 48 = .ok (.getfield 43, 3) := by decide +kernel
theorem dX2_denominator_51 : decode cX2_denominator 51 = .ok (.iconst 0, 1) := by decide +kernel
theorem dX2_denominator_52 : decode cX2_denominator 52 = .ok (.aload_n 0, 1) := by decide +kernel
theorem dX2_denominator_53 : decode cX2_denominator 53 = .ok (.getfield 29, 3) := by decide +kernel
theorem dX2_denominator_56 : decode cX2_denominator 56 = .ok (.iconst 0, 1) := by decide +kernel
theorem dX2_denominator_57 : decode cX2_denominator 57 = .ok (.bipush 7, 2) := by decide +kernel
theorem dX2_denominator_59 : decode cX2_denominator 59 = .ok (.invokestatic 95, 3) := by decide +kernel
theorem dX2_denominator_62 : decode cX2_denominator 62 = .ok (.aload_n 0, 1) := by decide +kernel
theorem dX2_denominator_63 : decode cX2_denominator 63 = .ok (.invokevirtual 52, 3) := by decide +kernel
theorem dX2_denominator_66 : decode cX2_denominator 66 = .ok (.aload_n 0, 1) := by decide +kernel
theorem dX2_denominator_67 : decode cX2_denominator 67 = .ok (.getfield 23, 3) := by decide +kernel
theorem dX2_denominator_70 : decode cX2_denominator 70 = .ok (.invokevirtual 77, 3) := by decide +kernel
theorem dX2_denominator_73 : decode cX2_denominator 73 = .ok (.ireturn, 1) := by decide +kernel
theorem dX2_coefficient_0 : decode cX2_coefficient 0 = .ok (.iload_n 1, 1) := by decide +kernel
theorem dX2_coefficient_1 : decode cX2_coefficient 1 = .ok (.tableswitch 54 0 2 #[27, 36, 45], 27) := by decide +kernel
theorem dX2_coefficient_28 : decode cX2_coefficient 28 = .ok (.aload_n 0, 1) := by decide +kernel
theorem dX2_coefficient_29 : decode cX2_coefficient 29 = .ok (.getfield 19, 3) := by decide +kernel
theorem dX2_coefficient_32 : decode cX2_coefficient 32 = .ok (.iload_n 2, 1) := by decide +kernel
theorem dX2_coefficient_33 : decode cX2_coefficient 33 = .ok (.invokevirtual 101, 3) := by decide +kernel
theorem dX2_coefficient_36 : decode cX2_coefficient 36 = .ok (.lreturn, 1) := by decide +kernel
theorem dX2_coefficient_37 : decode cX2_coefficient 37 = .ok (.aload_n 0, 1) := by decide +kernel
theorem dX2_coefficient_38 : decode cX2_coefficient 38 = .ok (.getfield 23, 3) := by decide +kernel
theorem dX2_coefficient_41 : decode cX2_coefficient 41 = .ok (.iload_n 2, 1) := by decide +kernel
theorem dX2_coefficient_42 : decode cX2_coefficient 42 = .ok (.invokevirtual 101, 3) := by decide +kernel
theorem dX2_coefficient_45 : decode cX2_coefficient 45 = .ok (.lreturn, 1) := by decide +kernel
theorem dX2_coefficient_46 : decode cX2_coefficient 46 = .ok (.aload_n 0, 1) := by decide +kernel
theorem dX2_coefficient_47 : decode cX2_coefficient 47 = .ok (.getfield 26, 3) := by decide +kernel
theorem dX2_coefficient_50 : decode cX2_coefficient 50 = .ok (.iload_n 2, 1) := by decide +kernel
theorem dX2_coefficient_51 : decode cX2_coefficient 51 = .ok (.invokevirtual 101, 3) := by decide +kernel
theorem dX2_coefficient_54 : decode cX2_coefficient 54 = .ok (.lreturn, 1) := by decide +kernel
theorem dX2_coefficient_55 : decode cX2_coefficient 55 = .ok (.lconst 0, 1) := by decide +kernel
theorem dX2_coefficient_56 : decode cX2_coefficient 56 = .ok (.lreturn, 1) := by decide +kernel
theorem dX2_many_0 : decode cX2_many 0 = .ok (.iload_n 1, 1) := by decide +kernel
theorem dX2_many_1 : decode cX2_many 1 = .ok (.invokestatic 105, 3) := by decide +kernel
theorem dX2_many_4 : decode cX2_many 4 = .ok (.ifCond .eq 15, 3) := by decide +kernel
theorem dX2_many_7 : decode cX2_many 7 = .ok (.aload_n 0, 1) := by decide +kernel
theorem dX2_many_8 : decode cX2_many 8 = .ok (.getfield 29, 3) := by decide +kernel
theorem dX2_many_11 : decode cX2_many 11 = .ok (.iload_n 1, 1) := by decide +kernel
theorem dX2_many_12 : decode cX2_many 12 = .ok (.bipush (-3), 2) := by decide +kernel
theorem dX2_many_14 : decode cX2_many 14 = .ok (.isub, 1) := by decide +kernel
theorem dX2_many_15 : decode cX2_many 15 = .ok (.iaload, 1) := by decide +kernel
theorem dX2_many_16 : decode cX2_many 16 = .ok (.goto 4, 3) := by decide +kernel
theorem dX2_many_19 : decode cX2_many 19 = .ok (.iconst 0, 1) := by decide +kernel
theorem dX2_many_20 : decode cX2_many 20 = .ok (.ireturn, 1) := by decide +kernel
theorem dX2_part_0 : decode cX2_part 0 = .ok (.iload_n 2, 1) := by decide +kernel
theorem dX2_part_1 : decode cX2_part 1 = .ok (.iconst 1, 1) := by decide +kernel
theorem dX2_part_2 : decode cX2_part 2 = .ok (.if_icmp .lt 19, 3) := by decide +kernel
theorem dX2_part_5 : decode cX2_part 5 = .ok (.iload_n 2, 1) := by decide +kernel
theorem dX2_part_6 : decode cX2_part 6 = .ok (.aload_n 0, 1) := by decide +kernel
theorem dX2_part_7 : decode cX2_part 7 = .ok (.iload_n 1, 1) := by decide +kernel
theorem dX2_part_8 : decode cX2_part 8 = .ok (.invokevirtual 109, 3) := by decide +kernel
theorem dX2_part_11 : decode cX2_part 11 = .ok (.if_icmp .gt 10, 3) := by decide +kernel
theorem dX2_part_14 : decode cX2_part 14 = .ok (.iload_n 3, 1) := by decide +kernel
theorem dX2_part_15 : decode cX2_part 15 = .ok (.invokestatic 113, 3) := by decide +kernel
theorem dX2_part_18 : decode cX2_part 18 = .ok (.ifCond .ne 13, 3) := by decide +kernel
theorem dX2_part_21 : decode cX2_part 21 = .ok (.new 66, 3) := by decide +kernel
theorem dX2_part_24 : decode cX2_part 24 = .ok (.dup, 1) := by decide +kernel
theorem dX2_part_25 : decode cX2_part 25 = .ok (.ldc 116, 2) := by decide +kernel
theorem dX2_part_27 : decode cX2_part 27 = .ok (.invokespecial 70, 3) := by decide +kernel
theorem dX2_part_30 : decode cX2_part 30 = .ok (.athrow, 1) := by decide +kernel
theorem dX2_part_31 : decode cX2_part 31 = .ok (.iload_n 3, 1) := by decide +kernel
theorem dX2_part_32 : decode cX2_part 32 = .ok (.ifCond .ne 12, 3) := by decide +kernel
theorem dX2_part_35 : decode cX2_part 35 = .ok (.aload_n 0, 1) := by decide +kernel
theorem dX2_part_36 : decode cX2_part 36 = .ok (.iload_n 1, 1) := by decide +kernel
theorem dX2_part_37 : decode cX2_part 37 = .ok (.iload_n 2, 1) := by decide +kernel
theorem dX2_part_38 : decode cX2_part 38 = .ok (.invokevirtual 118, 3) := by decide +kernel
theorem dX2_part_41 : decode cX2_part 41 = .ok (.goto 9, 3) := by decide +kernel
theorem dX2_part_44 : decode cX2_part 44 = .ok (.aload_n 0, 1) := by decide +kernel
theorem dX2_part_45 : decode cX2_part 45 = .ok (.iload_n 1, 1) := by decide +kernel
theorem dX2_part_46 : decode cX2_part 46 = .ok (.iload_n 2, 1) := by decide +kernel
theorem dX2_part_47 : decode cX2_part 47 = .ok (.invokevirtual 122, 3) := by decide +kernel
theorem dX2_part_50 : decode cX2_part 50 = .ok (.lreturn, 1) := by decide +kernel
theorem dX2_integral_0 : decode cX2_integral 0 = .ok (.aload_n 0, 1) := by decide +kernel
theorem dX2_integral_1 : decode cX2_integral 1 = .ok (.iload_n 1, 1) := by decide +kernel
theorem dX2_integral_2 : decode cX2_integral 2 = .ok (.iload_n 2, 1) := by decide +kernel
theorem dX2_integral_3 : decode cX2_integral 3 = .ok (.invokevirtual 125, 3) := by decide +kernel
theorem dX2_integral_6 : decode cX2_integral 6 = .ok (.ifCond .eq 10, 3) := by decide +kernel
theorem dX2_integral_9 : decode cX2_integral 9 = .ok (.iload_n 3, 1) := by decide +kernel
theorem dX2_integral_10 : decode cX2_integral 10 = .ok (.invokestatic 113, 3) := by decide +kernel
theorem dX2_integral_13 : decode cX2_integral 13 = .ok (.ifCond .ne 13, 3) := by decide +kernel
theorem dX2_integral_16 : decode cX2_integral 16 = .ok (.new 66, 3) := by decide +kernel
theorem dX2_integral_19 : decode cX2_integral 19 = .ok (.dup, 1) := by decide +kernel
theorem dX2_integral_20 : decode cX2_integral 20 = .ok (.ldc 129, 2) := by decide +kernel
theorem dX2_integral_22 : decode cX2_integral 22 = .ok (.invokespecial 70, 3) := by decide +kernel
theorem dX2_integral_25 : decode cX2_integral 25 = .ok (.athrow, 1) := by decide +kernel
theorem dX2_integral_26 : decode cX2_integral 26 = .ok (.iload_n 1, 1) := by decide +kernel
theorem dX2_integral_27 : decode cX2_integral 27 = .ok (.bipush 9, 2) := by decide +kernel
theorem dX2_integral_29 : decode cX2_integral 29 = .ok (.if_icmp .ne 20, 3) := by decide +kernel
theorem dX2_integral_32 : decode cX2_integral 32 = .ok (.aload_n 0, 1) := by decide +kernel
theorem dX2_integral_33 : decode cX2_integral 33 = .ok (.getfield 26, 3) := by decide +kernel
theorem dX2_integral_36 : decode cX2_integral 36 = .ok (.iload_n 2, 1) := by decide +kernel
theorem dX2_integral_37 : decode cX2_integral 37 = .ok (.iconst 1, 1) := by decide +kernel
theorem dX2_integral_38 : decode cX2_integral 38 = .ok (.isub, 1) := by decide +kernel
theorem dX2_integral_39 : decode cX2_integral 39 = .ok (.invokevirtual 101, 3) := by decide +kernel
theorem dX2_integral_42 : decode cX2_integral 42 = .ok (.iload_n 2, 1) := by decide +kernel
theorem dX2_integral_43 : decode cX2_integral 43 = .ok (.i2l, 1) := by decide +kernel
theorem dX2_integral_44 : decode cX2_integral 44 = .ok (.iload_n 3, 1) := by decide +kernel
theorem dX2_integral_45 : decode cX2_integral 45 = .ok (.invokestatic 131, 3) := by decide +kernel
theorem dX2_integral_48 : decode cX2_integral 48 = .ok (.lreturn, 1) := by decide +kernel
theorem dX2_integral_49 : decode cX2_integral 49 = .ok (.iload_n 2, 1) := by decide +kernel
theorem dX2_integral_50 : decode cX2_integral 50 = .ok (.ifCond .ne 23, 3) := by decide +kernel
theorem dX2_integral_53 : decode cX2_integral 53 = .ok (.iload_n 3, 1) := by decide +kernel
theorem dX2_integral_54 : decode cX2_integral 54 = .ok (.ifCond .ne 12, 3) := by decide +kernel
theorem dX2_integral_57 : decode cX2_integral 57 = .ok (.aload_n 0, 1) := by decide +kernel
theorem dX2_integral_58 : decode cX2_integral 58 = .ok (.iload_n 1, 1) := by decide +kernel
theorem dX2_integral_59 : decode cX2_integral 59 = .ok (.iconst 1, 1) := by decide +kernel
theorem dX2_integral_60 : decode cX2_integral 60 = .ok (.invokevirtual 118, 3) := by decide +kernel
theorem dX2_integral_63 : decode cX2_integral 63 = .ok (.goto 9, 3) := by decide +kernel
theorem dX2_integral_66 : decode cX2_integral 66 = .ok (.aload_n 0, 1) := by decide +kernel
theorem dX2_integral_67 : decode cX2_integral 67 = .ok (.iload_n 1, 1) := by decide +kernel
theorem dX2_integral_68 : decode cX2_integral 68 = .ok (.iconst 1, 1) := by decide +kernel
theorem dX2_integral_69 : decode cX2_integral 69 = .ok (.invokevirtual 122, 3) := by decide +kernel
theorem dX2_integral_72 : decode cX2_integral 72 = .ok (.lreturn, 1) := by decide +kernel
theorem dX2_integral_73 : decode cX2_integral 73 = .ok (.aload_n 0, 1) := by decide +kernel
theorem dX2_integral_74 : decode cX2_integral 74 = .ok (.iload_n 1, 1) := by decide +kernel
theorem dX2_integral_75 : decode cX2_integral 75 = .ok (.iload_n 2, 1) := by decide +kernel
theorem dX2_integral_76 : decode cX2_integral 76 = .ok (.iconst 1, 1) := by decide +kernel
theorem dX2_integral_77 : decode cX2_integral 77 = .ok (.iadd, 1) := by decide +kernel
theorem dX2_integral_78 : decode cX2_integral 78 = .ok (.invokevirtual 118, 3) := by decide +kernel
theorem dX2_integral_81 : decode cX2_integral 81 = .ok (.lneg, 1) := by decide +kernel
theorem dX2_integral_82 : decode cX2_integral 82 = .ok (.aload_n 0, 1) := by decide +kernel
theorem dX2_integral_83 : decode cX2_integral 83 = .ok (.iload_n 1, 1) := by decide +kernel
theorem dX2_integral_84 : decode cX2_integral 84 = .ok (.iload_n 2, 1) := by decide +kernel
theorem dX2_integral_85 : decode cX2_integral 85 = .ok (.iconst 1, 1) := by decide +kernel
theorem dX2_integral_86 : decode cX2_integral 86 = .ok (.iadd, 1) := by decide +kernel
theorem dX2_integral_87 : decode cX2_integral 87 = .ok (.invokevirtual 122, 3) := by decide +kernel
theorem dX2_integral_90 : decode cX2_integral 90 = .ok (.iload_n 2, 1) := by decide +kernel
theorem dX2_integral_91 : decode cX2_integral 91 = .ok (.i2l, 1) := by decide +kernel
theorem dX2_integral_92 : decode cX2_integral 92 = .ok (.lmul, 1) := by decide +kernel
theorem dX2_integral_93 : decode cX2_integral 93 = .ok (.iload_n 3, 1) := by decide +kernel
theorem dX2_integral_94 : decode cX2_integral 94 = .ok (.invokestatic 131, 3) := by decide +kernel
theorem dX2_integral_97 : decode cX2_integral 97 = .ok (.lreturn, 1) := by decide +kernel
theorem dX2_value_0 : decode cX2_value 0 = .ok (.iload_n 1, 1) := by decide +kernel
theorem dX2_value_1 : decode cX2_value 1 = .ok (.bipush (-20), 2) := by decide +kernel
theorem dX2_value_3 : decode cX2_value 3 = .ok (.if_icmp .lt 24, 3) := by decide +kernel
theorem dX2_value_6 : decode cX2_value 6 = .ok (.iload_n 1, 1) := by decide +kernel
theorem dX2_value_7 : decode cX2_value 7 = .ok (.bipush 20, 2) := by decide +kernel
theorem dX2_value_9 : decode cX2_value 9 = .ok (.if_icmp .gt 18, 3) := by decide +kernel
theorem dX2_value_12 : decode cX2_value 12 = .ok (.aload_n 0, 1) := by decide +kernel
theorem dX2_value_13 : decode cX2_value 13 = .ok (.iload_n 1, 1) := by decide +kernel
theorem dX2_value_14 : decode cX2_value 14 = .ok (.invokevirtual 109, 3) := by decide +kernel
theorem dX2_value_17 : decode cX2_value 17 = .ok (.ifCond .gt 10, 3) := by decide +kernel
theorem dX2_value_20 : decode cX2_value 20 = .ok (.iload_n 2, 1) := by decide +kernel
theorem dX2_value_21 : decode cX2_value 21 = .ok (.invokestatic 113, 3) := by decide +kernel
theorem dX2_value_24 : decode cX2_value 24 = .ok (.ifCond .ne 13, 3) := by decide +kernel
theorem dX2_value_27 : decode cX2_value 27 = .ok (.new 66, 3) := by decide +kernel
theorem dX2_value_30 : decode cX2_value 30 = .ok (.dup, 1) := by decide +kernel
theorem dX2_value_31 : decode cX2_value 31 = .ok (.ldc 135, 2) := by decide +kernel
theorem dX2_value_33 : decode cX2_value 33 = .ok (.invokespecial 70, 3) := by decide +kernel
theorem dX2_value_36 : decode cX2_value 36 = .ok (.athrow, 1) := by decide +kernel
theorem dX2_value_37 : decode cX2_value 37 = .ok (.aload_n 0, 1) := by decide +kernel
theorem dX2_value_38 : decode cX2_value 38 = .ok (.getfield 19, 3) := by decide +kernel
theorem dX2_value_41 : decode cX2_value 41 = .ok (.iload_n 1, 1) := by decide +kernel
theorem dX2_value_42 : decode cX2_value 42 = .ok (.invokevirtual 137, 3) := by decide +kernel
theorem dX2_value_45 : decode cX2_value 45 = .ok (.aload_n 0, 1) := by decide +kernel
theorem dX2_value_46 : decode cX2_value 46 = .ok (.getfield 23, 3) := by decide +kernel
theorem dX2_value_49 : decode cX2_value 49 = .ok (.iload_n 1, 1) := by decide +kernel
theorem dX2_value_50 : decode cX2_value 50 = .ok (.invokevirtual 137, 3) := by decide +kernel
theorem dX2_value_53 : decode cX2_value 53 = .ok (.iload_n 2, 1) := by decide +kernel
theorem dX2_value_54 : decode cX2_value 54 = .ok (.invokestatic 131, 3) := by decide +kernel
theorem dX2_value_57 : decode cX2_value 57 = .ok (.lreturn, 1) := by decide +kernel
theorem dX2_at_0 : decode cX2_at 0 = .ok (.dload_n 1, 1) := by decide +kernel
theorem dX2_at_1 : decode cX2_at 1 = .ok (.invokestatic 140, 3) := by decide +kernel
theorem dX2_at_4 : decode cX2_at 4 = .ok (.ifCond .ne 13, 3) := by decide +kernel
theorem dX2_at_7 : decode cX2_at 7 = .ok (.new 66, 3) := by decide +kernel
theorem dX2_at_10 : decode cX2_at 10 = .ok (.dup, 1) := by decide +kernel
theorem dX2_at_11 : decode cX2_at 11 = .ok (.ldc 144, 2) := by decide +kernel
theorem dX2_at_13 : decode cX2_at 13 = .ok (.invokespecial 70, 3) := by decide +kernel
theorem dX2_at_16 : decode cX2_at 16 = .ok (.athrow, 1) := by decide +kernel
theorem dX2_at_17 : decode cX2_at 17 = .ok (.aload_n 0, 1) := by decide +kernel
theorem dX2_at_18 : decode cX2_at 18 = .ok (.getfield 23, 3) := by decide +kernel
theorem dX2_at_21 : decode cX2_at 21 = .ok (.dload_n 1, 1) := by decide +kernel
theorem dX2_at_22 : decode cX2_at 22 = .ok (.invokevirtual 146, 3) := by decide +kernel
theorem dX2_at_25 : decode cX2_at 25 = .ok (.dstore_n 3, 1) := by decide +kernel
theorem dX2_at_26 : decode cX2_at 26 = .ok (.dload_n 3, 1) := by decide +kernel
theorem dX2_at_27 : decode cX2_at 27 = .ok (.dconst 0, 1) := by decide +kernel
theorem dX2_at_28 : decode cX2_at 28 = .ok (.dcmp .l, 1) := by decide +kernel
theorem dX2_at_29 : decode cX2_at 29 = .ok (.ifCond .ne 7, 3) := by decide +kernel
theorem dX2_at_32 : decode cX2_at 32 = .ok (.dconst 0, 1) := by decide +kernel
theorem dX2_at_33 : decode cX2_at 33 = .ok (.goto 13, 3) := by decide +kernel
theorem dX2_at_36 : decode cX2_at 36 = .ok (.aload_n 0, 1) := by decide +kernel
theorem dX2_at_37 : decode cX2_at 37 = .ok (.getfield 19, 3) := by decide +kernel
theorem dX2_at_40 : decode cX2_at 40 = .ok (.dload_n 1, 1) := by decide +kernel
theorem dX2_at_41 : decode cX2_at 41 = .ok (.invokevirtual 146, 3) := by decide +kernel
theorem dX2_at_44 : decode cX2_at 44 = .ok (.dload_n 3, 1) := by decide +kernel
theorem dX2_at_45 : decode cX2_at 45 = .ok (.ddiv, 1) := by decide +kernel
theorem dX2_at_46 : decode cX2_at 46 = .ok (.dreturn, 1) := by decide +kernel
theorem dX2_byParts_0 : decode cX2_byParts 0 = .ok (.dload_n 1, 1) := by decide +kernel
theorem dX2_byParts_1 : decode cX2_byParts 1 = .ok (.invokestatic 140, 3) := by decide +kernel
theorem dX2_byParts_4 : decode cX2_byParts 4 = .ok (.ifCond .ne 13, 3) := by decide +kernel
theorem dX2_byParts_7 : decode cX2_byParts 7 = .ok (.new 66, 3) := by decide +kernel
theorem dX2_byParts_10 : decode cX2_byParts 10 = .ok (.dup, 1) := by decide +kernel
theorem dX2_byParts_11 : decode cX2_byParts 11 = .ok (.ldc 144, 2) := by decide +kernel
theorem dX2_byParts_13 : decode cX2_byParts 13 = .ok (.invokespecial 70, 3) := by decide +kernel
theorem dX2_byParts_16 : decode cX2_byParts 16 = .ok (.athrow, 1) := by decide +kernel
theorem dX2_byParts_17 : decode cX2_byParts 17 = .ok (.aload_n 0, 1) := by decide +kernel
theorem dX2_byParts_18 : decode cX2_byParts 18 = .ok (.getfield 26, 3) := by decide +kernel
theorem dX2_byParts_21 : decode cX2_byParts 21 = .ok (.dload_n 1, 1) := by decide +kernel
theorem dX2_byParts_22 : decode cX2_byParts 22 = .ok (.invokevirtual 146, 3) := by decide +kernel
theorem dX2_byParts_25 : decode cX2_byParts 25 = .ok (.dstore_n 3, 1) := by decide +kernel
theorem dX2_byParts_26 : decode cX2_byParts 26 = .ok (.bipush (-3), 2) := by decide +kernel
theorem dX2_byParts_28 : decode cX2_byParts 28 = .ok (.istore 5, 2) := by decide +kernel
theorem dX2_byParts_30 : decode cX2_byParts 30 = .ok (.iload 5, 2) := by decide +kernel
theorem dX2_byParts_32 : decode cX2_byParts 32 = .ok (.iconst 3, 1) := by decide +kernel
theorem dX2_byParts_33 : decode cX2_byParts 33 = .ok (.if_icmp .gt 18, 3) := by decide +kernel
theorem dX2_byParts_36 : decode cX2_byParts 36 = .ok (.aload_n 0, 1) := by decide +kernel
theorem dX2_byParts_37 : decode cX2_byParts 37 = .ok (.iload 5, 2) := by decide +kernel
theorem dX2_byParts_39 : decode cX2_byParts 39 = .ok (.dload_n 1, 1) := by decide +kernel
theorem dX2_byParts_40 : decode cX2_byParts 40 = .ok (.dload_n 3, 1) := by decide +kernel
theorem dX2_byParts_41 : decode cX2_byParts 41 = .ok (.invokevirtual 150, 3) := by decide +kernel
theorem dX2_byParts_44 : decode cX2_byParts 44 = .ok (.dstore_n 3, 1) := by decide +kernel
theorem dX2_byParts_45 : decode cX2_byParts 45 = .ok (.iinc 5 1, 3) := by decide +kernel
theorem dX2_byParts_48 : decode cX2_byParts 48 = .ok (.goto (-18), 3) := by decide +kernel
theorem dX2_byParts_51 : decode cX2_byParts 51 = .ok (.dload_n 3, 1) := by decide +kernel
theorem dX2_byParts_52 : decode cX2_byParts 52 = .ok (.dreturn, 1) := by decide +kernel
theorem dX2_withPartsOf_0 : decode cX2_withPartsOf 0 = .ok (.dload 4, 2) := by decide +kernel
theorem dX2_withPartsOf_2 : decode cX2_withPartsOf 2 = .ok (.dstore 6, 2) := by decide +kernel
theorem dX2_withPartsOf_4 : decode cX2_withPartsOf 4 = .ok (.dload_n 2, 1) := by decide +kernel
theorem dX2_withPartsOf_5 : decode cX2_withPartsOf 5 = .ok (.iload_n 1, 1) := by decide +kernel
theorem dX2_withPartsOf_6 : decode cX2_withPartsOf 6 = .ok (.i2d, 1) := by decide +kernel
theorem dX2_withPartsOf_7 : decode cX2_withPartsOf 7 = .ok (.dsub, 1) := by decide +kernel
theorem dX2_withPartsOf_8 : decode cX2_withPartsOf 8 = .ok (.dstore 8, 2) := by decide +kernel
theorem dX2_withPartsOf_10 : decode cX2_withPartsOf 10 = .ok (.dload 8, 2) := by decide +kernel
theorem dX2_withPartsOf_12 : decode cX2_withPartsOf 12 = .ok (.dstore 10, 2) := by decide +kernel
theorem dX2_withPartsOf_14 : decode cX2_withPartsOf 14 = .ok (.aload_n 0, 1) := by decide +kernel
theorem dX2_withPartsOf_15 : decode cX2_withPartsOf 15 = .ok (.iload_n 1, 1) := by decide +kernel
theorem dX2_withPartsOf_16 : decode cX2_withPartsOf 16 = .ok (.invokevirtual 109, 3) := by decide +kernel
theorem dX2_withPartsOf_19 : decode cX2_withPartsOf 19 = .ok (.istore 12, 2) := by decide +kernel
theorem dX2_withPartsOf_21 : decode cX2_withPartsOf 21 = .ok (.iconst 1, 1) := by decide +kernel
theorem dX2_withPartsOf_22 : decode cX2_withPartsOf 22 = .ok (.istore 13, 2) := by decide +kernel
theorem dX2_withPartsOf_24 : decode cX2_withPartsOf 24 = .ok (.iload 13, 2) := by decide +kernel
theorem dX2_withPartsOf_26 : decode cX2_withPartsOf 26 = .ok (.iload 12, 2) := by decide +kernel
theorem dX2_withPartsOf_28 : decode cX2_withPartsOf 28 = .ok (.if_icmp .gt 48, 3) := by decide +kernel
theorem dX2_withPartsOf_31 : decode cX2_withPartsOf 31 = .ok (.dload 10, 2) := by decide +kernel
theorem dX2_withPartsOf_33 : decode cX2_withPartsOf 33 = .ok (.dconst 0, 1) := by decide +kernel
theorem dX2_withPartsOf_34 : decode cX2_withPartsOf 34 = .ok (.dcmp .l, 1) := by decide +kernel
theorem dX2_withPartsOf_35 : decode cX2_withPartsOf 35 = .ok (.ifCond .eq 28, 3) := by decide +kernel
theorem dX2_withPartsOf_38 : decode cX2_withPartsOf 38 = .ok (.dload 6, 2) := by decide +kernel
theorem dX2_withPartsOf_40 : decode cX2_withPartsOf 40 = .ok (.aload_n 0, 1) := by decide +kernel
theorem dX2_withPartsOf_41 : decode cX2_withPartsOf 41 = .ok (.iload_n 1, 1) := by decide +kernel
theorem dX2_withPartsOf_42 : decode cX2_withPartsOf 42 = .ok (.iload 13, 2) := by decide +kernel
theorem dX2_withPartsOf_44 : decode cX2_withPartsOf 44 = .ok (.invokevirtual 118, 3) := by decide +kernel
theorem dX2_withPartsOf_47 : decode cX2_withPartsOf 47 = .ok (.l2d, 1) := by decide +kernel
theorem dX2_withPartsOf_48 : decode cX2_withPartsOf 48 = .ok (.aload_n 0, 1) := by decide +kernel
theorem dX2_withPartsOf_49 : decode cX2_withPartsOf 49 = .ok (.iload_n 1, 1) := by decide +kernel
theorem dX2_withPartsOf_50 : decode cX2_withPartsOf 50 = .ok (.iload 13, 2) := by decide +kernel
theorem dX2_withPartsOf_52 : decode cX2_withPartsOf 52 = .ok (.invokevirtual 122, 3) := by decide +kernel
theorem dX2_withPartsOf_55 : decode cX2_withPartsOf 55 = .ok (.l2d, 1) := by decide +kernel
theorem dX2_withPartsOf_56 : decode cX2_withPartsOf 56 = .ok (.ddiv, 1) := by decide +kernel
theorem dX2_withPartsOf_57 : decode cX2_withPartsOf 57 = .ok (.dload 10, 2) := by decide +kernel
theorem dX2_withPartsOf_59 : decode cX2_withPartsOf 59 = .ok (.ddiv, 1) := by decide +kernel
theorem dX2_withPartsOf_60 : decode cX2_withPartsOf 60 = .ok (.dadd, 1) := by decide +kernel
theorem dX2_withPartsOf_61 : decode cX2_withPartsOf 61 = .ok (.dstore 6, 2) := by decide +kernel
theorem dX2_withPartsOf_63 : decode cX2_withPartsOf 63 = .ok (.dload 10, 2) := by decide +kernel
theorem dX2_withPartsOf_65 : decode cX2_withPartsOf 65 = .ok (.dload 8, 2) := by decide +kernel
theorem dX2_withPartsOf_67 : decode cX2_withPartsOf 67 = .ok (.dmul, 1) := by decide +kernel
theorem dX2_withPartsOf_68 : decode cX2_withPartsOf 68 = .ok (.dstore 10, 2) := by decide +kernel
theorem dX2_withPartsOf_70 : decode cX2_withPartsOf 70 = .ok (.iinc 13 1, 3) := by decide +kernel
theorem dX2_withPartsOf_73 : decode cX2_withPartsOf 73 = .ok (.goto (-49), 3) := by decide +kernel
theorem dX2_withPartsOf_76 : decode cX2_withPartsOf 76 = .ok (.dload 6, 2) := by decide +kernel
theorem dX2_withPartsOf_78 : decode cX2_withPartsOf 78 = .ok (.dreturn, 1) := by decide +kernel
theorem dX2_isPossibleRoot_0 : decode cX2_isPossibleRoot 0 = .ok (.iload_n 0, 1) := by decide +kernel
theorem dX2_isPossibleRoot_1 : decode cX2_isPossibleRoot 1 = .ok (.bipush (-3), 2) := by decide +kernel
theorem dX2_isPossibleRoot_3 : decode cX2_isPossibleRoot 3 = .ok (.if_icmp .lt 12, 3) := by decide +kernel
theorem dX2_isPossibleRoot_6 : decode cX2_isPossibleRoot 6 = .ok (.iload_n 0, 1) := by decide +kernel
theorem dX2_isPossibleRoot_7 : decode cX2_isPossibleRoot 7 = .ok (.iconst 3, 1) := by decide +kernel
theorem dX2_isPossibleRoot_8 : decode cX2_isPossibleRoot 8 = .ok (.if_icmp .gt 7, 3) := by decide +kernel
theorem dX2_isPossibleRoot_11 : decode cX2_isPossibleRoot 11 = .ok (.iconst 1, 1) := by decide +kernel
theorem dX2_isPossibleRoot_12 : decode cX2_isPossibleRoot 12 = .ok (.goto 4, 3) := by decide +kernel
theorem dX2_isPossibleRoot_15 : decode cX2_isPossibleRoot 15 = .ok (.iconst 0, 1) := by decide +kernel
theorem dX2_isPossibleRoot_16 : decode cX2_isPossibleRoot 16 = .ok (.ireturn, 1) := by decide +kernel
theorem dX2_isSide_0 : decode cX2_isSide 0 = .ok (.iload_n 0, 1) := by decide +kernel
theorem dX2_isSide_1 : decode cX2_isSide 1 = .ok (.ifCond .eq 8, 3) := by decide +kernel
theorem dX2_isSide_4 : decode cX2_isSide 4 = .ok (.iload_n 0, 1) := by decide +kernel
theorem dX2_isSide_5 : decode cX2_isSide 5 = .ok (.iconst 1, 1) := by decide +kernel
theorem dX2_isSide_6 : decode cX2_isSide 6 = .ok (.if_icmp .ne 7, 3) := by decide +kernel
theorem dX2_isSide_9 : decode cX2_isSide 9 = .ok (.iconst 1, 1) := by decide +kernel
theorem dX2_isSide_10 : decode cX2_isSide 10 = .ok (.goto 4, 3) := by decide +kernel
theorem dX2_isSide_13 : decode cX2_isSide 13 = .ok (.iconst 0, 1) := by decide +kernel
theorem dX2_isSide_14 : decode cX2_isSide 14 = .ok (.ireturn, 1) := by decide +kernel
theorem dX2_isNear_0 : decode cX2_isNear 0 = .ok (.dload_n 0, 1) := by decide +kernel
theorem dX2_isNear_1 : decode cX2_isNear 1 = .ok (.ldc2_w 154, 3) := by decide +kernel
theorem dX2_isNear_4 : decode cX2_isNear 4 = .ok (.dcmp .l, 1) := by decide +kernel
theorem dX2_isNear_5 : decode cX2_isNear 5 = .ok (.ifCond .lt 15, 3) := by decide +kernel
theorem dX2_isNear_8 : decode cX2_isNear 8 = .ok (.dload_n 0, 1) := by decide +kernel
theorem dX2_isNear_9 : decode cX2_isNear 9 = .ok (.ldc2_w 156, 3) := by decide +kernel
theorem dX2_isNear_12 : decode cX2_isNear 12 = .ok (.dcmp .g, 1) := by decide +kernel
theorem dX2_isNear_13 : decode cX2_isNear 13 = .ok (.ifCond .gt 7, 3) := by decide +kernel
theorem dX2_isNear_16 : decode cX2_isNear 16 = .ok (.iconst 1, 1) := by decide +kernel
theorem dX2_isNear_17 : decode cX2_isNear 17 = .ok (.goto 4, 3) := by decide +kernel
theorem dX2_isNear_20 : decode cX2_isNear 20 = .ok (.iconst 0, 1) := by decide +kernel
theorem dX2_isNear_21 : decode cX2_isNear 21 = .ok (.ireturn, 1) := by decide +kernel
theorem dX2_isInIntegral_0 : decode cX2_isInIntegral 0 = .ok (.iload_n 1, 1) := by decide +kernel
theorem dX2_isInIntegral_1 : decode cX2_isInIntegral 1 = .ok (.bipush 9, 2) := by decide +kernel
theorem dX2_isInIntegral_3 : decode cX2_isInIntegral 3 = .ok (.if_icmp .ne 16, 3) := by decide +kernel
theorem dX2_isInIntegral_6 : decode cX2_isInIntegral 6 = .ok (.iload_n 2, 1) := by decide +kernel
theorem dX2_isInIntegral_7 : decode cX2_isInIntegral 7 = .ok (.iconst 1, 1) := by decide +kernel
theorem dX2_isInIntegral_8 : decode cX2_isInIntegral 8 = .ok (.if_icmp .lt 7, 3) := by decide +kernel
theorem dX2_isInIntegral_11 : decode cX2_isInIntegral 11 = .ok (.iconst 1, 1) := by decide +kernel
theorem dX2_isInIntegral_12 : decode cX2_isInIntegral 12 = .ok (.goto 25, 3) := by decide +kernel
theorem dX2_isInIntegral_15 : decode cX2_isInIntegral 15 = .ok (.iconst 0, 1) := by decide +kernel
theorem dX2_isInIntegral_16 : decode cX2_isInIntegral 16 = .ok (.goto 21, 3) := by decide +kernel
theorem dX2_isInIntegral_19 : decode cX2_isInIntegral 19 = .ok (.iload_n 2, 1) := by decide +kernel
theorem dX2_isInIntegral_20 : decode cX2_isInIntegral 20 = .ok (.ifCond .lt 16, 3) := by decide +kernel
theorem dX2_isInIntegral_23 : decode cX2_isInIntegral 23 = .ok (.iload_n 2, 1) := by decide +kernel
theorem dX2_isInIntegral_24 : decode cX2_isInIntegral 24 = .ok (.aload_n 0, 1) := by decide +kernel
theorem dX2_isInIntegral_25 : decode cX2_isInIntegral 25 = .ok (.iload_n 1, 1) := by decide +kernel
theorem dX2_isInIntegral_26 : decode cX2_isInIntegral 26 = .ok (.invokevirtual 109, 3) := by decide +kernel
theorem dX2_isInIntegral_29 : decode cX2_isInIntegral 29 = .ok (.if_icmp .ge 7, 3) := by decide +kernel
theorem dX2_isInIntegral_32 : decode cX2_isInIntegral 32 = .ok (.iconst 1, 1) := by decide +kernel
theorem dX2_isInIntegral_33 : decode cX2_isInIntegral 33 = .ok (.goto 4, 3) := by decide +kernel
theorem dX2_isInIntegral_36 : decode cX2_isInIntegral 36 = .ok (.iconst 0, 1) := by decide +kernel
theorem dX2_isInIntegral_37 : decode cX2_isInIntegral 37 = .ok (.ireturn, 1) := by decide +kernel
theorem dX2_placeOfPart_0 : decode cX2_placeOfPart 0 = .ok (.iload_n 0, 1) := by decide +kernel
theorem dX2_placeOfPart_1 : decode cX2_placeOfPart 1 = .ok (.invokestatic 105, 3) := by decide +kernel
theorem dX2_placeOfPart_4 : decode cX2_placeOfPart 4 = .ok (.ifCond .eq 17, 3) := by decide +kernel
theorem dX2_placeOfPart_7 : decode cX2_placeOfPart 7 = .ok (.iload_n 1, 1) := by decide +kernel
theorem dX2_placeOfPart_8 : decode cX2_placeOfPart 8 = .ok (.iconst 1, 1) := by decide +kernel
theorem dX2_placeOfPart_9 : decode cX2_placeOfPart 9 = .ok (.if_icmp .lt 12, 3) := by decide +kernel
theorem dX2_placeOfPart_12 : decode cX2_placeOfPart 12 = .ok (.iload_n 1, 1) := by decide +kernel
theorem dX2_placeOfPart_13 : decode cX2_placeOfPart 13 = .ok (.iconst 5, 1) := by decide +kernel
theorem dX2_placeOfPart_14 : decode cX2_placeOfPart 14 = .ok (.if_icmp .gt 7, 3) := by decide +kernel
theorem dX2_placeOfPart_17 : decode cX2_placeOfPart 17 = .ok (.iconst 1, 1) := by decide +kernel
theorem dX2_placeOfPart_18 : decode cX2_placeOfPart 18 = .ok (.goto 4, 3) := by decide +kernel
theorem dX2_placeOfPart_21 : decode cX2_placeOfPart 21 = .ok (.iconst 0, 1) := by decide +kernel
theorem dX2_placeOfPart_22 : decode cX2_placeOfPart 22 = .ok (.istore_n 2, 1) := by decide +kernel
theorem dX2_placeOfPart_23 : decode cX2_placeOfPart 23 = .ok (.iload_n 2, 1) := by decide +kernel
theorem dX2_placeOfPart_24 : decode cX2_placeOfPart 24 = .ok (.ifCond .eq 16, 3) := by decide +kernel
theorem dX2_placeOfPart_27 : decode cX2_placeOfPart 27 = .ok (.iload_n 0, 1) := by decide +kernel
theorem dX2_placeOfPart_28 : decode cX2_placeOfPart 28 = .ok (.bipush (-3), 2) := by decide +kernel
theorem dX2_placeOfPart_30 : decode cX2_placeOfPart 30 = .ok (.isub, 1) := by decide +kernel
theorem dX2_placeOfPart_31 : decode cX2_placeOfPart 31 = .ok (.iconst 5, 1) := by decide +kernel
theorem dX2_placeOfPart_32 : decode cX2_placeOfPart 32 = .ok (.imul, 1) := by decide +kernel
theorem dX2_placeOfPart_33 : decode cX2_placeOfPart 33 = .ok (.iload_n 1, 1) := by decide +kernel
theorem dX2_placeOfPart_34 : decode cX2_placeOfPart 34 = .ok (.iadd, 1) := by decide +kernel
theorem dX2_placeOfPart_35 : decode cX2_placeOfPart 35 = .ok (.iconst 1, 1) := by decide +kernel
theorem dX2_placeOfPart_36 : decode cX2_placeOfPart 36 = .ok (.isub, 1) := by decide +kernel
theorem dX2_placeOfPart_37 : decode cX2_placeOfPart 37 = .ok (.goto 4, 3) := by decide +kernel
theorem dX2_placeOfPart_40 : decode cX2_placeOfPart 40 = .ok (.iconst (-1), 1) := by decide +kernel
theorem dX2_placeOfPart_41 : decode cX2_placeOfPart 41 = .ok (.ireturn, 1) := by decide +kernel
theorem dX2_partAbove_0 : decode cX2_partAbove 0 = .ok (.iload_n 1, 1) := by decide +kernel
theorem dX2_partAbove_1 : decode cX2_partAbove 1 = .ok (.iload_n 2, 1) := by decide +kernel
theorem dX2_partAbove_2 : decode cX2_partAbove 2 = .ok (.invokestatic 158, 3) := by decide +kernel
theorem dX2_partAbove_5 : decode cX2_partAbove 5 = .ok (.istore_n 3, 1) := by decide +kernel
theorem dX2_partAbove_6 : decode cX2_partAbove 6 = .ok (.iload_n 3, 1) := by decide +kernel
theorem dX2_partAbove_7 : decode cX2_partAbove 7 = .ok (.ifCond .ge 7, 3) := by decide +kernel
theorem dX2_partAbove_10 : decode cX2_partAbove 10 = .ok (.lconst 0, 1) := by decide +kernel
theorem dX2_partAbove_11 : decode cX2_partAbove 11 = .ok (.goto 9, 3) := by decide +kernel
theorem dX2_partAbove_14 : decode cX2_partAbove 14 = .ok (.aload_n 0, 1) := by decide +kernel
theorem dX2_partAbove_15 : decode cX2_partAbove 15 = .ok (.getfield 33, 3) := by decide +kernel
theorem dX2_partAbove_18 : decode cX2_partAbove 18 = .ok (.iload_n 3, 1) := by decide +kernel
theorem dX2_partAbove_19 : decode cX2_partAbove 19 = .ok (.laload, 1) := by decide +kernel
theorem dX2_partAbove_20 : decode cX2_partAbove 20 = .ok (.lreturn, 1) := by decide +kernel
theorem dX2_partBelow_0 : decode cX2_partBelow 0 = .ok (.iload_n 1, 1) := by decide +kernel
theorem dX2_partBelow_1 : decode cX2_partBelow 1 = .ok (.iload_n 2, 1) := by decide +kernel
theorem dX2_partBelow_2 : decode cX2_partBelow 2 = .ok (.invokestatic 158, 3) := by decide +kernel
theorem dX2_partBelow_5 : decode cX2_partBelow 5 = .ok (.istore_n 3, 1) := by decide +kernel
theorem dX2_partBelow_6 : decode cX2_partBelow 6 = .ok (.iload_n 3, 1) := by decide +kernel
theorem dX2_partBelow_7 : decode cX2_partBelow 7 = .ok (.ifCond .ge 7, 3) := by decide +kernel
theorem dX2_partBelow_10 : decode cX2_partBelow 10 = .ok (.lconst 1, 1) := by decide +kernel
theorem dX2_partBelow_11 : decode cX2_partBelow 11 = .ok (.goto 9, 3) := by decide +kernel
theorem dX2_partBelow_14 : decode cX2_partBelow 14 = .ok (.aload_n 0, 1) := by decide +kernel
theorem dX2_partBelow_15 : decode cX2_partBelow 15 = .ok (.getfield 37, 3) := by decide +kernel
theorem dX2_partBelow_18 : decode cX2_partBelow 18 = .ok (.iload_n 3, 1) := by decide +kernel
theorem dX2_partBelow_19 : decode cX2_partBelow 19 = .ok (.laload, 1) := by decide +kernel
theorem dX2_partBelow_20 : decode cX2_partBelow 20 = .ok (.lreturn, 1) := by decide +kernel
theorem dX2_keepPart_0 : decode cX2_keepPart 0 = .ok (.iload_n 1, 1) := by decide +kernel
theorem dX2_keepPart_1 : decode cX2_keepPart 1 = .ok (.iload_n 2, 1) := by decide +kernel
theorem dX2_keepPart_2 : decode cX2_keepPart 2 = .ok (.invokestatic 158, 3) := by decide +kernel
theorem dX2_keepPart_5 : decode cX2_keepPart 5 = .ok (.istore 7, 2) := by decide +kernel
theorem dX2_keepPart_7 : decode cX2_keepPart 7 = .ok (.iload 7, 2) := by decide +kernel
theorem dX2_keepPart_9 : decode cX2_keepPart 9 = .ok (.ifCond .lt 31, 3) := by decide +kernel
theorem dX2_keepPart_12 : decode cX2_keepPart 12 = .ok (.aload_n 0, 1) := by decide +kernel
theorem dX2_keepPart_13 : decode cX2_keepPart 13 = .ok (.getfield 33, 3) := by decide +kernel
theorem dX2_keepPart_16 : decode cX2_keepPart 16 = .ok (.iload 7, 2) := by decide +kernel
theorem dX2_keepPart_18 : decode cX2_keepPart 18 = .ok (.lload_n 3, 1) := by decide +kernel
theorem dX2_keepPart_19 : decode cX2_keepPart 19 = .ok (.lload 5, 2) := by decide +kernel
theorem dX2_keepPart_21 : decode cX2_keepPart 21 = .ok (.iconst 0, 1) := by decide +kernel
theorem dX2_keepPart_22 : decode cX2_keepPart 22 = .ok (.invokestatic 131, 3) := by decide +kernel
theorem dX2_keepPart_25 : decode cX2_keepPart 25 = .ok (.lastore, 1) := by decide +kernel
theorem dX2_keepPart_26 : decode cX2_keepPart 26 = .ok (.aload_n 0, 1) := by decide +kernel
theorem dX2_keepPart_27 : decode cX2_keepPart 27 = .ok (.getfield 37, 3) := by decide +kernel
theorem dX2_keepPart_30 : decode cX2_keepPart 30 = .ok (.iload 7, 2) := by decide +kernel
theorem dX2_keepPart_32 : decode cX2_keepPart 32 = .ok (.lload_n 3, 1) := by decide +kernel
theorem dX2_keepPart_33 : decode cX2_keepPart 33 = .ok (.lload 5, 2) := by decide +kernel
theorem dX2_keepPart_35 : decode cX2_keepPart 35 = .ok (.iconst 1, 1) := by decide +kernel
theorem dX2_keepPart_36 : decode cX2_keepPart 36 = .ok (.invokestatic 131, 3) := by decide +kernel
theorem dX2_keepPart_39 : decode cX2_keepPart 39 = .ok (.lastore, 1) := by decide +kernel
theorem dX2_keepPart_40 : decode cX2_keepPart 40 = .ok (.return_, 1) := by decide +kernel
theorem dX2_inLowestTerms_0 : decode cX2_inLowestTerms 0 = .ok (.lload_n 0, 1) := by decide +kernel
theorem dX2_inLowestTerms_1 : decode cX2_inLowestTerms 1 = .ok (.lload_n 2, 1) := by decide +kernel
theorem dX2_inLowestTerms_2 : decode cX2_inLowestTerms 2 = .ok (.invokestatic 162, 3) := by decide +kernel
theorem dX2_inLowestTerms_5 : decode cX2_inLowestTerms 5 = .ok (.lstore 5, 2) := by decide +kernel
theorem dX2_inLowestTerms_7 : decode cX2_inLowestTerms 7 = .ok (.lload_n 2, 1) := by decide +kernel
theorem dX2_inLowestTerms_8 : decode cX2_inLowestTerms 8 = .ok (.lconst 0, 1) := by decide +kernel
theorem dX2_inLowestTerms_9 : decode cX2_inLowestTerms 9 = .ok (.lcmp, 1) := by decide +kernel
theorem dX2_inLowestTerms_10 : decode cX2_inLowestTerms 10 = .ok (.ifCond .eq 10, 3) := by decide +kernel
theorem dX2_inLowestTerms_13 : decode cX2_inLowestTerms 13 = .ok (.lload 5, 2) := by decide +kernel
theorem dX2_inLowestTerms_15 : decode cX2_inLowestTerms 15 = .ok (.lconst 0, 1) := by decide +kernel
theorem dX2_inLowestTerms_16 : decode cX2_inLowestTerms 16 = .ok (.lcmp, 1) := by decide +kernel
theorem dX2_inLowestTerms_17 : decode cX2_inLowestTerms 17 = .ok (.ifCond .ne 14, 3) := by decide +kernel
theorem dX2_inLowestTerms_20 : decode cX2_inLowestTerms 20 = .ok (.iload 4, 2) := by decide +kernel
theorem dX2_inLowestTerms_22 : decode cX2_inLowestTerms 22 = .ok (.ifCond .ne 7, 3) := by decide +kernel
theorem dX2_inLowestTerms_25 : decode cX2_inLowestTerms 25 = .ok (.lconst 0, 1) := by decide +kernel
theorem dX2_inLowestTerms_26 : decode cX2_inLowestTerms 26 = .ok (.goto 4, 3) := by decide +kernel
theorem dX2_inLowestTerms_29 : decode cX2_inLowestTerms 29 = .ok (.lconst 1, 1) := by decide +kernel
theorem dX2_inLowestTerms_30 : decode cX2_inLowestTerms 30 = .ok (.lreturn, 1) := by decide +kernel
theorem dX2_inLowestTerms_31 : decode cX2_inLowestTerms 31 = .ok (.lload_n 2, 1) := by decide +kernel
theorem dX2_inLowestTerms_32 : decode cX2_inLowestTerms 32 = .ok (.lconst 0, 1) := by decide +kernel
theorem dX2_inLowestTerms_33 : decode cX2_inLowestTerms 33 = .ok (.lcmp, 1) := by decide +kernel
theorem dX2_inLowestTerms_34 : decode cX2_inLowestTerms 34 = .ok (.ifCond .ge 9, 3) := by decide +kernel
theorem dX2_inLowestTerms_37 : decode cX2_inLowestTerms 37 = .ok (.lload 5, 2) := by decide +kernel
theorem dX2_inLowestTerms_39 : decode cX2_inLowestTerms 39 = .ok (.lneg, 1) := by decide +kernel
theorem dX2_inLowestTerms_40 : decode cX2_inLowestTerms 40 = .ok (.goto 5, 3) := by decide +kernel
theorem dX2_inLowestTerms_43 : decode cX2_inLowestTerms 43 = .ok (.lload 5, 2) := by decide +kernel
theorem dX2_inLowestTerms_45 : decode cX2_inLowestTerms 45 = .ok (.lstore 7, 2) := by decide +kernel
theorem dX2_inLowestTerms_47 : decode cX2_inLowestTerms 47 = .ok (.iload 4, 2) := by decide +kernel
theorem dX2_inLowestTerms_49 : decode cX2_inLowestTerms 49 = .ok (.ifCond .ne 7, 3) := by decide +kernel
theorem dX2_inLowestTerms_52 : decode cX2_inLowestTerms 52 = .ok (.lload_n 0, 1) := by decide +kernel
theorem dX2_inLowestTerms_53 : decode cX2_inLowestTerms 53 = .ok (.goto 4, 3) := by decide +kernel
theorem dX2_inLowestTerms_56 : decode cX2_inLowestTerms 56 = .ok (.lload_n 2, 1) := by decide +kernel
theorem dX2_inLowestTerms_57 : decode cX2_inLowestTerms 57 = .ok (.lload 7, 2) := by decide +kernel
theorem dX2_inLowestTerms_59 : decode cX2_inLowestTerms 59 = .ok (.ldiv, 1) := by decide +kernel
theorem dX2_inLowestTerms_60 : decode cX2_inLowestTerms 60 = .ok (.lreturn, 1) := by decide +kernel
theorem dX2_commonDivisor_0 : decode cX2_commonDivisor 0 = .ok (.lload_n 0, 1) := by decide +kernel
theorem dX2_commonDivisor_1 : decode cX2_commonDivisor 1 = .ok (.invokestatic 166, 3) := by decide +kernel
theorem dX2_commonDivisor_4 : decode cX2_commonDivisor 4 = .ok (.lstore 4, 2) := by decide +kernel
theorem dX2_commonDivisor_6 : decode cX2_commonDivisor 6 = .ok (.lload_n 2, 1) := by decide +kernel
theorem dX2_commonDivisor_7 : decode cX2_commonDivisor 7 = .ok (.invokestatic 166, 3) := by decide +kernel
theorem dX2_commonDivisor_10 : decode cX2_commonDivisor 10 = .ok (.lstore 6, 2) := by decide +kernel
theorem dX2_commonDivisor_12 : decode cX2_commonDivisor 12 = .ok (.iconst 0, 1) := by decide +kernel
theorem dX2_commonDivisor_13 : decode cX2_commonDivisor 13 = .ok (.istore 8, 2) := by decide +kernel
theorem dX2_commonDivisor_15 : decode cX2_commonDivisor 15 = .ok (.iload 8, 2) := by decide +kernel
theorem dX2_commonDivisor_17 : decode cX2_commonDivisor 17 = .ok (.bipush 100, 2) := by decide +kernel
theorem dX2_commonDivisor_19 : decode cX2_commonDivisor 19 = .ok (.if_icmp .ge 31, 3) := by decide +kernel
theorem dX2_commonDivisor_22 : decode cX2_commonDivisor 22 = .ok (.lload 6, 2) := by decide +kernel
theorem dX2_commonDivisor_24 : decode cX2_commonDivisor 24 = .ok (.lconst 0, 1) := by decide +kernel
theorem dX2_commonDivisor_25 : decode cX2_commonDivisor 25 = .ok (.lcmp, 1) := by decide +kernel
theorem dX2_commonDivisor_26 : decode cX2_commonDivisor 26 = .ok (.ifCond .eq 24, 3) := by decide +kernel
theorem dX2_commonDivisor_29 : decode cX2_commonDivisor 29 = .ok (.lload 4, 2) := by decide +kernel
theorem dX2_commonDivisor_31 : decode cX2_commonDivisor 31 = .ok (.lload 6, 2) := by decide +kernel
theorem dX2_commonDivisor_33 : decode cX2_commonDivisor 33 = .ok (.lrem, 1) := by decide +kernel
theorem dX2_commonDivisor_34 : decode cX2_commonDivisor 34 = .ok (.lstore 9, 2) := by decide +kernel
theorem dX2_commonDivisor_36 : decode cX2_commonDivisor 36 = .ok (.lload 6, 2) := by decide +kernel
theorem dX2_commonDivisor_38 : decode cX2_commonDivisor 38 = .ok (.lstore 4, 2) := by decide +kernel
theorem dX2_commonDivisor_40 : decode cX2_commonDivisor 40 = .ok (.lload 9, 2) := by decide +kernel
theorem dX2_commonDivisor_42 : decode cX2_commonDivisor 42 = .ok (.lstore 6, 2) := by decide +kernel
theorem dX2_commonDivisor_44 : decode cX2_commonDivisor 44 = .ok (.iinc 8 1, 3) := by decide +kernel
theorem dX2_commonDivisor_47 : decode cX2_commonDivisor 47 = .ok (.goto (-32), 3) := by decide +kernel
theorem dX2_commonDivisor_50 : decode cX2_commonDivisor 50 = .ok (.lload 4, 2) := by decide +kernel
theorem dX2_commonDivisor_52 : decode cX2_commonDivisor 52 = .ok (.lreturn, 1) := by decide +kernel
theorem dX2_sum_0 : decode cX2_sum 0 = .ok (.iconst 0, 1) := by decide +kernel
theorem dX2_sum_1 : decode cX2_sum 1 = .ok (.istore_n 1, 1) := by decide +kernel
theorem dX2_sum_2 : decode cX2_sum 2 = .ok (.aload_n 0, 1) := by decide +kernel
theorem dX2_sum_3 : decode cX2_sum 3 = .ok (.astore_n 2, 1) := by decide +kernel
theorem dX2_sum_4 : decode cX2_sum 4 = .ok (.aload_n 2, 1) := by decide +kernel
theorem dX2_sum_5 : decode cX2_sum 5 = .ok (.arraylength, 1) := by decide +kernel
theorem dX2_sum_6 : decode cX2_sum 6 = .ok (.istore_n 3, 1) := by decide +kernel
theorem dX2_sum_7 : decode cX2_sum 7 = .ok (.iconst 0, 1) := by decide +kernel
theorem dX2_sum_8 : decode cX2_sum 8 = .ok (.istore 4, 2) := by decide +kernel
theorem dX2_sum_10 : decode cX2_sum 10 = .ok (.iload 4, 2) := by decide +kernel
theorem dX2_sum_12 : decode cX2_sum 12 = .ok (.iload_n 3, 1) := by decide +kernel
theorem dX2_sum_13 : decode cX2_sum 13 = .ok (.if_icmp .ge 20, 3) := by decide +kernel
theorem dX2_sum_16 : decode cX2_sum 16 = .ok (.aload_n 2, 1) := by decide +kernel
theorem dX2_sum_17 : decode cX2_sum 17 = .ok (.iload 4, 2) := by decide +kernel
theorem dX2_sum_19 : decode cX2_sum 19 = .ok (.iaload, 1) := by decide +kernel
theorem dX2_sum_20 : decode cX2_sum 20 = .ok (.istore 5, 2) := by decide +kernel
theorem dX2_sum_22 : decode cX2_sum 22 = .ok (.iload_n 1, 1) := by decide +kernel
theorem dX2_sum_23 : decode cX2_sum 23 = .ok (.iload 5, 2) := by decide +kernel
theorem dX2_sum_25 : decode cX2_sum 25 = .ok (.iadd, 1) := by decide +kernel
theorem dX2_sum_26 : decode cX2_sum 26 = .ok (.istore_n 1, 1) := by decide +kernel
theorem dX2_sum_27 : decode cX2_sum 27 = .ok (.iinc 4 1, 3) := by decide +kernel
theorem dX2_sum_30 : decode cX2_sum 30 = .ok (.goto (-20), 3) := by decide +kernel
theorem dX2_sum_33 : decode cX2_sum 33 = .ok (.iload_n 1, 1) := by decide +kernel
theorem dX2_sum_34 : decode cX2_sum 34 = .ok (.ireturn, 1) := by decide +kernel
theorem dX2_takeApart_0 : decode cX2_takeApart 0 = .ok (.aload_n 0, 1) := by decide +kernel
theorem dX2_takeApart_1 : decode cX2_takeApart 1 = .ok (.getfield 23, 3) := by decide +kernel
theorem dX2_takeApart_4 : decode cX2_takeApart 4 = .ok (.invokevirtual 172, 3) := by decide +kernel
theorem dX2_takeApart_7 : decode cX2_takeApart 7 = .ok (.aload_n 0, 1) := by decide +kernel
theorem dX2_takeApart_8 : decode cX2_takeApart 8 = .ok (.getfield 26, 3) := by decide +kernel
theorem dX2_takeApart_11 : decode cX2_takeApart 11 = .ok (.aload_n 0, 1) := by decide +kernel
theorem dX2_takeApart_12 : decode cX2_takeApart 12 = .ok (.getfield 19, 3) := by decide +kernel
theorem dX2_takeApart_15 : decode cX2_takeApart 15 = .ok (.invokevirtual 73, 3) := by decide +kernel
theorem dX2_takeApart_18 : decode cX2_takeApart 18 = .ok (.aload_n 0, 1) := by decide +kernel
theorem dX2_takeApart_19 : decode cX2_takeApart 19 = .ok (.getfield 33, 3) := by decide +kernel
theorem dX2_takeApart_22 : decode cX2_takeApart 22 = .ok (.lconst 0, 1) := by decide +kernel
theorem dX2_takeApart_23 : decode cX2_takeApart 23 = .ok (.invokestatic 175, 3) := by decide +kernel
theorem dX2_takeApart_26 : decode cX2_takeApart 26 = .ok (.aload_n 0, 1) := by decide +kernel
theorem dX2_takeApart_27 : decode cX2_takeApart 27 = .ok (.getfield 37, 3) := by decide +kernel
theorem dX2_takeApart_30 : decode cX2_takeApart 30 = .ok (.lconst 1, 1) := by decide +kernel
theorem dX2_takeApart_31 : decode cX2_takeApart 31 = .ok (.invokestatic 175, 3) := by decide +kernel
theorem dX2_takeApart_34 : decode cX2_takeApart 34 = .ok (.bipush (-3), 2) := by decide +kernel
theorem dX2_takeApart_36 : decode cX2_takeApart 36 = .ok (.istore_n 1, 1) := by decide +kernel
theorem dX2_takeApart_37 : decode cX2_takeApart 37 = .ok (.iload_n 1, 1) := by decide +kernel
theorem dX2_takeApart_38 : decode cX2_takeApart 38 = .ok (.iconst 3, 1) := by decide +kernel
theorem dX2_takeApart_39 : decode cX2_takeApart 39 = .ok (.if_icmp .gt 50, 3) := by decide +kernel
theorem dX2_takeApart_42 : decode cX2_takeApart 42 = .ok (.aload_n 0, 1) := by decide +kernel
theorem dX2_takeApart_43 : decode cX2_takeApart 43 = .ok (.iload_n 1, 1) := by decide +kernel
theorem dX2_takeApart_44 : decode cX2_takeApart 44 = .ok (.invokevirtual 109, 3) := by decide +kernel
theorem dX2_takeApart_47 : decode cX2_takeApart 47 = .ok (.istore_n 2, 1) := by decide +kernel
theorem dX2_takeApart_48 : decode cX2_takeApart 48 = .ok (.iconst 0, 1) := by decide +kernel
theorem dX2_takeApart_49 : decode cX2_takeApart 49 = .ok (.istore_n 3, 1) := by decide +kernel
theorem dX2_takeApart_50 : decode cX2_takeApart 50 = .ok (.iload_n 3, 1) := by decide +kernel
theorem dX2_takeApart_51 : decode cX2_takeApart 51 = .ok (.iload_n 2, 1) := by decide +kernel
theorem dX2_takeApart_52 : decode cX2_takeApart 52 = .ok (.if_icmp .ge 26, 3) := by decide +kernel
theorem dX2_takeApart_55 : decode cX2_takeApart 55 = .ok (.aload_n 0, 1) := by decide +kernel
theorem dX2_takeApart_56 : decode cX2_takeApart 56 = .ok (.getfield 23, 3) := by decide +kernel
theorem dX2_takeApart_59 : decode cX2_takeApart 59 = .ok (.iload_n 1, 1) := by decide +kernel
theorem dX2_takeApart_60 : decode cX2_takeApart 60 = .ok (.invokevirtual 181, 3) := by decide +kernel
theorem dX2_takeApart_63 : decode cX2_takeApart 63 = .ok (.aload_n 0, 1) := by decide +kernel
theorem dX2_takeApart_64 : decode cX2_takeApart 64 = .ok (.getfield 26, 3) := by decide +kernel
theorem dX2_takeApart_67 : decode cX2_takeApart 67 = .ok (.iload_n 1, 1) := by decide +kernel
theorem dX2_takeApart_68 : decode cX2_takeApart 68 = .ok (.invokevirtual 185, 3) := by decide +kernel
theorem dX2_takeApart_71 : decode cX2_takeApart 71 = .ok (.pop2, 1) := by decide +kernel
theorem dX2_takeApart_72 : decode cX2_takeApart 72 = .ok (.iinc 3 1, 3) := by decide +kernel
theorem dX2_takeApart_75 : decode cX2_takeApart 75 = .ok (.goto (-25), 3) := by decide +kernel
theorem dX2_takeApart_78 : decode cX2_takeApart 78 = .ok (.aload_n 0, 1) := by decide +kernel
theorem dX2_takeApart_79 : decode cX2_takeApart 79 = .ok (.iload_n 1, 1) := by decide +kernel
theorem dX2_takeApart_80 : decode cX2_takeApart 80 = .ok (.invokevirtual 188, 3) := by decide +kernel
theorem dX2_takeApart_83 : decode cX2_takeApart 83 = .ok (.iinc 1 1, 3) := by decide +kernel
theorem dX2_takeApart_86 : decode cX2_takeApart 86 = .ok (.goto (-49), 3) := by decide +kernel
theorem dX2_takeApart_89 : decode cX2_takeApart 89 = .ok (.return_, 1) := by decide +kernel
theorem dX2_makePartsOf_0 : decode cX2_makePartsOf 0 = .ok (.aload_n 0, 1) := by decide +kernel
theorem dX2_makePartsOf_1 : decode cX2_makePartsOf 1 = .ok (.getfield 46, 3) := by decide +kernel
theorem dX2_makePartsOf_4 : decode cX2_makePartsOf 4 = .ok (.aload_n 0, 1) := by decide +kernel
theorem dX2_makePartsOf_5 : decode cX2_makePartsOf 5 = .ok (.getfield 19, 3) := by decide +kernel
theorem dX2_makePartsOf_8 : decode cX2_makePartsOf 8 = .ok (.invokevirtual 73, 3) := by decide +kernel
theorem dX2_makePartsOf_11 : decode cX2_makePartsOf 11 = .ok (.aload_n 0, 1) := by decide +kernel
theorem dX2_makePartsOf_12 : decode cX2_makePartsOf 12 = .ok (.iload_n 1, 1) := by decide +kernel
theorem dX2_makePartsOf_13 : decode cX2_makePartsOf 13 = .ok (.invokevirtual 191, 3) := by decide +kernel
theorem dX2_makePartsOf_16 : decode cX2_makePartsOf 16 = .ok (.aload_n 0, 1) := by decide +kernel
theorem dX2_makePartsOf_17 : decode cX2_makePartsOf 17 = .ok (.getfield 49, 3) := by decide +kernel
theorem dX2_makePartsOf_20 : decode cX2_makePartsOf 20 = .ok (.iload_n 1, 1) := by decide +kernel
theorem dX2_makePartsOf_21 : decode cX2_makePartsOf 21 = .ok (.invokevirtual 185, 3) := by decide +kernel
theorem dX2_makePartsOf_24 : decode cX2_makePartsOf 24 = .ok (.lstore_n 2, 1) := by decide +kernel
theorem dX2_makePartsOf_25 : decode cX2_makePartsOf 25 = .ok (.lconst 1, 1) := by decide +kernel
theorem dX2_makePartsOf_26 : decode cX2_makePartsOf 26 = .ok (.lstore 4, 2) := by decide +kernel
theorem dX2_makePartsOf_28 : decode cX2_makePartsOf 28 = .ok (.aload_n 0, 1) := by decide +kernel
theorem dX2_makePartsOf_29 : decode cX2_makePartsOf 29 = .ok (.iload_n 1, 1) := by decide +kernel
theorem dX2_makePartsOf_30 : decode cX2_makePartsOf 30 = .ok (.invokevirtual 109, 3) := by decide +kernel
theorem dX2_makePartsOf_33 : decode cX2_makePartsOf 33 = .ok (.istore 6, 2) := by decide +kernel
theorem dX2_makePartsOf_35 : decode cX2_makePartsOf 35 = .ok (.iload 6, 2) := by decide +kernel
theorem dX2_makePartsOf_37 : decode cX2_makePartsOf 37 = .ok (.iconst 1, 1) := by decide +kernel
theorem dX2_makePartsOf_38 : decode cX2_makePartsOf 38 = .ok (.if_icmp .lt 51, 3) := by decide +kernel
theorem dX2_makePartsOf_41 : decode cX2_makePartsOf 41 = .ok (.aload_n 0, 1) := by decide +kernel
theorem dX2_makePartsOf_42 : decode cX2_makePartsOf 42 = .ok (.getfield 46, 3) := by decide +kernel
theorem dX2_makePartsOf_45 : decode cX2_makePartsOf 45 = .ok (.iload_n 1, 1) := by decide +kernel
theorem dX2_makePartsOf_46 : decode cX2_makePartsOf 46 = .ok (.invokevirtual 185, 3) := by decide +kernel
theorem dX2_makePartsOf_49 : decode cX2_makePartsOf 49 = .ok (.lstore 7, 2) := by decide +kernel
theorem dX2_makePartsOf_51 : decode cX2_makePartsOf 51 = .ok (.lload 4, 2) := by decide +kernel
theorem dX2_makePartsOf_53 : decode cX2_makePartsOf 53 = .ok (.lload_n 2, 1) := by decide +kernel
theorem dX2_makePartsOf_54 : decode cX2_makePartsOf 54 = .ok (.lmul, 1) := by decide +kernel
theorem dX2_makePartsOf_55 : decode cX2_makePartsOf 55 = .ok (.lstore 4, 2) := by decide +kernel
theorem dX2_makePartsOf_57 : decode cX2_makePartsOf 57 = .ok (.aload_n 0, 1) := by decide +kernel
theorem dX2_makePartsOf_58 : decode cX2_makePartsOf 58 = .ok (.iload_n 1, 1) := by decide +kernel
theorem dX2_makePartsOf_59 : decode cX2_makePartsOf 59 = .ok (.iload 6, 2) := by decide +kernel
theorem dX2_makePartsOf_61 : decode cX2_makePartsOf 61 = .ok (.lload 7, 2) := by decide +kernel
theorem dX2_makePartsOf_63 : decode cX2_makePartsOf 63 = .ok (.lload 4, 2) := by decide +kernel
theorem dX2_makePartsOf_65 : decode cX2_makePartsOf 65 = .ok (.invokevirtual 194, 3) := by decide +kernel
theorem dX2_makePartsOf_68 : decode cX2_makePartsOf 68 = .ok (.aload_n 0, 1) := by decide +kernel
theorem dX2_makePartsOf_69 : decode cX2_makePartsOf 69 = .ok (.getfield 46, 3) := by decide +kernel
theorem dX2_makePartsOf_72 : decode cX2_makePartsOf 72 = .ok (.lload_n 2, 1) := by decide +kernel
theorem dX2_makePartsOf_73 : decode cX2_makePartsOf 73 = .ok (.lload 7, 2) := by decide +kernel
theorem dX2_makePartsOf_75 : decode cX2_makePartsOf 75 = .ok (.lneg, 1) := by decide +kernel
theorem dX2_makePartsOf_76 : decode cX2_makePartsOf 76 = .ok (.aload_n 0, 1) := by decide +kernel
theorem dX2_makePartsOf_77 : decode cX2_makePartsOf 77 = .ok (.getfield 49, 3) := by decide +kernel
theorem dX2_makePartsOf_80 : decode cX2_makePartsOf 80 = .ok (.invokevirtual 198, 3) := by decide +kernel
theorem dX2_makePartsOf_83 : decode cX2_makePartsOf 83 = .ok (.iinc 6 (-1), 3) := by decide +kernel
theorem dX2_makePartsOf_86 : decode cX2_makePartsOf 86 = .ok (.goto (-51), 3) := by decide +kernel
theorem dX2_makePartsOf_89 : decode cX2_makePartsOf 89 = .ok (.return_, 1) := by decide +kernel
theorem dX2_multiplyOtherFactors_0 : decode cX2_multiplyOtherFactors 0 = .ok (.aload_n 0, 1) := by decide +kernel
theorem dX2_multiplyOtherFactors_1 : decode cX2_multiplyOtherFactors 1 = .ok (.getfield 49, 3) := by decide +kernel
theorem dX2_multiplyOtherFactors_4 : decode cX2_multiplyOtherFactors 4 = .ok (.invokevirtual 172, 3) := by decide +kernel
theorem dX2_multiplyOtherFactors_7 : decode cX2_multiplyOtherFactors 7 = .ok (.bipush (-3), 2) := by decide +kernel
theorem dX2_multiplyOtherFactors_9 : decode cX2_multiplyOtherFactors 9 = .ok (.istore_n 2, 1) := by decide +kernel
theorem dX2_multiplyOtherFactors_10 : decode cX2_multiplyOtherFactors 10 = .ok (.iload_n 2, 1) := by decide +kernel
theorem dX2_multiplyOtherFactors_11 : decode cX2_multiplyOtherFactors 11 = .ok (.iconst 3, 1) := by decide +kernel
theorem dX2_multiplyOtherFactors_12 : decode cX2_multiplyOtherFactors 12 = .ok (.if_icmp .gt 47, 3) := by decide +kernel
theorem dX2_multiplyOtherFactors_15 : decode cX2_multiplyOtherFactors 15 = .ok (.iload_n 2, 1) := by decide +kernel
theorem dX2_multiplyOtherFactors_16 : decode cX2_multiplyOtherFactors 16 = .ok (.iload_n 1, 1) := by decide +kernel
theorem dX2_multiplyOtherFactors_17 : decode cX2_multiplyOtherFactors 17 = .ok (.if_icmp .ne 7, 3) := by decide +kernel
theorem dX2_multiplyOtherFactors_20 : decode cX2_multiplyOtherFactors 20 = .ok (.iconst 0, 1) := by decide +kernel
theorem dX2_multiplyOtherFactors_21 : decode cX2_multiplyOtherFactors 21 = .ok (.goto 8, 3) := by decide +kernel
theorem dX2_multiplyOtherFactors_24 : decode cX2_multiplyOtherFactors 24 = .ok (.aload_n 0, 1) := by decide +kernel
theorem dX2_multiplyOtherFactors_25 : decode cX2_multiplyOtherFactors 25 = .ok (.iload_n 2, 1) := by decide +kernel
theorem dX2_multiplyOtherFactors_26 : decode cX2_multiplyOtherFactors 26 = .ok (.invokevirtual 109, 3) := by decide +kernel
theorem dX2_multiplyOtherFactors_29 : decode cX2_multiplyOtherFactors 29 = .ok (.istore_n 3, 1) := by decide +kernel
theorem dX2_multiplyOtherFactors_30 : decode cX2_multiplyOtherFactors 30 = .ok (.iconst 0, 1) := by decide +kernel
theorem dX2_multiplyOtherFactors_31 : decode cX2_multiplyOtherFactors 31 = .ok (.istore 4, 2) := by decide +kernel
theorem dX2_multiplyOtherFactors_33 : decode cX2_multiplyOtherFactors 33 = .ok (.iload 4, 2) := by decide +kernel
theorem dX2_multiplyOtherFactors_35 : decode cX2_multiplyOtherFactors 35 = .ok (.iload_n 3, 1) := by decide +kernel
theorem dX2_multiplyOtherFactors_36 : decode cX2_multiplyOtherFactors 36 = .ok (.if_icmp .ge 17, 3) := by decide +kernel
theorem dX2_multiplyOtherFactors_39 : decode cX2_multiplyOtherFactors 39 = .ok (.aload_n 0, 1) := by decide +kernel
theorem dX2_multiplyOtherFactors_40 : decode cX2_multiplyOtherFactors 40 = .ok (.getfield 49, 3) := by decide +kernel
theorem dX2_multiplyOtherFactors_43 : decode cX2_multiplyOtherFactors 43 = .ok (.iload_n 2, 1) := by decide +kernel
theorem dX2_multiplyOtherFactors_44 : decode cX2_multiplyOtherFactors 44 = .ok (.invokevirtual 181, 3) := by decide +kernel
theorem dX2_multiplyOtherFactors_47 : decode cX2_multiplyOtherFactors 47 = .ok (.iinc 4 1, 3) := by decide +kernel
theorem dX2_multiplyOtherFactors_50 : decode cX2_multiplyOtherFactors 50 = .ok (.goto (-17), 3) := by decide +kernel
theorem dX2_multiplyOtherFactors_53 : decode cX2_multiplyOtherFactors 53 = .ok (.iinc 2 1, 3) := by decide +kernel
theorem dX2_multiplyOtherFactors_56 : decode cX2_multiplyOtherFactors 56 = .ok (.goto (-46), 3) := by decide +kernel
theorem dX2_multiplyOtherFactors_59 : decode cX2_multiplyOtherFactors 59 = .ok (.return_, 1) := by decide +kernel
theorem dX2_readPolynomial_0 : decode cX2_readPolynomial 0 = .ok (.aload_n 0, 1) := by decide +kernel
theorem dX2_readPolynomial_1 : decode cX2_readPolynomial 1 = .ok (.getfield 40, 3) := by decide +kernel
theorem dX2_readPolynomial_4 : decode cX2_readPolynomial 4 = .ok (.invokevirtual 202, 3) := by decide +kernel
theorem dX2_readPolynomial_7 : decode cX2_readPolynomial 7 = .ok (.aload_n 0, 1) := by decide +kernel
theorem dX2_readPolynomial_8 : decode cX2_readPolynomial 8 = .ok (.iconst 1, 1) := by decide +kernel
theorem dX2_readPolynomial_9 : decode cX2_readPolynomial 9 = .ok (.invokevirtual 205, 3) := by decide +kernel
theorem dX2_readPolynomial_12 : decode cX2_readPolynomial 12 = .ok (.istore_n 1, 1) := by decide +kernel
theorem dX2_readPolynomial_13 : decode cX2_readPolynomial 13 = .ok (.iconst 1, 1) := by decide +kernel
theorem dX2_readPolynomial_14 : decode cX2_readPolynomial 14 = .ok (.istore_n 2, 1) := by decide +kernel
theorem dX2_readPolynomial_15 : decode cX2_readPolynomial 15 = .ok (.iload_n 2, 1) := by decide +kernel
theorem dX2_readPolynomial_16 : decode cX2_readPolynomial 16 = .ok (.bipush 30, 2) := by decide +kernel
theorem dX2_readPolynomial_18 : decode cX2_readPolynomial 18 = .ok (.if_icmp .ge 29, 3) := by decide +kernel
theorem dX2_readPolynomial_21 : decode cX2_readPolynomial 21 = .ok (.iload_n 1, 1) := by decide +kernel
theorem dX2_readPolynomial_22 : decode cX2_readPolynomial 22 = .ok (.ifCond .eq 25, 3) := by decide +kernel
theorem dX2_readPolynomial_25 : decode cX2_readPolynomial 25 = .ok (.aload_n 0, 1) := by decide +kernel
theorem dX2_readPolynomial_26 : decode cX2_readPolynomial 26 = .ok (.getfield 12, 3) := by decide +kernel
theorem dX2_readPolynomial_29 : decode cX2_readPolynomial 29 = .ok (.invokevirtual 209, 3) := by decide +kernel
theorem dX2_readPolynomial_32 : decode cX2_readPolynomial 32 = .ok (.ifCond .ne 15, 3) := by decide +kernel
theorem dX2_readPolynomial_35 : decode cX2_readPolynomial 35 = .ok (.aload_n 0, 1) := by decide +kernel
theorem dX2_readPolynomial_36 : decode cX2_readPolynomial 36 = .ok (.iconst 0, 1) := by decide +kernel
theorem dX2_readPolynomial_37 : decode cX2_readPolynomial 37 = .ok (.invokevirtual 205, 3) := by decide +kernel
theorem dX2_readPolynomial_40 : decode cX2_readPolynomial 40 = .ok (.istore_n 1, 1) := by decide +kernel
theorem dX2_readPolynomial_41 : decode cX2_readPolynomial 41 = .ok (.iinc 2 1, 3) := by decide +kernel
theorem dX2_readPolynomial_44 : decode cX2_readPolynomial 44 = .ok (.goto (-29), 3) := by decide +kernel
theorem dX2_readPolynomial_47 : decode cX2_readPolynomial 47 = .ok (.iload_n 1, 1) := by decide +kernel
theorem dX2_readPolynomial_48 : decode cX2_readPolynomial 48 = .ok (.ifCond .eq 17, 3) := by decide +kernel
theorem dX2_readPolynomial_51 : decode cX2_readPolynomial 51 = .ok (.aload_n 0, 1) := by decide +kernel
theorem dX2_readPolynomial_52 : decode cX2_readPolynomial 52 = .ok (.getfield 12, 3) := by decide +kernel
theorem dX2_readPolynomial_55 : decode cX2_readPolynomial 55 = .ok (.invokevirtual 209, 3) := by decide +kernel
theorem dX2_readPolynomial_58 : decode cX2_readPolynomial 58 = .ok (.ifCond .eq 7, 3) := by decide +kernel
theorem dX2_readPolynomial_61 : decode cX2_readPolynomial 61 = .ok (.iconst 1, 1) := by decide +kernel
theorem dX2_readPolynomial_62 : decode cX2_readPolynomial 62 = .ok (.goto 4, 3) := by decide +kernel
theorem dX2_readPolynomial_65 : decode cX2_readPolynomial 65 = .ok (.iconst 0, 1) := by decide +kernel
theorem dX2_readPolynomial_66 : decode cX2_readPolynomial 66 = .ok (.ireturn, 1) := by decide +kernel
theorem dX2_readTerm_0 : decode cX2_readTerm 0 = .ok (.aload_n 0, 1) := by decide +kernel
theorem dX2_readTerm_1 : decode cX2_readTerm 1 = .ok (.getfield 12, 3) := by decide +kernel
theorem dX2_readTerm_4 : decode cX2_readTerm 4 = .ok (.bipush 45, 2) := by decide +kernel
theorem dX2_readTerm_6 : decode cX2_readTerm 6 = .ok (.invokevirtual 212, 3) := by decide +kernel
theorem dX2_readTerm_9 : decode cX2_readTerm 9 = .ok (.istore_n 2, 1) := by decide +kernel
theorem dX2_readTerm_10 : decode cX2_readTerm 10 = .ok (.iload_n 2, 1) := by decide +kernel
theorem dX2_readTerm_11 : decode cX2_readTerm 11 = .ok (.ifCond .ne 21, 3) := by decide +kernel
theorem dX2_readTerm_14 : decode cX2_readTerm 14 = .ok (.aload_n 0, 1) := by decide +kernel
theorem dX2_readTerm_15 : decode cX2_readTerm 15 = .ok (.getfield 12, 3) := by decide +kernel
theorem dX2_readTerm_18 : decode cX2_readTerm 18 = .ok (.bipush 43, 2) := by decide +kernel
theorem dX2_readTerm_20 : decode cX2_readTerm 20 = .ok (.invokevirtual 212, 3) := by decide +kernel
theorem dX2_readTerm_23 : decode cX2_readTerm 23 = .ok (.ifCond .ne 9, 3) := by decide +kernel
theorem dX2_readTerm_26 : decode cX2_readTerm 26 = .ok (.iload_n 1, 1) := by decide +kernel
theorem dX2_readTerm_27 : decode cX2_readTerm 27 = .ok (.ifCond .ne 5, 3) := by decide +kernel
theorem dX2_readTerm_30 : decode cX2_readTerm 30 = .ok (.iconst 0, 1) := by decide +kernel
theorem dX2_readTerm_31 : decode cX2_readTerm 31 = .ok (.ireturn, 1) := by decide +kernel
theorem dX2_readTerm_32 : decode cX2_readTerm 32 = .ok (.aload_n 0, 1) := by decide +kernel
theorem dX2_readTerm_33 : decode cX2_readTerm 33 = .ok (.invokevirtual 215, 3) := by decide +kernel
theorem dX2_readTerm_36 : decode cX2_readTerm 36 = .ok (.istore_n 3, 1) := by decide +kernel
theorem dX2_readTerm_37 : decode cX2_readTerm 37 = .ok (.aload_n 0, 1) := by decide +kernel
theorem dX2_readTerm_38 : decode cX2_readTerm 38 = .ok (.getfield 12, 3) := by decide +kernel
theorem dX2_readTerm_41 : decode cX2_readTerm 41 = .ok (.bipush 120, 2) := by decide +kernel
theorem dX2_readTerm_43 : decode cX2_readTerm 43 = .ok (.invokevirtual 212, 3) := by decide +kernel
theorem dX2_readTerm_46 : decode cX2_readTerm 46 = .ok (.istore 4, 2) := by decide +kernel
theorem dX2_readTerm_48 : decode cX2_readTerm 48 = .ok (.iload 4, 2) := by decide +kernel
theorem dX2_readTerm_50 : decode cX2_readTerm 50 = .ok (.ifCond .eq 10, 3) := by decide +kernel
theorem dX2_readTerm_53 : decode cX2_readTerm 53 = .ok (.aload_n 0, 1) := by decide +kernel
theorem dX2_readTerm_54 : decode cX2_readTerm 54 = .ok (.invokevirtual 218, 3) := by decide +kernel
theorem dX2_readTerm_57 : decode cX2_readTerm 57 = .ok (.goto 4, 3) := by decide +kernel
theorem dX2_readTerm_60 : decode cX2_readTerm 60 = .ok (.iconst 0, 1) := by decide +kernel
theorem dX2_readTerm_61 : decode cX2_readTerm 61 = .ok (.istore 5, 2) := by decide +kernel
theorem dX2_readTerm_63 : decode cX2_readTerm 63 = .ok (.iload_n 3, 1) := by decide +kernel
theorem dX2_readTerm_64 : decode cX2_readTerm 64 = .ok (.ifCond .ge 8, 3) := by decide +kernel
theorem dX2_readTerm_67 : decode cX2_readTerm 67 = .ok (.iload 4, 2) := by decide +kernel
theorem dX2_readTerm_69 : decode cX2_readTerm 69 = .ok (.ifCond .eq 8, 3) := by decide +kernel
theorem dX2_readTerm_72 : decode cX2_readTerm 72 = .ok (.iload 5, 2) := by decide +kernel
theorem dX2_readTerm_74 : decode cX2_readTerm 74 = .ok (.ifCond .ge 5, 3) := by decide +kernel
theorem dX2_readTerm_77 : decode cX2_readTerm 77 = .ok (.iconst 0, 1) := by decide +kernel
theorem dX2_readTerm_78 : decode cX2_readTerm 78 = .ok (.ireturn, 1) := by decide +kernel
theorem dX2_readTerm_79 : decode cX2_readTerm 79 = .ok (.iload_n 3, 1) := by decide +kernel
theorem dX2_readTerm_80 : decode cX2_readTerm 80 = .ok (.ifCond .ge 7, 3) := by decide +kernel
theorem dX2_readTerm_83 : decode cX2_readTerm 83 = .ok (.iconst 1, 1) := by decide +kernel
theorem dX2_readTerm_84 : decode cX2_readTerm 84 = .ok (.goto 4, 3) := by decide +kernel
theorem dX2_readTerm_87 : decode cX2_readTerm 87 = .ok (.iload_n 3, 1) := by decide +kernel
theorem dX2_readTerm_88 : decode cX2_readTerm 88 = .ok (.istore 6, 2) := by decide +kernel
theorem dX2_readTerm_90 : decode cX2_readTerm 90 = .ok (.aload_n 0, 1) := by decide +kernel
theorem dX2_readTerm_91 : decode cX2_readTerm 91 = .ok (.getfield 40, 3) := by decide +kernel
theorem dX2_readTerm_94 : decode cX2_readTerm 94 = .ok (.iload_n 2, 1) := by decide +kernel
theorem dX2_readTerm_95 : decode cX2_readTerm 95 = .ok (.ifCond .eq 10, 3) := by decide +kernel
theorem dX2_readTerm_98 : decode cX2_readTerm 98 = .ok (.iload 6, 2) := by decide +kernel
theorem dX2_readTerm_100 : decode cX2_readTerm 100 = .ok (.ineg, 1) := by decide +kernel
theorem dX2_readTerm_101 : decode cX2_readTerm 101 = .ok (.i2l, 1) := by decide +kernel
theorem dX2_readTerm_102 : decode cX2_readTerm 102 = .ok (.goto 6, 3) := by decide +kernel
theorem dX2_readTerm_105 : decode cX2_readTerm 105 = .ok (.iload 6, 2) := by decide +kernel
theorem dX2_readTerm_107 : decode cX2_readTerm 107 = .ok (.i2l, 1) := by decide +kernel
theorem dX2_readTerm_108 : decode cX2_readTerm 108 = .ok (.iload 5, 2) := by decide +kernel
theorem dX2_readTerm_110 : decode cX2_readTerm 110 = .ok (.invokevirtual 221, 3) := by decide +kernel
theorem dX2_readTerm_113 : decode cX2_readTerm 113 = .ok (.iconst 1, 1) := by decide +kernel
theorem dX2_readTerm_114 : decode cX2_readTerm 114 = .ok (.ireturn, 1) := by decide +kernel
theorem dX2_readNumber_0 : decode cX2_readNumber 0 = .ok (.aload_n 0, 1) := by decide +kernel
theorem dX2_readNumber_1 : decode cX2_readNumber 1 = .ok (.getfield 12, 3) := by decide +kernel
theorem dX2_readNumber_4 : decode cX2_readNumber 4 = .ok (.iconst 0, 1) := by decide +kernel
theorem dX2_readNumber_5 : decode cX2_readNumber 5 = .ok (.bipush 9, 2) := by decide +kernel
theorem dX2_readNumber_7 : decode cX2_readNumber 7 = .ok (.invokevirtual 225, 3) := by decide +kernel
theorem dX2_readNumber_10 : decode cX2_readNumber 10 = .ok (.istore_n 1, 1) := by decide +kernel
theorem dX2_readNumber_11 : decode cX2_readNumber 11 = .ok (.iload_n 1, 1) := by decide +kernel
theorem dX2_readNumber_12 : decode cX2_readNumber 12 = .ok (.ifCond .ge 7, 3) := by decide +kernel
theorem dX2_readNumber_15 : decode cX2_readNumber 15 = .ok (.iconst (-1), 1) := by decide +kernel
theorem dX2_readNumber_16 : decode cX2_readNumber 16 = .ok (.goto 13, 3) := by decide +kernel
theorem dX2_readNumber_19 : decode cX2_readNumber 19 = .ok (.aload_n 0, 1) := by decide +kernel
theorem dX2_readNumber_20 : decode cX2_readNumber 20 = .ok (.getfield 12, 3) := by decide +kernel
theorem dX2_readNumber_23 : decode cX2_readNumber 23 = .ok (.iconst 0, 1) := by decide +kernel
theorem dX2_readNumber_24 : decode cX2_readNumber 24 = .ok (.bipush 9, 2) := by decide +kernel
theorem dX2_readNumber_26 : decode cX2_readNumber 26 = .ok (.invokevirtual 225, 3) := by decide +kernel
theorem dX2_readNumber_29 : decode cX2_readNumber 29 = .ok (.istore_n 2, 1) := by decide +kernel
theorem dX2_readNumber_30 : decode cX2_readNumber 30 = .ok (.iload_n 2, 1) := by decide +kernel
theorem dX2_readNumber_31 : decode cX2_readNumber 31 = .ok (.ifCond .ge 7, 3) := by decide +kernel
theorem dX2_readNumber_34 : decode cX2_readNumber 34 = .ok (.iload_n 1, 1) := by decide +kernel
theorem dX2_readNumber_35 : decode cX2_readNumber 35 = .ok (.goto 9, 3) := by decide +kernel
theorem dX2_readNumber_38 : decode cX2_readNumber 38 = .ok (.bipush 10, 2) := by decide +kernel
theorem dX2_readNumber_40 : decode cX2_readNumber 40 = .ok (.iload_n 1, 1) := by decide +kernel
theorem dX2_readNumber_41 : decode cX2_readNumber 41 = .ok (.imul, 1) := by decide +kernel
theorem dX2_readNumber_42 : decode cX2_readNumber 42 = .ok (.iload_n 2, 1) := by decide +kernel
theorem dX2_readNumber_43 : decode cX2_readNumber 43 = .ok (.iadd, 1) := by decide +kernel
theorem dX2_readNumber_44 : decode cX2_readNumber 44 = .ok (.ireturn, 1) := by decide +kernel
theorem dX2_readPowerOfX_0 : decode cX2_readPowerOfX 0 = .ok (.aload_n 0, 1) := by decide +kernel
theorem dX2_readPowerOfX_1 : decode cX2_readPowerOfX 1 = .ok (.getfield 12, 3) := by decide +kernel
theorem dX2_readPowerOfX_4 : decode cX2_readPowerOfX 4 = .ok (.bipush 94, 2) := by decide +kernel
theorem dX2_readPowerOfX_6 : decode cX2_readPowerOfX 6 = .ok (.invokevirtual 212, 3) := by decide +kernel
theorem dX2_readPowerOfX_9 : decode cX2_readPowerOfX 9 = .ok (.ifCond .eq 16, 3) := by decide +kernel
theorem dX2_readPowerOfX_12 : decode cX2_readPowerOfX 12 = .ok (.aload_n 0, 1) := by decide +kernel
theorem dX2_readPowerOfX_13 : decode cX2_readPowerOfX 13 = .ok (.getfield 12, 3) := by decide +kernel
theorem dX2_readPowerOfX_16 : decode cX2_readPowerOfX 16 = .ok (.iconst 0, 1) := by decide +kernel
theorem dX2_readPowerOfX_17 : decode cX2_readPowerOfX 17 = .ok (.bipush 6, 2) := by decide +kernel
theorem dX2_readPowerOfX_19 : decode cX2_readPowerOfX 19 = .ok (.invokevirtual 225, 3) := by decide +kernel
theorem dX2_readPowerOfX_22 : decode cX2_readPowerOfX 22 = .ok (.goto 4, 3) := by decide +kernel
theorem dX2_readPowerOfX_25 : decode cX2_readPowerOfX 25 = .ok (.iconst 1, 1) := by decide +kernel
theorem dX2_readPowerOfX_26 : decode cX2_readPowerOfX 26 = .ok (.ireturn, 1) := by decide +kernel
theorem dX2_readProduct_0 : decode cX2_readProduct 0 = .ok (.aload_n 0, 1) := by decide +kernel
theorem dX2_readProduct_1 : decode cX2_readProduct 1 = .ok (.getfield 43, 3) := by decide +kernel
theorem dX2_readProduct_4 : decode cX2_readProduct 4 = .ok (.iconst 0, 1) := by decide +kernel
theorem dX2_readProduct_5 : decode cX2_readProduct 5 = .ok (.invokestatic 228, 3) := by decide +kernel
theorem dX2_readProduct_8 : decode cX2_readProduct 8 = .ok (.aload_n 0, 1) := by decide +kernel
theorem dX2_readProduct_9 : decode cX2_readProduct 9 = .ok (.invokevirtual 231, 3) := by decide +kernel
theorem dX2_readProduct_12 : decode cX2_readProduct 12 = .ok (.istore_n 1, 1) := by decide +kernel
theorem dX2_readProduct_13 : decode cX2_readProduct 13 = .ok (.iconst 1, 1) := by decide +kernel
theorem dX2_readProduct_14 : decode cX2_readProduct 14 = .ok (.istore_n 2, 1) := by decide +kernel
theorem dX2_readProduct_15 : decode cX2_readProduct 15 = .ok (.iload_n 2, 1) := by decide +kernel
theorem dX2_readProduct_16 : decode cX2_readProduct 16 = .ok (.bipush 30, 2) := by decide +kernel
theorem dX2_readProduct_18 : decode cX2_readProduct 18 = .ok (.if_icmp .ge 28, 3) := by decide +kernel
theorem dX2_readProduct_21 : decode cX2_readProduct 21 = .ok (.iload_n 1, 1) := by decide +kernel
theorem dX2_readProduct_22 : decode cX2_readProduct 22 = .ok (.ifCond .eq 24, 3) := by decide +kernel
theorem dX2_readProduct_25 : decode cX2_readProduct 25 = .ok (.aload_n 0, 1) := by decide +kernel
theorem dX2_readProduct_26 : decode cX2_readProduct 26 = .ok (.getfield 12, 3) := by decide +kernel
theorem dX2_readProduct_29 : decode cX2_readProduct 29 = .ok (.invokevirtual 209, 3) := by decide +kernel
theorem dX2_readProduct_32 : decode cX2_readProduct 32 = .ok (.ifCond .ne 14, 3) := by decide +kernel
theorem dX2_readProduct_35 : decode cX2_readProduct 35 = .ok (.aload_n 0, 1) := by decide +kernel
theorem dX2_readProduct_36 : decode cX2_readProduct 36 = .ok (.invokevirtual 231, 3) := by decide +kernel
theorem dX2_readProduct_39 : decode cX2_readProduct 39 = .ok (.istore_n 1, 1) := by decide +kernel
theorem dX2_readProduct_40 : decode cX2_readProduct 40 = .ok (.iinc 2 1, 3) := by decide +kernel
theorem dX2_readProduct_43 : decode cX2_readProduct 43 = .ok (.goto (-28), 3) := by decide +kernel
theorem dX2_readProduct_46 : decode cX2_readProduct 46 = .ok (.iload_n 1, 1) := by decide +kernel
theorem dX2_readProduct_47 : decode cX2_readProduct 47 = .ok (.ifCond .eq 17, 3) := by decide +kernel
theorem dX2_readProduct_50 : decode cX2_readProduct 50 = .ok (.aload_n 0, 1) := by decide +kernel
theorem dX2_readProduct_51 : decode cX2_readProduct 51 = .ok (.getfield 12, 3) := by decide +kernel
theorem dX2_readProduct_54 : decode cX2_readProduct 54 = .ok (.invokevirtual 209, 3) := by decide +kernel
theorem dX2_readProduct_57 : decode cX2_readProduct 57 = .ok (.ifCond .eq 7, 3) := by decide +kernel
theorem dX2_readProduct_60 : decode cX2_readProduct 60 = .ok (.iconst 1, 1) := by decide +kernel
theorem dX2_readProduct_61 : decode cX2_readProduct 61 = .ok (.goto 4, 3) := by decide +kernel
theorem dX2_readProduct_64 : decode cX2_readProduct 64 = .ok (.iconst 0, 1) := by decide +kernel
theorem dX2_readProduct_65 : decode cX2_readProduct 65 = .ok (.ireturn, 1) := by decide +kernel
theorem dX2_readFactor_0 : decode cX2_readFactor 0 = .ok (.aload_n 0, 1) := by decide +kernel
theorem dX2_readFactor_1 : decode cX2_readFactor 1 = .ok (.getfield 12, 3) := by decide +kernel
theorem dX2_readFactor_4 : decode cX2_readFactor 4 = .ok (.bipush 40, 2) := by decide +kernel
theorem dX2_readFactor_6 : decode cX2_readFactor 6 = .ok (.invokevirtual 212, 3) := by decide +kernel
theorem dX2_readFactor_9 : decode cX2_readFactor 9 = .ok (.ifCond .eq 15, 3) := by decide +kernel
theorem dX2_readFactor_12 : decode cX2_readFactor 12 = .ok (.aload_n 0, 1) := by decide +kernel
theorem dX2_readFactor_13 : decode cX2_readFactor 13 = .ok (.getfield 12, 3) := by decide +kernel
theorem dX2_readFactor_16 : decode cX2_readFactor 16 = .ok (.bipush 120, 2) := by decide +kernel
theorem dX2_readFactor_18 : decode cX2_readFactor 18 = .ok (.invokevirtual 212, 3) := by decide +kernel
theorem dX2_readFactor_21 : decode cX2_readFactor 21 = .ok (.ifCond .ne 5, 3) := by decide +kernel
theorem dX2_readFactor_24 : decode cX2_readFactor 24 = .ok (.iconst 0, 1) := by decide +kernel
theorem dX2_readFactor_25 : decode cX2_readFactor 25 = .ok (.ireturn, 1) := by decide +kernel
theorem dX2_readFactor_26 : decode cX2_readFactor 26 = .ok (.aload_n 0, 1) := by decide +kernel
theorem dX2_readFactor_27 : decode cX2_readFactor 27 = .ok (.invokevirtual 234, 3) := by decide +kernel
theorem dX2_readFactor_30 : decode cX2_readFactor 30 = .ok (.istore_n 1, 1) := by decide +kernel
theorem dX2_readFactor_31 : decode cX2_readFactor 31 = .ok (.iload_n 1, 1) := by decide +kernel
theorem dX2_readFactor_32 : decode cX2_readFactor 32 = .ok (.invokestatic 105, 3) := by decide +kernel
theorem dX2_readFactor_35 : decode cX2_readFactor 35 = .ok (.ifCond .eq 15, 3) := by decide +kernel
theorem dX2_readFactor_38 : decode cX2_readFactor 38 = .ok (.aload_n 0, 1) := by decide +kernel
theorem dX2_readFactor_39 : decode cX2_readFactor 39 = .ok (.getfield 12, 3) := by decide +kernel
theorem dX2_readFactor_42 : decode cX2_readFactor 42 = .ok (.bipush 41, 2) := by decide +kernel
theorem dX2_readFactor_44 : decode cX2_readFactor 44 = .ok (.invokevirtual 212, 3) := by decide +kernel
theorem dX2_readFactor_47 : decode cX2_readFactor 47 = .ok (.ifCond .ne 5, 3) := by decide +kernel
theorem dX2_readFactor_50 : decode cX2_readFactor 50 = .ok (.iconst 0, 1) := by decide +kernel
theorem dX2_readFactor_51 : decode cX2_readFactor 51 = .ok (.ireturn, 1) := by decide +kernel
theorem dX2_readFactor_52 : decode cX2_readFactor 52 = .ok (.aload_n 0, 1) := by decide +kernel
theorem dX2_readFactor_53 : decode cX2_readFactor 53 = .ok (.getfield 12, 3) := by decide +kernel
theorem dX2_readFactor_56 : decode cX2_readFactor 56 = .ok (.bipush 94, 2) := by decide +kernel
theorem dX2_readFactor_58 : decode cX2_readFactor 58 = .ok (.invokevirtual 212, 3) := by decide +kernel
theorem dX2_readFactor_61 : decode cX2_readFactor 61 = .ok (.ifCond .eq 15, 3) := by decide +kernel
theorem dX2_readFactor_64 : decode cX2_readFactor 64 = .ok (.aload_n 0, 1) := by decide +kernel
theorem dX2_readFactor_65 : decode cX2_readFactor 65 = .ok (.getfield 12, 3) := by decide +kernel
theorem dX2_readFactor_68 : decode cX2_readFactor 68 = .ok (.iconst 1, 1) := by decide +kernel
theorem dX2_readFactor_69 : decode cX2_readFactor 69 = .ok (.iconst 3, 1) := by decide +kernel
theorem dX2_readFactor_70 : decode cX2_readFactor 70 = .ok (.invokevirtual 225, 3) := by decide +kernel
theorem dX2_readFactor_73 : decode cX2_readFactor 73 = .ok (.goto 4, 3) := by decide +kernel
theorem dX2_readFactor_76 : decode cX2_readFactor 76 = .ok (.iconst 1, 1) := by decide +kernel
theorem dX2_readFactor_77 : decode cX2_readFactor 77 = .ok (.istore_n 2, 1) := by decide +kernel
theorem dX2_readFactor_78 : decode cX2_readFactor 78 = .ok (.iload_n 2, 1) := by decide +kernel
theorem dX2_readFactor_79 : decode cX2_readFactor 79 = .ok (.ifCond .ge 5, 3) := by decide +kernel
theorem dX2_readFactor_82 : decode cX2_readFactor 82 = .ok (.iconst 0, 1) := by decide +kernel
theorem dX2_readFactor_83 : decode cX2_readFactor 83 = .ok (.ireturn, 1) := by decide +kernel
theorem dX2_readFactor_84 : decode cX2_readFactor 84 = .ok (.aload_n 0, 1) := by decide +kernel
theorem dX2_readFactor_85 : decode cX2_readFactor 85 = .ok (.getfield 43, 3) := by decide +kernel
theorem dX2_readFactor_88 : decode cX2_readFactor 88 = .ok (.iload_n 1, 1) := by decide +kernel
theorem dX2_readFactor_89 : decode cX2_readFactor 89 = .ok (.bipush (-3), 2) := by decide +kernel
theorem dX2_readFactor_91 : decode cX2_readFactor 91 = .ok (.isub, 1) := by decide +kernel
theorem dX2_readFactor_92 : decode cX2_readFactor 92 = .ok (.dup2, 1) := by decide +kernel
theorem dX2_readFactor_93 : decode cX2_readFactor 93 = .ok (.iaload, 1) := by decide +kernel
theorem dX2_readFactor_94 : decode cX2_readFactor 94 = .ok (.iload_n 2, 1) := by decide +kernel
theorem dX2_readFactor_95 : decode cX2_readFactor 95 = .ok (.iadd, 1) := by decide +kernel
theorem dX2_readFactor_96 : decode cX2_readFactor 96 = .ok (.iastore, 1) := by decide +kernel
theorem dX2_readFactor_97 : decode cX2_readFactor 97 = .ok (.iconst 1, 1) := by decide +kernel
theorem dX2_readFactor_98 : decode cX2_readFactor 98 = .ok (.ireturn, 1) := by decide +kernel
theorem dX2_readRoot_0 : decode cX2_readRoot 0 = .ok (.aload_n 0, 1) := by decide +kernel
theorem dX2_readRoot_1 : decode cX2_readRoot 1 = .ok (.getfield 12, 3) := by decide +kernel
theorem dX2_readRoot_4 : decode cX2_readRoot 4 = .ok (.bipush 45, 2) := by decide +kernel
theorem dX2_readRoot_6 : decode cX2_readRoot 6 = .ok (.invokevirtual 212, 3) := by decide +kernel
theorem dX2_readRoot_9 : decode cX2_readRoot 9 = .ok (.istore_n 1, 1) := by decide +kernel
theorem dX2_readRoot_10 : decode cX2_readRoot 10 = .ok (.iload_n 1, 1) := by decide +kernel
theorem dX2_readRoot_11 : decode cX2_readRoot 11 = .ok (.ifCond .ne 17, 3) := by decide +kernel
theorem dX2_readRoot_14 : decode cX2_readRoot 14 = .ok (.aload_n 0, 1) := by decide +kernel
theorem dX2_readRoot_15 : decode cX2_readRoot 15 = .ok (.getfield 12, 3) := by decide +kernel
theorem dX2_readRoot_18 : decode cX2_readRoot 18 = .ok (.bipush 43, 2) := by decide +kernel
theorem dX2_readRoot_20 : decode cX2_readRoot 20 = .ok (.invokevirtual 212, 3) := by decide +kernel
theorem dX2_readRoot_23 : decode cX2_readRoot 23 = .ok (.ifCond .ne 5, 3) := by decide +kernel
theorem dX2_readRoot_26 : decode cX2_readRoot 26 = .ok (.iconst 0, 1) := by decide +kernel
theorem dX2_readRoot_27 : decode cX2_readRoot 27 = .ok (.ireturn, 1) := by decide +kernel
theorem dX2_readRoot_28 : decode cX2_readRoot 28 = .ok (.aload_n 0, 1) := by decide +kernel
theorem dX2_readRoot_29 : decode cX2_readRoot 29 = .ok (.getfield 12, 3) := by decide +kernel
theorem dX2_readRoot_32 : decode cX2_readRoot 32 = .ok (.iconst 1, 1) := by decide +kernel
theorem dX2_readRoot_33 : decode cX2_readRoot 33 = .ok (.iconst 3, 1) := by decide +kernel
theorem dX2_readRoot_34 : decode cX2_readRoot 34 = .ok (.invokevirtual 225, 3) := by decide +kernel
theorem dX2_readRoot_37 : decode cX2_readRoot 37 = .ok (.istore_n 2, 1) := by decide +kernel
theorem dX2_readRoot_38 : decode cX2_readRoot 38 = .ok (.iload_n 2, 1) := by decide +kernel
theorem dX2_readRoot_39 : decode cX2_readRoot 39 = .ok (.ifCond .ge 5, 3) := by decide +kernel
theorem dX2_readRoot_42 : decode cX2_readRoot 42 = .ok (.iconst 4, 1) := by decide +kernel
theorem dX2_readRoot_43 : decode cX2_readRoot 43 = .ok (.ireturn, 1) := by decide +kernel
theorem dX2_readRoot_44 : decode cX2_readRoot 44 = .ok (.iload_n 1, 1) := by decide +kernel
theorem dX2_readRoot_45 : decode cX2_readRoot 45 = .ok (.ifCond .eq 7, 3) := by decide +kernel
theorem dX2_readRoot_48 : decode cX2_readRoot 48 = .ok (.iload_n 2, 1) := by decide +kernel
theorem dX2_readRoot_49 : decode cX2_readRoot 49 = .ok (.goto 5, 3) := by decide +kernel
theorem dX2_readRoot_52 : decode cX2_readRoot 52 = .ok (.iload_n 2, 1) := by decide +kernel
theorem dX2_readRoot_53 : decode cX2_readRoot 53 = .ok (.ineg, 1) := by decide +kernel
theorem dX2_readRoot_54 : decode cX2_readRoot 54 = .ok (.ireturn, 1) := by decide +kernel
theorem dJ9_abs_067f4_0 : decode cJ9_abs_067f4 0 = .ok (.lload_n 0, 1) := by decide +kernel
theorem dJ9_abs_067f4_1 : decode cJ9_abs_067f4 1 = .ok (.lconst 0, 1) := by decide +kernel
theorem dJ9_abs_067f4_2 : decode cJ9_abs_067f4 2 = .ok (.lcmp, 1) := by decide +kernel
theorem dJ9_abs_067f4_3 : decode cJ9_abs_067f4 3 = .ok (.ifCond .ge 8, 3) := by decide +kernel
theorem dJ9_abs_067f4_6 : decode cJ9_abs_067f4 6 = .ok (.lload_n 0, 1) := by decide +kernel
theorem dJ9_abs_067f4_7 : decode cJ9_abs_067f4 7 = .ok (.lneg, 1) := by decide +kernel
theorem dJ9_abs_067f4_8 : decode cJ9_abs_067f4 8 = .ok (.goto 4, 3) := by decide +kernel
theorem dJ9_abs_067f4_11 : decode cJ9_abs_067f4 11 = .ok (.lload_n 0, 1) := by decide +kernel
theorem dJ9_abs_067f4_12 : decode cJ9_abs_067f4 12 = .ok (.lreturn, 1) := by decide +kernel
theorem dJ7_fill_d0a16_0 : decode cJ7_fill_d0a16 0 = .ok (.iconst 0, 1) := by decide +kernel
theorem dJ7_fill_d0a16_1 : decode cJ7_fill_d0a16 1 = .ok (.istore_n 3, 1) := by decide +kernel
theorem dJ7_fill_d0a16_2 : decode cJ7_fill_d0a16 2 = .ok (.aload_n 0, 1) := by decide +kernel
theorem dJ7_fill_d0a16_3 : decode cJ7_fill_d0a16 3 = .ok (.arraylength, 1) := by decide +kernel
theorem dJ7_fill_d0a16_4 : decode cJ7_fill_d0a16 4 = .ok (.istore 4, 2) := by decide +kernel
theorem dJ7_fill_d0a16_6 : decode cJ7_fill_d0a16 6 = .ok (.iload_n 3, 1) := by decide +kernel
theorem dJ7_fill_d0a16_7 : decode cJ7_fill_d0a16 7 = .ok (.iload 4, 2) := by decide +kernel
theorem dJ7_fill_d0a16_9 : decode cJ7_fill_d0a16 9 = .ok (.if_icmp .ge 13, 3) := by decide +kernel
theorem dJ7_fill_d0a16_12 : decode cJ7_fill_d0a16 12 = .ok (.aload_n 0, 1) := by decide +kernel
theorem dJ7_fill_d0a16_13 : decode cJ7_fill_d0a16 13 = .ok (.iload_n 3, 1) := by decide +kernel
theorem dJ7_fill_d0a16_14 : decode cJ7_fill_d0a16 14 = .ok (.lload_n 1, 1) := by decide +kernel
theorem dJ7_fill_d0a16_15 : decode cJ7_fill_d0a16 15 = .ok (.lastore, 1) := by decide +kernel
theorem dJ7_fill_d0a16_16 : decode cJ7_fill_d0a16 16 = .ok (.iinc 3 1, 3) := by decide +kernel
theorem dJ7_fill_d0a16_19 : decode cJ7_fill_d0a16 19 = .ok (.goto (-13), 3) := by decide +kernel
theorem dJ7_fill_d0a16_22 : decode cJ7_fill_d0a16 22 = .ok (.return_, 1) := by decide +kernel
theorem dJ7_fill_53178_0 : decode cJ7_fill_53178 0 = .ok (.iconst 0, 1) := by decide +kernel
theorem dJ7_fill_53178_1 : decode cJ7_fill_53178 1 = .ok (.istore_n 2, 1) := by decide +kernel
theorem dJ7_fill_53178_2 : decode cJ7_fill_53178 2 = .ok (.aload_n 0, 1) := by decide +kernel
theorem dJ7_fill_53178_3 : decode cJ7_fill_53178 3 = .ok (.arraylength, 1) := by decide +kernel
theorem dJ7_fill_53178_4 : decode cJ7_fill_53178 4 = .ok (.istore_n 3, 1) := by decide +kernel
theorem dJ7_fill_53178_5 : decode cJ7_fill_53178 5 = .ok (.iload_n 2, 1) := by decide +kernel
theorem dJ7_fill_53178_6 : decode cJ7_fill_53178 6 = .ok (.iload_n 3, 1) := by decide +kernel
theorem dJ7_fill_53178_7 : decode cJ7_fill_53178 7 = .ok (.if_icmp .ge 13, 3) := by decide +kernel
theorem dJ7_fill_53178_10 : decode cJ7_fill_53178 10 = .ok (.aload_n 0, 1) := by decide +kernel
theorem dJ7_fill_53178_11 : decode cJ7_fill_53178 11 = .ok (.iload_n 2, 1) := by decide +kernel
theorem dJ7_fill_53178_12 : decode cJ7_fill_53178 12 = .ok (.iload_n 1, 1) := by decide +kernel
theorem dJ7_fill_53178_13 : decode cJ7_fill_53178 13 = .ok (.iastore, 1) := by decide +kernel
theorem dJ7_fill_53178_14 : decode cJ7_fill_53178 14 = .ok (.iinc 2 1, 3) := by decide +kernel
theorem dJ7_fill_53178_17 : decode cJ7_fill_53178 17 = .ok (.goto (-12), 3) := by decide +kernel
theorem dJ7_fill_53178_20 : decode cJ7_fill_53178 20 = .ok (.return_, 1) := by decide +kernel
