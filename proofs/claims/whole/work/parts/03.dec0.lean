theorem dX0_lengthOf_0 : decode cX0_lengthOf 0 = .ok (.iload_n 0, 1) := by decide +kernel
theorem dX0_lengthOf_1 : decode cX0_lengthOf 1 = .ok (.tableswitch 70 1 5 #[35, 70, 43, 53, 61], 35) := by decide +kernel
theorem dX0_lengthOf_36 : decode cX0_lengthOf 36 = .ok (.iconst 5, 1) := by decide +kernel
theorem dX0_lengthOf_37 : decode cX0_lengthOf 37 = .ok (.iload_n 3, 1) := by decide +kernel
theorem dX0_lengthOf_38 : decode cX0_lengthOf 38 = .ok (.imul, 1) := by decide +kernel
theorem dX0_lengthOf_39 : decode cX0_lengthOf 39 = .ok (.iload_n 2, 1) := by decide +kernel
theorem dX0_lengthOf_40 : decode cX0_lengthOf 40 = .ok (.iadd, 1) := by decide +kernel
theorem dX0_lengthOf_41 : decode cX0_lengthOf 41 = .ok (.iload_n 1, 1) := by decide +kernel
theorem dX0_lengthOf_42 : decode cX0_lengthOf 42 = .ok (.isub, 1) := by decide +kernel
theorem dX0_lengthOf_43 : decode cX0_lengthOf 43 = .ok (.ireturn, 1) := by decide +kernel
theorem dX0_lengthOf_44 : decode cX0_lengthOf 44 = .ok (.iconst 5, 1) := by decide +kernel
theorem dX0_lengthOf_45 : decode cX0_lengthOf 45 = .ok (.iload_n 3, 1) := by decide +kernel
theorem dX0_lengthOf_46 : decode cX0_lengthOf 46 = .ok (.imul, 1) := by decide +kernel
theorem dX0_lengthOf_47 : decode cX0_lengthOf 47 = .ok (.iload_n 2, 1) := by decide +kernel
theorem dX0_lengthOf_48 : decode cX0_lengthOf 48 = .ok (.iadd, 1) := by decide +kernel
theorem dX0_lengthOf_49 : decode cX0_lengthOf 49 = .ok (.iload_n 1, 1) := by decide +kernel
theorem dX0_lengthOf_50 : decode cX0_lengthOf 50 = .ok (.isub, 1) := by decide +kernel
theorem dX0_lengthOf_51 : decode cX0_lengthOf 51 = .ok (.iconst 3, 1) := by decide +kernel
theorem dX0_lengthOf_52 : decode cX0_lengthOf 52 = .ok (.isub, 1) := by decide +kernel
theorem dX0_lengthOf_53 : decode cX0_lengthOf 53 = .ok (.ireturn, 1) := by decide +kernel
theorem dX0_lengthOf_54 : decode cX0_lengthOf 54 = .ok (.iconst 5, 1) := by decide +kernel
theorem dX0_lengthOf_55 : decode cX0_lengthOf 55 = .ok (.iload_n 3, 1) := by decide +kernel
theorem dX0_lengthOf_56 : decode cX0_lengthOf 56 = .ok (.imul, 1) := by decide +kernel
theorem dX0_lengthOf_57 : decode cX0_lengthOf 57 = .ok (.iload_n 2, 1) := by decide +kernel
theorem dX0_lengthOf_58 : decode cX0_lengthOf 58 = .ok (.iadd, 1) := by decide +kernel
theorem dX0_lengthOf_59 : decode cX0_lengthOf 59 = .ok (.iconst 2, 1) := by decide +kernel
theorem dX0_lengthOf_60 : decode cX0_lengthOf 60 = .ok (.iadd, 1) := by decide +kernel
theorem dX0_lengthOf_61 : decode cX0_lengthOf 61 = .ok (.ireturn, 1) := by decide +kernel
theorem dX0_lengthOf_62 : decode cX0_lengthOf 62 = .ok (.bipush 10, 2) := by decide +kernel
theorem dX0_lengthOf_64 : decode cX0_lengthOf 64 = .ok (.iload_n 3, 1) := by decide +kernel
theorem dX0_lengthOf_65 : decode cX0_lengthOf 65 = .ok (.iconst 2, 1) := by decide +kernel
theorem dX0_lengthOf_66 : decode cX0_lengthOf 66 = .ok (.idiv, 1) := by decide +kernel
theorem dX0_lengthOf_67 : decode cX0_lengthOf 67 = .ok (.imul, 1) := by decide +kernel
theorem dX0_lengthOf_68 : decode cX0_lengthOf 68 = .ok (.iload_n 2, 1) := by decide +kernel
theorem dX0_lengthOf_69 : decode cX0_lengthOf 69 = .ok (.iadd, 1) := by decide +kernel
theorem dX0_lengthOf_70 : decode cX0_lengthOf 70 = .ok (.ireturn, 1) := by decide +kernel
theorem dX0_lengthOf_71 : decode cX0_lengthOf 71 = .ok (.iconst 5, 1) := by decide +kernel
theorem dX0_lengthOf_72 : decode cX0_lengthOf 72 = .ok (.iload_n 3, 1) := by decide +kernel
theorem dX0_lengthOf_73 : decode cX0_lengthOf 73 = .ok (.imul, 1) := by decide +kernel
theorem dX0_lengthOf_74 : decode cX0_lengthOf 74 = .ok (.iload_n 2, 1) := by decide +kernel
theorem dX0_lengthOf_75 : decode cX0_lengthOf 75 = .ok (.iadd, 1) := by decide +kernel
theorem dX0_lengthOf_76 : decode cX0_lengthOf 76 = .ok (.ireturn, 1) := by decide +kernel
theorem dX0_giving_0 : decode cX0_giving 0 = .ok (.iload_n 0, 1) := by decide +kernel
theorem dX0_giving_1 : decode cX0_giving 1 = .ok (.iconst 2, 1) := by decide +kernel
theorem dX0_giving_2 : decode cX0_giving 2 = .ok (.if_icmp .eq 8, 3) := by decide +kernel
theorem dX0_giving_5 : decode cX0_giving 5 = .ok (.iload_n 0, 1) := by decide +kernel
theorem dX0_giving_6 : decode cX0_giving 6 = .ok (.iconst 4, 1) := by decide +kernel
theorem dX0_giving_7 : decode cX0_giving 7 = .ok (.if_icmp .ne 9, 3) := by decide +kernel
theorem dX0_giving_10 : decode cX0_giving 10 = .ok (.iload_n 1, 1) := by decide +kernel
theorem dX0_giving_11 : decode cX0_giving 11 = .ok (.iconst 3, 1) := by decide +kernel
theorem dX0_giving_12 : decode cX0_giving 12 = .ok (.idiv, 1) := by decide +kernel
theorem dX0_giving_13 : decode cX0_giving 13 = .ok (.goto 4, 3) := by decide +kernel
theorem dX0_giving_16 : decode cX0_giving 16 = .ok (.iconst 0, 1) := by decide +kernel
theorem dX0_giving_17 : decode cX0_giving 17 = .ok (.ireturn, 1) := by decide +kernel
theorem dX0_says_0 : decode cX0_says 0 = .ok (.bipush (-2), 2) := by decide +kernel
theorem dX0_says_2 : decode cX0_says 2 = .ok (.istore_n 3, 1) := by decide +kernel
theorem dX0_says_3 : decode cX0_says 3 = .ok (.iconst (-1), 1) := by decide +kernel
theorem dX0_says_4 : decode cX0_says 4 = .ok (.istore 4, 2) := by decide +kernel
theorem dX0_says_6 : decode cX0_says 6 = .ok (.iload 4, 2) := by decide +kernel
theorem dX0_says_8 : decode cX0_says 8 = .ok (.iconst 2, 1) := by decide +kernel
theorem dX0_says_9 : decode cX0_says 9 = .ok (.if_icmp .gt 28, 3) := by decide +kernel
theorem dX0_says_12 : decode cX0_says 12 = .ok (.iload_n 2, 1) := by decide +kernel
theorem dX0_says_13 : decode cX0_says 13 = .ok (.iload_n 0, 1) := by decide +kernel
theorem dX0_says_14 : decode cX0_says 14 = .ok (.iload_n 1, 1) := by decide +kernel
theorem dX0_says_15 : decode cX0_says 15 = .ok (.invokestatic 9, 3) := by decide +kernel
theorem dX0_says_18 : decode cX0_says 18 = .ok (.iadd, 1) := by decide +kernel
theorem dX0_says_19 : decode cX0_says 19 = .ok (.iload_n 0, 1) := by decide +kernel
theorem dX0_says_20 : decode cX0_says 20 = .ok (.iload 4, 2) := by decide +kernel
theorem dX0_says_22 : decode cX0_says 22 = .ok (.invokestatic 15, 3) := by decide +kernel
theorem dX0_says_25 : decode cX0_says 25 = .ok (.if_icmp .lt 6, 3) := by decide +kernel
theorem dX0_says_28 : decode cX0_says 28 = .ok (.iload 4, 2) := by decide +kernel
theorem dX0_says_30 : decode cX0_says 30 = .ok (.istore_n 3, 1) := by decide +kernel
theorem dX0_says_31 : decode cX0_says 31 = .ok (.iinc 4 1, 3) := by decide +kernel
theorem dX0_says_34 : decode cX0_says 34 = .ok (.goto (-28), 3) := by decide +kernel
theorem dX0_says_37 : decode cX0_says 37 = .ok (.iload_n 3, 1) := by decide +kernel
theorem dX0_says_38 : decode cX0_says 38 = .ok (.ireturn, 1) := by decide +kernel
theorem dX0_bound_0 : decode cX0_bound 0 = .ok (.getstatic 18, 3) := by decide +kernel
theorem dX0_bound_3 : decode cX0_bound 3 = .ok (.iconst 4, 1) := by decide +kernel
theorem dX0_bound_4 : decode cX0_bound 4 = .ok (.iload_n 0, 1) := by decide +kernel
theorem dX0_bound_5 : decode cX0_bound 5 = .ok (.imul, 1) := by decide +kernel
theorem dX0_bound_6 : decode cX0_bound 6 = .ok (.iload_n 1, 1) := by decide +kernel
theorem dX0_bound_7 : decode cX0_bound 7 = .ok (.iadd, 1) := by decide +kernel
theorem dX0_bound_8 : decode cX0_bound 8 = .ok (.iconst 1, 1) := by decide +kernel
theorem dX0_bound_9 : decode cX0_bound 9 = .ok (.iadd, 1) := by decide +kernel
theorem dX0_bound_10 : decode cX0_bound 10 = .ok (.iaload, 1) := by decide +kernel
theorem dX0_bound_11 : decode cX0_bound 11 = .ok (.ireturn, 1) := by decide +kernel
theorem dX0_reach_0 : decode cX0_reach 0 = .ok (.iload_n 2, 1) := by decide +kernel
theorem dX0_reach_1 : decode cX0_reach 1 = .ok (.bipush (-2), 2) := by decide +kernel
theorem dX0_reach_3 : decode cX0_reach 3 = .ok (.if_icmp .gt 6, 3) := by decide +kernel
theorem dX0_reach_6 : decode cX0_reach 6 = .ok (.bipush 99, 2) := by decide +kernel
theorem dX0_reach_8 : decode cX0_reach 8 = .ok (.ireturn, 1) := by decide +kernel
theorem dX0_reach_9 : decode cX0_reach 9 = .ok (.iload_n 2, 1) := by decide +kernel
theorem dX0_reach_10 : decode cX0_reach 10 = .ok (.iconst 2, 1) := by decide +kernel
theorem dX0_reach_11 : decode cX0_reach 11 = .ok (.if_icmp .le 5, 3) := by decide +kernel
theorem dX0_reach_14 : decode cX0_reach 14 = .ok (.iconst (-1), 1) := by decide +kernel
theorem dX0_reach_15 : decode cX0_reach 15 = .ok (.ireturn, 1) := by decide +kernel
theorem dX0_reach_16 : decode cX0_reach 16 = .ok (.iconst (-1), 1) := by decide +kernel
theorem dX0_reach_17 : decode cX0_reach 17 = .ok (.bipush 99, 2) := by decide +kernel
theorem dX0_reach_19 : decode cX0_reach 19 = .ok (.iload_n 1, 1) := by decide +kernel
theorem dX0_reach_20 : decode cX0_reach 20 = .ok (.iload_n 0, 1) := by decide +kernel
theorem dX0_reach_21 : decode cX0_reach 21 = .ok (.iload_n 2, 1) := by decide +kernel
theorem dX0_reach_22 : decode cX0_reach 22 = .ok (.invokestatic 15, 3) := by decide +kernel
theorem dX0_reach_25 : decode cX0_reach 25 = .ok (.isub, 1) := by decide +kernel
theorem dX0_reach_26 : decode cX0_reach 26 = .ok (.invokestatic 22, 3) := by decide +kernel
theorem dX0_reach_29 : decode cX0_reach 29 = .ok (.invokestatic 27, 3) := by decide +kernel
theorem dX0_reach_32 : decode cX0_reach 32 = .ok (.ireturn, 1) := by decide +kernel
theorem dX0_isUnder_0 : decode cX0_isUnder 0 = .ok (.iload_n 0, 1) := by decide +kernel
theorem dX0_isUnder_1 : decode cX0_isUnder 1 = .ok (.istore_n 2, 1) := by decide +kernel
theorem dX0_isUnder_2 : decode cX0_isUnder 2 = .ok (.iconst 0, 1) := by decide +kernel
theorem dX0_isUnder_3 : decode cX0_isUnder 3 = .ok (.istore_n 3, 1) := by decide +kernel
theorem dX0_isUnder_4 : decode cX0_isUnder 4 = .ok (.iload_n 3, 1) := by decide +kernel
theorem dX0_isUnder_5 : decode cX0_isUnder 5 = .ok (.bipush 6, 2) := by decide +kernel
theorem dX0_isUnder_7 : decode cX0_isUnder 7 = .ok (.if_icmp .ge 27, 3) := by decide +kernel
theorem dX0_isUnder_10 : decode cX0_isUnder 10 = .ok (.iload_n 2, 1) := by decide +kernel
theorem dX0_isUnder_11 : decode cX0_isUnder 11 = .ok (.iconst (-1), 1) := by decide +kernel
theorem dX0_isUnder_12 : decode cX0_isUnder 12 = .ok (.if_icmp .eq 22, 3) := by decide +kernel
theorem dX0_isUnder_15 : decode cX0_isUnder 15 = .ok (.iload_n 2, 1) := by decide +kernel
theorem dX0_isUnder_16 : decode cX0_isUnder 16 = .ok (.iload_n 1, 1) := by decide +kernel
theorem dX0_isUnder_17 : decode cX0_isUnder 17 = .ok (.if_icmp .ne 5, 3) := by decide +kernel
theorem dX0_isUnder_20 : decode cX0_isUnder 20 = .ok (.iconst 1, 1) := by decide +kernel
theorem dX0_isUnder_21 : decode cX0_isUnder 21 = .ok (.ireturn, 1) := by decide +kernel
theorem dX0_isUnder_22 : decode cX0_isUnder 22 = .ok (.getstatic 30, 3) := by decide +kernel
theorem dX0_isUnder_25 : decode cX0_isUnder 25 = .ok (.iload_n 2, 1) := by decide +kernel
theorem dX0_isUnder_26 : decode cX0_isUnder 26 = .ok (.iaload, 1) := by decide +kernel
theorem dX0_isUnder_27 : decode cX0_isUnder 27 = .ok (.istore_n 2, 1) := by decide +kernel
theorem dX0_isUnder_28 : decode cX0_isUnder 28 = .ok (.iinc 3 1, 3) := by decide +kernel
theorem dX0_isUnder_31 : decode cX0_isUnder 31 = .ok (.goto (-27), 3) := by decide +kernel
theorem dX0_isUnder_34 : decode cX0_isUnder 34 = .ok (.iconst 0, 1) := by decide +kernel
theorem dX0_isUnder_35 : decode cX0_isUnder 35 = .ok (.ireturn, 1) := by decide +kernel
theorem dX1_init_0 : decode cX1_init 0 = .ok (.aload_n 0, 1) := by decide +kernel
theorem dX1_init_1 : decode cX1_init 1 = .ok (.invokespecial 3, 3) := by decide +kernel
theorem dX1_init_4 : decode cX1_init 4 = .ok (.return_, 1) := by decide +kernel
theorem dX1_clear_0 : decode cX1_clear 0 = .ok (.aload_n 0, 1) := by decide +kernel
theorem dX1_clear_1 : decode cX1_clear 1 = .ok (.iconst (-1), 1) := by decide +kernel
theorem dX1_clear_2 : decode cX1_clear 2 = .ok (.putfield 9, 3) := by decide +kernel
theorem dX1_clear_5 : decode cX1_clear 5 = .ok (.aload_n 0, 1) := by decide +kernel
theorem dX1_clear_6 : decode cX1_clear 6 = .ok (.ldc 17, 2) := by decide +kernel
theorem dX1_clear_8 : decode cX1_clear 8 = .ok (.putfield 18, 3) := by decide +kernel
theorem dX1_clear_11 : decode cX1_clear 11 = .ok (.return_, 1) := by decide +kernel
theorem dX1_offer_0 : decode cX1_offer 0 = .ok (.iload_n 2, 1) := by decide +kernel
theorem dX1_offer_1 : decode cX1_offer 1 = .ok (.aload_n 0, 1) := by decide +kernel
theorem dX1_offer_2 : decode cX1_offer 2 = .ok (.getfield 18, 3) := by decide +kernel
theorem dX1_offer_5 : decode cX1_offer 5 = .ok (.if_icmp .ge 13, 3) := by decide +kernel
theorem dX1_offer_8 : decode cX1_offer 8 = .ok (.aload_n 0, 1) := by decide +kernel
theorem dX1_offer_9 : decode cX1_offer 9 = .ok (.iload_n 1, 1) := by decide +kernel
theorem dX1_offer_10 : decode cX1_offer 10 = .ok (.putfield 9, 3) := by decide +kernel
theorem dX1_offer_13 : decode cX1_offer 13 = .ok (.aload_n 0, 1) := by decide +kernel
theorem dX1_offer_14 : decode cX1_offer 14 = .ok (.iload_n 2, 1) := by decide +kernel
theorem dX1_offer_15 : decode cX1_offer 15 = .ok (.putfield 18, 3) := by decide +kernel
theorem dX1_offer_18 : decode cX1_offer 18 = .ok (.return_, 1) := by decide +kernel
theorem dX2_init_0 : decode cX2_init 0 = .ok (.aload_n 0, 1) := by decide +kernel
theorem dX2_init_1 : decode cX2_init 1 = .ok (.invokespecial 3, 3) := by decide +kernel
theorem dX2_init_4 : decode cX2_init 4 = .ok (.aload_n 0, 1) := by decide +kernel
theorem dX2_init_5 : decode cX2_init 5 = .ok (.sipush 160, 3) := by decide +kernel
theorem dX2_init_8 : decode cX2_init 8 = .ok (.newarray .int, 2) := by decide +kernel
theorem dX2_init_10 : decode cX2_init 10 = .ok (.putfield 9, 3) := by decide +kernel
theorem dX2_init_13 : decode cX2_init 13 = .ok (.aload_n 0, 1) := by decide +kernel
theorem dX2_init_14 : decode cX2_init 14 = .ok (.sipush 161, 3) := by decide +kernel
theorem dX2_init_17 : decode cX2_init 17 = .ok (.newarray .int, 2) := by decide +kernel
theorem dX2_init_19 : decode cX2_init 19 = .ok (.putfield 15, 3) := by decide +kernel
theorem dX2_init_22 : decode cX2_init 22 = .ok (.aload_n 0, 1) := by decide +kernel
theorem dX2_init_23 : decode cX2_init 23 = .ok (.sipush 161, 3) := by decide +kernel
theorem dX2_init_26 : decode cX2_init 26 = .ok (.newarray .int, 2) := by decide +kernel
theorem dX2_init_28 : decode cX2_init 28 = .ok (.putfield 18, 3) := by decide +kernel
theorem dX2_init_31 : decode cX2_init 31 = .ok (.aload_n 0, 1) := by decide +kernel
theorem dX2_init_32 : decode cX2_init 32 = .ok (.sipush 160, 3) := by decide +kernel
theorem dX2_init_35 : decode cX2_init 35 = .ok (.newarray .int, 2) := by decide +kernel
theorem dX2_init_37 : decode cX2_init 37 = .ok (.putfield 21, 3) := by decide +kernel
theorem dX2_init_40 : decode cX2_init 40 = .ok (.aload_n 0, 1) := by decide +kernel
theorem dX2_init_41 : decode cX2_init 41 = .ok (.iconst 4, 1) := by decide +kernel
theorem dX2_init_42 : decode cX2_init 42 = .ok (.newarray .int, 2) := by decide +kernel
theorem dX2_init_44 : decode cX2_init 44 = .ok (.putfield 24, 3) := by decide +kernel
theorem dX2_init_47 : decode cX2_init 47 = .ok (.return_, 1) := by decide +kernel
theorem dX2_isFull_0 : decode cX2_isFull 0 = .ok (.aload_n 0, 1) := by decide +kernel
theorem dX2_isFull_1 : decode cX2_isFull 1 = .ok (.getfield 27, 3) := by decide +kernel
theorem dX2_isFull_4 : decode cX2_isFull 4 = .ok (.sipush 160, 3) := by decide +kernel
theorem dX2_isFull_7 : decode cX2_isFull 7 = .ok (.if_icmp .lt 7, 3) := by decide +kernel
theorem dX2_isFull_10 : decode cX2_isFull 10 = .ok (.iconst 1, 1) := by decide +kernel
theorem dX2_isFull_11 : decode cX2_isFull 11 = .ok (.goto 4, 3) := by decide +kernel
theorem dX2_isFull_14 : decode cX2_isFull 14 = .ok (.iconst 0, 1) := by decide +kernel
theorem dX2_isFull_15 : decode cX2_isFull 15 = .ok (.ireturn, 1) := by decide +kernel
theorem dX2_append_0 : decode cX2_append 0 = .ok (.aload_n 0, 1) := by decide +kernel
theorem dX2_append_1 : decode cX2_append 1 = .ok (.invokevirtual 31, 3) := by decide +kernel
theorem dX2_append_4 : decode cX2_append 4 = .ok (.ifCond .ne 23, 3) := by decide +kernel
theorem dX2_append_7 : decode cX2_append 7 = .ok (.aload_n 0, 1) := by decide +kernel
theorem dX2_append_8 : decode cX2_append 8 = .ok (.getfield 9, 3) := by decide +kernel
theorem dX2_append_11 : decode cX2_append 11 = .ok (.aload_n 0, 1) := by decide +kernel
theorem dX2_append_12 : decode cX2_append 12 = .ok (.getfield 27, 3) := by decide +kernel
theorem dX2_append_15 : decode cX2_append 15 = .ok (.iload_n 1, 1) := by decide +kernel
theorem dX2_append_16 : decode cX2_append 16 = .ok (.iastore, 1) := by decide +kernel
theorem dX2_append_17 : decode cX2_append 17 = .ok (.aload_n 0, 1) := by decide +kernel
theorem dX2_append_18 : decode cX2_append 18 = .ok (.dup, 1) := by decide +kernel
theorem dX2_append_19 : decode cX2_append 19 = .ok (.getfield 27, 3) := by decide +kernel
theorem dX2_append_22 : decode cX2_append 22 = .ok (.iconst 1, 1) := by decide +kernel
theorem dX2_append_23 : decode cX2_append 23 = .ok (.iadd, 1) := by decide +kernel
theorem dX2_append_24 : decode cX2_append 24 = .ok (.putfield 27, 3) := by decide +kernel
theorem dX2_append_27 : decode cX2_append 27 = .ok (.aload_n 0, 1) := by decide +kernel
theorem dX2_append_28 : decode cX2_append 28 = .ok (.getfield 27, 3) := by decide +kernel
theorem dX2_append_31 : decode cX2_append 31 = .ok (.ireturn, 1) := by decide +kernel
theorem dX2_read_0 : decode cX2_read 0 = .ok (.aload_n 0, 1) := by decide +kernel
theorem dX2_read_1 : decode cX2_read 1 = .ok (.invokevirtual 35, 3) := by decide +kernel
theorem dX2_read_4 : decode cX2_read 4 = .ok (.aload_n 0, 1) := by decide +kernel
theorem dX2_read_5 : decode cX2_read 5 = .ok (.iconst 0, 1) := by decide +kernel
theorem dX2_read_6 : decode cX2_read 6 = .ok (.putfield 38, 3) := by decide +kernel
theorem dX2_read_9 : decode cX2_read 9 = .ok (.aload_n 0, 1) := by decide +kernel
theorem dX2_read_10 : decode cX2_read 10 = .ok (.iconst 0, 1) := by decide +kernel
theorem dX2_read_11 : decode cX2_read 11 = .ok (.putfield 41, 3) := by decide +kernel
theorem dX2_read_14 : decode cX2_read 14 = .ok (.iconst 1, 1) := by decide +kernel
theorem dX2_read_15 : decode cX2_read 15 = .ok (.istore_n 1, 1) := by decide +kernel
theorem dX2_read_16 : decode cX2_read 16 = .ok (.iconst 0, 1) := by decide +kernel
theorem dX2_read_17 : decode cX2_read 17 = .ok (.istore_n 2, 1) := by decide +kernel
theorem dX2_read_18 : decode cX2_read 18 = .ok (.iload_n 2, 1) := by decide +kernel
theorem dX2_read_19 : decode cX2_read 19 = .ok (.iconst 3, 1) := by decide +kernel
theorem dX2_read_20 : decode cX2_read 20 = .ok (.if_icmp .ge 55, 3) := by decide +kernel
theorem dX2_read_23 : decode cX2_read 23 = .ok (.iload_n 1, 1) := by decide +kernel
theorem dX2_read_24 : decode cX2_read 24 = .ok (.ifCond .eq 51, 3) := by decide +kernel
theorem dX2_read_27 : decode cX2_read 27 = .ok (.aload_n 0, 1) := by decide +kernel
theorem dX2_read_28 : decode cX2_read 28 = .ok (.getfield 24, 3) := by decide +kernel
theorem dX2_read_31 : decode cX2_read 31 = .ok (.iload_n 2, 1) := by decide +kernel
theorem dX2_read_32 : decode cX2_read 32 = .ok (.aload_n 0, 1) := by decide +kernel
theorem dX2_read_33 : decode cX2_read 33 = .ok (.getfield 41, 3) := by decide +kernel
theorem dX2_read_36 : decode cX2_read 36 = .ok (.iastore, 1) := by decide +kernel
theorem dX2_read_37 : decode cX2_read 37 = .ok (.aload_n 0, 1) := by decide +kernel
theorem dX2_read_38 : decode cX2_read 38 = .ok (.iload_n 2, 1) := by decide +kernel
theorem dX2_read_39 : decode cX2_read 39 = .ok (.invokevirtual 44, 3) := by decide +kernel
theorem dX2_read_42 : decode cX2_read 42 = .ok (.ifCond .eq 25, 3) := by decide +kernel
theorem dX2_read_45 : decode cX2_read 45 = .ok (.aload_n 0, 1) := by decide +kernel
theorem dX2_read_46 : decode cX2_read 46 = .ok (.iconst 0, 1) := by decide +kernel
theorem dX2_read_47 : decode cX2_read 47 = .ok (.iconst 0, 1) := by decide +kernel
theorem dX2_read_48 : decode cX2_read 48 = .ok (.invokevirtual 48, 3) := by decide +kernel
theorem dX2_read_51 : decode cX2_read 51 = .ok (.ifCond .eq 16, 3) := by decide +kernel
theorem dX2_read_54 : decode cX2_read 54 = .ok (.aload_n 0, 1) := by decide +kernel
theorem dX2_read_55 : decode cX2_read 55 = .ok (.bipush 14, 2) := by decide +kernel
theorem dX2_read_57 : decode cX2_read 57 = .ok (.invokevirtual 44, 3) := by decide +kernel
theorem dX2_read_60 : decode cX2_read 60 = .ok (.ifCond .eq 7, 3) := by decide +kernel
theorem dX2_read_63 : decode cX2_read 63 = .ok (.iconst 1, 1) := by decide +kernel
theorem dX2_read_64 : decode cX2_read 64 = .ok (.goto 4, 3) := by decide +kernel
theorem dX2_read_67 : decode cX2_read 67 = .ok (.iconst 0, 1) := by decide +kernel
theorem dX2_read_68 : decode cX2_read 68 = .ok (.istore_n 1, 1) := by decide +kernel
theorem dX2_read_69 : decode cX2_read 69 = .ok (.iinc 2 1, 3) := by decide +kernel
theorem dX2_read_72 : decode cX2_read 72 = .ok (.goto (-54), 3) := by decide +kernel
theorem dX2_read_75 : decode cX2_read 75 = .ok (.aload_n 0, 1) := by decide +kernel
theorem dX2_read_76 : decode cX2_read 76 = .ok (.getfield 24, 3) := by decide +kernel
theorem dX2_read_79 : decode cX2_read 79 = .ok (.iconst 3, 1) := by decide +kernel
theorem dX2_read_80 : decode cX2_read 80 = .ok (.aload_n 0, 1) := by decide +kernel
theorem dX2_read_81 : decode cX2_read 81 = .ok (.getfield 41, 3) := by decide +kernel
theorem dX2_read_84 : decode cX2_read 84 = .ok (.iastore, 1) := by decide +kernel
theorem dX2_read_85 : decode cX2_read 85 = .ok (.aload_n 0, 1) := by decide +kernel
theorem dX2_read_86 : decode cX2_read 86 = .ok (.iconst 0, 1) := by decide +kernel
theorem dX2_read_87 : decode cX2_read 87 = .ok (.putfield 27, 3) := by decide +kernel
theorem dX2_read_90 : decode cX2_read 90 = .ok (.iload_n 1, 1) := by decide +kernel
theorem dX2_read_91 : decode cX2_read 91 = .ok (.ifCond .eq 21, 3) := by decide +kernel
theorem dX2_read_94 : decode cX2_read 94 = .ok (.aload_n 0, 1) := by decide +kernel
theorem dX2_read_95 : decode cX2_read 95 = .ok (.getfield 15, 3) := by decide +kernel
theorem dX2_read_98 : decode cX2_read 98 = .ok (.aload_n 0, 1) := by decide +kernel
theorem dX2_read_99 : decode cX2_read 99 = .ok (.getfield 38, 3) := by decide +kernel
theorem dX2_read_102 : decode cX2_read 102 = .ok (.iaload, 1) := by decide +kernel
theorem dX2_read_103 : decode cX2_read 103 = .ok (.bipush 21, 2) := by decide +kernel
theorem dX2_read_105 : decode cX2_read 105 = .ok (.if_icmp .ne 7, 3) := by decide +kernel
theorem dX2_read_108 : decode cX2_read 108 = .ok (.iconst (-1), 1) := by decide +kernel
theorem dX2_read_109 : decode cX2_read 109 = .ok (.goto 12, 3) := by decide +kernel
theorem dX2_read_112 : decode cX2_read 112 = .ok (.aload_n 0, 1) := by decide +kernel
theorem dX2_read_113 : decode cX2_read 113 = .ok (.getfield 18, 3) := by decide +kernel
theorem dX2_read_116 : decode cX2_read 116 = .ok (.aload_n 0, 1) := by decide +kernel
theorem dX2_read_117 : decode cX2_read 117 = .ok (.getfield 38, 3) := by decide +kernel
theorem dX2_read_120 : decode cX2_read 120 = .ok (.iaload, 1) := by decide +kernel
theorem dX2_read_121 : decode cX2_read 121 = .ok (.ireturn, 1) := by decide +kernel
theorem dX2_split_0 : decode cX2_split 0 = .ok (.iconst 0, 1) := by decide +kernel
theorem dX2_split_1 : decode cX2_split 1 = .ok (.istore_n 1, 1) := by decide +kernel
theorem dX2_split_2 : decode cX2_split 2 = .ok (.iconst 0, 1) := by decide +kernel
theorem dX2_split_3 : decode cX2_split 3 = .ok (.istore_n 2, 1) := by decide +kernel
theorem dX2_split_4 : decode cX2_split 4 = .ok (.iload_n 2, 1) := by decide +kernel
theorem dX2_split_5 : decode cX2_split 5 = .ok (.aload_n 0, 1) := by decide +kernel
theorem dX2_split_6 : decode cX2_split 6 = .ok (.getfield 27, 3) := by decide +kernel
theorem dX2_split_9 : decode cX2_split 9 = .ok (.if_icmp .ge 82, 3) := by decide +kernel
theorem dX2_split_12 : decode cX2_split 12 = .ok (.aload_n 0, 1) := by decide +kernel
theorem dX2_split_13 : decode cX2_split 13 = .ok (.getfield 9, 3) := by decide +kernel
theorem dX2_split_16 : decode cX2_split 16 = .ok (.iload_n 2, 1) := by decide +kernel
theorem dX2_split_17 : decode cX2_split 17 = .ok (.iaload, 1) := by decide +kernel
theorem dX2_split_18 : decode cX2_split 18 = .ok (.invokestatic 52, 3) := by decide +kernel
theorem dX2_split_21 : decode cX2_split 21 = .ok (.istore_n 3, 1) := by decide +kernel
theorem dX2_split_22 : decode cX2_split 22 = .ok (.iload_n 2, 1) := by decide +kernel
theorem dX2_split_23 : decode cX2_split 23 = .ok (.ifCond .le 27, 3) := by decide +kernel
theorem dX2_split_26 : decode cX2_split 26 = .ok (.iload_n 3, 1) := by decide +kernel
theorem dX2_split_27 : decode cX2_split 27 = .ok (.iconst 3, 1) := by decide +kernel
theorem dX2_split_28 : decode cX2_split 28 = .ok (.if_icmp .eq 22, 3) := by decide +kernel
theorem dX2_split_31 : decode cX2_split 31 = .ok (.iload_n 3, 1) := by decide +kernel
theorem dX2_split_32 : decode cX2_split 32 = .ok (.aload_n 0, 1) := by decide +kernel
theorem dX2_split_33 : decode cX2_split 33 = .ok (.getfield 9, 3) := by decide +kernel
theorem dX2_split_36 : decode cX2_split 36 = .ok (.iload_n 2, 1) := by decide +kernel
theorem dX2_split_37 : decode cX2_split 37 = .ok (.iconst 1, 1) := by decide +kernel
theorem dX2_split_38 : decode cX2_split 38 = .ok (.isub, 1) := by decide +kernel
theorem dX2_split_39 : decode cX2_split 39 = .ok (.iaload, 1) := by decide +kernel
theorem dX2_split_40 : decode cX2_split 40 = .ok (.invokestatic 52, 3) := by decide +kernel
theorem dX2_split_43 : decode cX2_split 43 = .ok (.if_icmp .ne 7, 3) := by decide +kernel
theorem dX2_split_46 : decode cX2_split 46 = .ok (.iconst 1, 1) := by decide +kernel
theorem dX2_split_47 : decode cX2_split 47 = .ok (.goto 4, 3) := by decide +kernel
theorem dX2_split_50 : decode cX2_split 50 = .ok (.iconst 0, 1) := by decide +kernel
theorem dX2_split_51 : decode cX2_split 51 = .ok (.istore 4, 2) := by decide +kernel
theorem dX2_split_53 : decode cX2_split 53 = .ok (.iload_n 3, 1) := by decide +kernel
theorem dX2_split_54 : decode cX2_split 54 = .ok (.iconst 2, 1) := by decide +kernel
theorem dX2_split_55 : decode cX2_split 55 = .ok (.if_icmp .eq 30, 3) := by decide +kernel
theorem dX2_split_58 : decode cX2_split 58 = .ok (.iload 4, 2) := by decide +kernel
theorem dX2_split_60 : decode cX2_split 60 = .ok (.ifCond .ne 25, 3) := by decide +kernel
theorem dX2_split_63 : decode cX2_split 63 = .ok (.aload_n 0, 1) := by decide +kernel
theorem dX2_split_64 : decode cX2_split 64 = .ok (.getfield 15, 3) := by decide +kernel
theorem dX2_split_67 : decode cX2_split 67 = .ok (.iload_n 1, 1) := by decide +kernel
theorem dX2_split_68 : decode cX2_split 68 = .ok (.aload_n 0, 1) := by decide +kernel
theorem dX2_split_69 : decode cX2_split 69 = .ok (.iload_n 2, 1) := by decide +kernel
theorem dX2_split_70 : decode cX2_split 70 = .ok (.iload_n 3, 1) := by decide +kernel
theorem dX2_split_71 : decode cX2_split 71 = .ok (.invokevirtual 56, 3) := by decide +kernel
theorem dX2_split_74 : decode cX2_split 74 = .ok (.iastore, 1) := by decide +kernel
theorem dX2_split_75 : decode cX2_split 75 = .ok (.aload_n 0, 1) := by decide +kernel
theorem dX2_split_76 : decode cX2_split 76 = .ok (.getfield 18, 3) := by decide +kernel
theorem dX2_split_79 : decode cX2_split 79 = .ok (.iload_n 1, 1) := by decide +kernel
theorem dX2_split_80 : decode cX2_split 80 = .ok (.iload_n 2, 1) := by decide +kernel
theorem dX2_split_81 : decode cX2_split 81 = .ok (.iastore, 1) := by decide +kernel
theorem dX2_split_82 : decode cX2_split 82 = .ok (.iinc 1 1, 3) := by decide +kernel
theorem dX2_split_85 : decode cX2_split 85 = .ok (.iinc 2 1, 3) := by decide +kernel
theorem dX2_split_88 : decode cX2_split 88 = .ok (.goto (-84), 3) := by decide +kernel
theorem dX2_split_91 : decode cX2_split 91 = .ok (.aload_n 0, 1) := by decide +kernel
theorem dX2_split_92 : decode cX2_split 92 = .ok (.getfield 15, 3) := by decide +kernel
theorem dX2_split_95 : decode cX2_split 95 = .ok (.iload_n 1, 1) := by decide +kernel
theorem dX2_split_96 : decode cX2_split 96 = .ok (.bipush 21, 2) := by decide +kernel
theorem dX2_split_98 : decode cX2_split 98 = .ok (.iastore, 1) := by decide +kernel
theorem dX2_split_99 : decode cX2_split 99 = .ok (.aload_n 0, 1) := by decide +kernel
theorem dX2_split_100 : decode cX2_split 100 = .ok (.getfield 18, 3) := by decide +kernel
theorem dX2_split_103 : decode cX2_split 103 = .ok (.iload_n 1, 1) := by decide +kernel
theorem dX2_split_104 : decode cX2_split 104 = .ok (.aload_n 0, 1) := by decide +kernel
theorem dX2_split_105 : decode cX2_split 105 = .ok (.getfield 27, 3) := by decide +kernel
theorem dX2_split_108 : decode cX2_split 108 = .ok (.iastore, 1) := by decide +kernel
theorem dX2_split_109 : decode cX2_split 109 = .ok (.return_, 1) := by decide +kernel
theorem dX2_sortOf_0 : decode cX2_sortOf 0 = .ok (.iload_n 0, 1) := by decide +kernel
theorem dX2_sortOf_1 : decode cX2_sortOf 1 = .ok (.bipush 97, 2) := by decide +kernel
theorem dX2_sortOf_3 : decode cX2_sortOf 3 = .ok (.if_icmp .lt 11, 3) := by decide +kernel
theorem dX2_sortOf_6 : decode cX2_sortOf 6 = .ok (.iload_n 0, 1) := by decide +kernel
theorem dX2_sortOf_7 : decode cX2_sortOf 7 = .ok (.bipush 122, 2) := by decide +kernel
theorem dX2_sortOf_9 : decode cX2_sortOf 9 = .ok (.if_icmp .gt 5, 3) := by decide +kernel
theorem dX2_sortOf_12 : decode cX2_sortOf 12 = .ok (.iconst 0, 1) := by decide +kernel
theorem dX2_sortOf_13 : decode cX2_sortOf 13 = .ok (.ireturn, 1) := by decide +kernel
theorem dX2_sortOf_14 : decode cX2_sortOf 14 = .ok (.iload_n 0, 1) := by decide +kernel
theorem dX2_sortOf_15 : decode cX2_sortOf 15 = .ok (.bipush 48, 2) := by decide +kernel
theorem dX2_sortOf_17 : decode cX2_sortOf 17 = .ok (.if_icmp .lt 11, 3) := by decide +kernel
theorem dX2_sortOf_20 : decode cX2_sortOf 20 = .ok (.iload_n 0, 1) := by decide +kernel
theorem dX2_sortOf_21 : decode cX2_sortOf 21 = .ok (.bipush 57, 2) := by decide +kernel
theorem dX2_sortOf_23 : decode cX2_sortOf 23 = .ok (.if_icmp .gt 5, 3) := by decide +kernel
theorem dX2_sortOf_26 : decode cX2_sortOf 26 = .ok (.iconst 1, 1) := by decide +kernel
theorem dX2_sortOf_27 : decode cX2_sortOf 27 = .ok (.ireturn, 1) := by decide +kernel
theorem dX2_sortOf_28 : decode cX2_sortOf 28 = .ok (.iload_n 0, 1) := by decide +kernel
theorem dX2_sortOf_29 : decode cX2_sortOf 29 = .ok (.bipush 32, 2) := by decide +kernel
theorem dX2_sortOf_31 : decode cX2_sortOf 31 = .ok (.if_icmp .eq 9, 3) := by decide +kernel
theorem dX2_sortOf_34 : decode cX2_sortOf 34 = .ok (.iload_n 0, 1) := by decide +kernel
theorem dX2_sortOf_35 : decode cX2_sortOf 35 = .ok (.bipush 10, 2) := by decide +kernel
theorem dX2_sortOf_37 : decode cX2_sortOf 37 = .ok (.if_icmp .ne 7, 3) := by decide +kernel
theorem dX2_sortOf_40 : decode cX2_sortOf 40 = .ok (.iconst 2, 1) := by decide +kernel
theorem dX2_sortOf_41 : decode cX2_sortOf 41 = .ok (.goto 4, 3) := by decide +kernel
theorem dX2_sortOf_44 : decode cX2_sortOf 44 = .ok (.iconst 3, 1) := by decide +kernel
theorem dX2_sortOf_45 : decode cX2_sortOf 45 = .ok (.ireturn, 1) := by decide +kernel
theorem dX2_tokenAt_0 : decode cX2_tokenAt 0 = .ok (.iload_n 2, 1) := by decide +kernel
theorem dX2_tokenAt_1 : decode cX2_tokenAt 1 = .ok (.iconst 3, 1) := by decide +kernel
theorem dX2_tokenAt_2 : decode cX2_tokenAt 2 = .ok (.if_icmp .ne 30, 3) := by decide +kernel
theorem dX2_tokenAt_5 : decode cX2_tokenAt 5 = .ok (.ldc 60, 2) := by decide +kernel
theorem dX2_tokenAt_7 : decode cX2_tokenAt 7 = .ok (.aload_n 0, 1) := by decide +kernel
theorem dX2_tokenAt_8 : decode cX2_tokenAt 8 = .ok (.getfield 9, 3) := by decide +kernel
theorem dX2_tokenAt_11 : decode cX2_tokenAt 11 = .ok (.iload_n 1, 1) := by decide +kernel
theorem dX2_tokenAt_12 : decode cX2_tokenAt 12 = .ok (.iaload, 1) := by decide +kernel
theorem dX2_tokenAt_13 : decode cX2_tokenAt 13 = .ok (.i2c, 1) := by decide +kernel
theorem dX2_tokenAt_14 : decode cX2_tokenAt 14 = .ok (.invokevirtual 62, 3) := by decide +kernel
theorem dX2_tokenAt_17 : decode cX2_tokenAt 17 = .ok (.istore_n 3, 1) := by decide +kernel
theorem dX2_tokenAt_18 : decode cX2_tokenAt 18 = .ok (.iload_n 3, 1) := by decide +kernel
theorem dX2_tokenAt_19 : decode cX2_tokenAt 19 = .ok (.ifCond .ge 8, 3) := by decide +kernel
theorem dX2_tokenAt_22 : decode cX2_tokenAt 22 = .ok (.bipush 20, 2) := by decide +kernel
theorem dX2_tokenAt_24 : decode cX2_tokenAt 24 = .ok (.goto 7, 3) := by decide +kernel
theorem dX2_tokenAt_27 : decode cX2_tokenAt 27 = .ok (.bipush 12, 2) := by decide +kernel
theorem dX2_tokenAt_29 : decode cX2_tokenAt 29 = .ok (.iload_n 3, 1) := by decide +kernel
theorem dX2_tokenAt_30 : decode cX2_tokenAt 30 = .ok (.iadd, 1) := by decide +kernel
theorem dX2_tokenAt_31 : decode cX2_tokenAt 31 = .ok (.ireturn, 1) := by decide +kernel
theorem dX2_tokenAt_32 : decode cX2_tokenAt 32 = .ok (.iload_n 1, 1) := by decide +kernel
theorem dX2_tokenAt_33 : decode cX2_tokenAt 33 = .ok (.istore_n 3, 1) := by decide +kernel
theorem dX2_tokenAt_34 : decode cX2_tokenAt 34 = .ok (.iload_n 3, 1) := by decide +kernel
theorem dX2_tokenAt_35 : decode cX2_tokenAt 35 = .ok (.aload_n 0, 1) := by decide +kernel
theorem dX2_tokenAt_36 : decode cX2_tokenAt 36 = .ok (.getfield 27, 3) := by decide +kernel
theorem dX2_tokenAt_39 : decode cX2_tokenAt 39 = .ok (.if_icmp .ge 22, 3) := by decide +kernel
theorem dX2_tokenAt_42 : decode cX2_tokenAt 42 = .ok (.aload_n 0, 1) := by decide +kernel
theorem dX2_tokenAt_43 : decode cX2_tokenAt 43 = .ok (.getfield 9, 3) := by decide +kernel
theorem dX2_tokenAt_46 : decode cX2_tokenAt 46 = .ok (.iload_n 3, 1) := by decide +kernel
theorem dX2_tokenAt_47 : decode cX2_tokenAt 47 = .ok (.iaload, 1) := by decide +kernel
theorem dX2_tokenAt_48 : decode cX2_tokenAt 48 = .ok (.invokestatic 52, 3) := by decide +kernel
theorem dX2_tokenAt_51 : decode cX2_tokenAt 51 = .ok (.iload_n 2, 1) := by decide +kernel
theorem dX2_tokenAt_52 : decode cX2_tokenAt 52 = .ok (.if_icmp .ne 9, 3) := by decide +kernel
theorem dX2_tokenAt_55 : decode cX2_tokenAt 55 = .ok (.iinc 3 1, 3) := by decide +kernel
theorem dX2_tokenAt_58 : decode cX2_tokenAt 58 = .ok (.goto (-24), 3) := by decide +kernel
theorem dX2_tokenAt_61 : decode cX2_tokenAt 61 = .ok (.iload_n 2, 1) := by decide +kernel
theorem dX2_tokenAt_62 : decode cX2_tokenAt 62 = .ok (.iconst 1, 1) := by decide +kernel
theorem dX2_tokenAt_63 : decode cX2_tokenAt 63 = .ok (.if_icmp .ne 12, 3) := by decide +kernel
theorem dX2_tokenAt_66 : decode cX2_tokenAt 66 = .ok (.aload_n 0, 1) := by decide +kernel
theorem dX2_tokenAt_67 : decode cX2_tokenAt 67 = .ok (.iload_n 1, 1) := by decide +kernel
theorem dX2_tokenAt_68 : decode cX2_tokenAt 68 = .ok (.iload_n 3, 1) := by decide +kernel
theorem dX2_tokenAt_69 : decode cX2_tokenAt 69 = .ok (.invokevirtual 67, 3) := by decide +kernel
theorem dX2_tokenAt_72 : decode cX2_tokenAt 72 = .ok (.goto 9, 3) := by decide +kernel
theorem dX2_tokenAt_75 : decode cX2_tokenAt 75 = .ok (.aload_n 0, 1) := by decide +kernel
theorem dX2_tokenAt_76 : decode cX2_tokenAt 76 = .ok (.iload_n 1, 1) := by decide +kernel
theorem dX2_tokenAt_77 : decode cX2_tokenAt 77 = .ok (.iload_n 3, 1) := by decide +kernel
theorem dX2_tokenAt_78 : decode cX2_tokenAt 78 = .ok (.invokevirtual 70, 3) := by decide +kernel
theorem dX2_tokenAt_81 : decode cX2_tokenAt 81 = .ok (.ireturn, 1) := by decide +kernel
theorem dX2_numberOf_0 : decode cX2_numberOf 0 = .ok (.iload_n 2, 1) := by decide +kernel
theorem dX2_numberOf_1 : decode cX2_numberOf 1 = .ok (.iload_n 1, 1) := by decide +kernel
theorem dX2_numberOf_2 : decode cX2_numberOf 2 = .ok (.isub, 1) := by decide +kernel
theorem dX2_numberOf_3 : decode cX2_numberOf 3 = .ok (.iconst 4, 1) := by decide +kernel
theorem dX2_numberOf_4 : decode cX2_numberOf 4 = .ok (.if_icmp .le 6, 3) := by decide +kernel
theorem dX2_numberOf_7 : decode cX2_numberOf 7 = .ok (.bipush 20, 2) := by decide +kernel
theorem dX2_numberOf_9 : decode cX2_numberOf 9 = .ok (.ireturn, 1) := by decide +kernel
theorem dX2_numberOf_10 : decode cX2_numberOf 10 = .ok (.iconst 0, 1) := by decide +kernel
theorem dX2_numberOf_11 : decode cX2_numberOf 11 = .ok (.istore_n 3, 1) := by decide +kernel
theorem dX2_numberOf_12 : decode cX2_numberOf 12 = .ok (.iload_n 1, 1) := by decide +kernel
theorem dX2_numberOf_13 : decode cX2_numberOf 13 = .ok (.istore 4, 2) := by decide +kernel
theorem dX2_numberOf_15 : decode cX2_numberOf 15 = .ok (.iload 4, 2) := by decide +kernel
theorem dX2_numberOf_17 : decode cX2_numberOf 17 = .ok (.iload_n 2, 1) := by decide +kernel
theorem dX2_numberOf_18 : decode cX2_numberOf 18 = .ok (.if_icmp .ge 25, 3) := by decide +kernel
theorem dX2_numberOf_21 : decode cX2_numberOf 21 = .ok (.bipush 10, 2) := by decide +kernel
theorem dX2_numberOf_23 : decode cX2_numberOf 23 = .ok (.iload_n 3, 1) := by decide +kernel
theorem dX2_numberOf_24 : decode cX2_numberOf 24 = .ok (.imul, 1) := by decide +kernel
theorem dX2_numberOf_25 : decode cX2_numberOf 25 = .ok (.aload_n 0, 1) := by decide +kernel
theorem dX2_numberOf_26 : decode cX2_numberOf 26 = .ok (.getfield 9, 3) := by decide +kernel
theorem dX2_numberOf_29 : decode cX2_numberOf 29 = .ok (.iload 4, 2) := by decide +kernel
theorem dX2_numberOf_31 : decode cX2_numberOf 31 = .ok (.iaload, 1) := by decide +kernel
theorem dX2_numberOf_32 : decode cX2_numberOf 32 = .ok (.iadd, 1) := by decide +kernel
theorem dX2_numberOf_33 : decode cX2_numberOf 33 = .ok (.bipush 48, 2) := by decide +kernel
theorem dX2_numberOf_35 : decode cX2_numberOf 35 = .ok (.isub, 1) := by decide +kernel
theorem dX2_numberOf_36 : decode cX2_numberOf 36 = .ok (.istore_n 3, 1) := by decide +kernel
theorem dX2_numberOf_37 : decode cX2_numberOf 37 = .ok (.iinc 4 1, 3) := by decide +kernel
theorem dX2_numberOf_40 : decode cX2_numberOf 40 = .ok (.goto (-25), 3) := by decide +kernel
theorem dX2_numberOf_43 : decode cX2_numberOf 43 = .ok (.bipush 100, 2) := by decide +kernel
theorem dX2_numberOf_45 : decode cX2_numberOf 45 = .ok (.iload_n 3, 1) := by decide +kernel
theorem dX2_numberOf_46 : decode cX2_numberOf 46 = .ok (.iadd, 1) := by decide +kernel
theorem dX2_numberOf_47 : decode cX2_numberOf 47 = .ok (.ireturn, 1) := by decide +kernel
theorem dX2_wordOf_0 : decode cX2_wordOf 0 = .ok (.iconst 0, 1) := by decide +kernel
theorem dX2_wordOf_1 : decode cX2_wordOf 1 = .ok (.istore_n 3, 1) := by decide +kernel
theorem dX2_wordOf_2 : decode cX2_wordOf 2 = .ok (.iload_n 3, 1) := by decide +kernel
theorem dX2_wordOf_3 : decode cX2_wordOf 3 = .ok (.bipush 12, 2) := by decide +kernel
theorem dX2_wordOf_5 : decode cX2_wordOf 5 = .ok (.if_icmp .ge 96, 3) := by decide +kernel
theorem dX2_wordOf_8 : decode cX2_wordOf 8 = .ok (.iload_n 2, 1) := by decide +kernel
theorem dX2_wordOf_9 : decode cX2_wordOf 9 = .ok (.iload_n 1, 1) := by decide +kernel
theorem dX2_wordOf_10 : decode cX2_wordOf 10 = .ok (.isub, 1) := by decide +kernel
theorem dX2_wordOf_11 : decode cX2_wordOf 11 = .ok (.bipush 6, 2) := by decide +kernel
theorem dX2_wordOf_13 : decode cX2_wordOf 13 = .ok (.if_icmp .gt 88, 3) := by decide +kernel
theorem dX2_wordOf_16 : decode cX2_wordOf 16 = .ok (.iconst 1, 1) := by decide +kernel
theorem dX2_wordOf_17 : decode cX2_wordOf 17 = .ok (.istore 4, 2) := by decide +kernel
theorem dX2_wordOf_19 : decode cX2_wordOf 19 = .ok (.iconst 0, 1) := by decide +kernel
theorem dX2_wordOf_20 : decode cX2_wordOf 20 = .ok (.istore 5, 2) := by decide +kernel
theorem dX2_wordOf_22 : decode cX2_wordOf 22 = .ok (.iload 5, 2) := by decide +kernel
theorem dX2_wordOf_24 : decode cX2_wordOf 24 = .ok (.bipush 6, 2) := by decide +kernel
theorem dX2_wordOf_26 : decode cX2_wordOf 26 = .ok (.if_icmp .ge 62, 3) := by decide +kernel
theorem dX2_wordOf_29 : decode cX2_wordOf 29 = .ok (.iload_n 1, 1) := by decide +kernel
theorem dX2_wordOf_30 : decode cX2_wordOf 30 = .ok (.iload 5, 2) := by decide +kernel
theorem dX2_wordOf_32 : decode cX2_wordOf 32 = .ok (.iadd, 1) := by decide +kernel
theorem dX2_wordOf_33 : decode cX2_wordOf 33 = .ok (.iload_n 2, 1) := by decide +kernel
theorem dX2_wordOf_34 : decode cX2_wordOf 34 = .ok (.if_icmp .ge 15, 3) := by decide +kernel
theorem dX2_wordOf_37 : decode cX2_wordOf 37 = .ok (.aload_n 0, 1) := by decide +kernel
theorem dX2_wordOf_38 : decode cX2_wordOf 38 = .ok (.getfield 9, 3) := by decide +kernel
theorem dX2_wordOf_41 : decode cX2_wordOf 41 = .ok (.iload_n 1, 1) := by decide +kernel
theorem dX2_wordOf_42 : decode cX2_wordOf 42 = .ok (.iload 5, 2) := by decide +kernel
theorem dX2_wordOf_44 : decode cX2_wordOf 44 = .ok (.iadd, 1) := by decide +kernel
theorem dX2_wordOf_45 : decode cX2_wordOf 45 = .ok (.iaload, 1) := by decide +kernel
theorem dX2_wordOf_46 : decode cX2_wordOf 46 = .ok (.goto 5, 3) := by decide +kernel
theorem dX2_wordOf_49 : decode cX2_wordOf 49 = .ok (.bipush 32, 2) := by decide +kernel
theorem dX2_wordOf_51 : decode cX2_wordOf 51 = .ok (.istore 6, 2) := by decide +kernel
theorem dX2_wordOf_53 : decode cX2_wordOf 53 = .ok (.iload 4, 2) := by decide +kernel
theorem dX2_wordOf_55 : decode cX2_wordOf 55 = .ok (.ifCond .eq 24, 3) := by decide +kernel
theorem dX2_wordOf_58 : decode cX2_wordOf 58 = .ok (.iload 6, 2) := by decide +kernel
theorem dX2_wordOf_60 : decode cX2_wordOf 60 = .ok (.ldc 73, 2) := by decide +kernel
theorem dX2_wordOf_62 : decode cX2_wordOf 62 = .ok (.iload_n 3, 1) := by decide +kernel
theorem dX2_wordOf_63 : decode cX2_wordOf 63 = .ok (.bipush 6, 2) := by decide +kernel
theorem dX2_wordOf_65 : decode cX2_wordOf 65 = .ok (.imul, 1) := by decide +kernel
theorem dX2_wordOf_66 : decode cX2_wordOf 66 = .ok (.iload 5, 2) := by decide +kernel
theorem dX2_wordOf_68 : decode cX2_wordOf 68 = .ok (.iadd, 1) := by decide +kernel
theorem dX2_wordOf_69 : decode cX2_wordOf 69 = .ok (.invokevirtual 75, 3) := by decide +kernel
theorem dX2_wordOf_72 : decode cX2_wordOf 72 = .ok (.if_icmp .ne 7, 3) := by decide +kernel
theorem dX2_wordOf_75 : decode cX2_wordOf 75 = .ok (.iconst 1, 1) := by decide +kernel
theorem dX2_wordOf_76 : decode cX2_wordOf 76 = .ok (.goto 4, 3) := by decide +kernel
theorem dX2_wordOf_79 : decode cX2_wordOf 79 = .ok (.iconst 0, 1) := by decide +kernel
theorem dX2_wordOf_80 : decode cX2_wordOf 80 = .ok (.istore 4, 2) := by decide +kernel
theorem dX2_wordOf_82 : decode cX2_wordOf 82 = .ok (.iinc 5 1, 3) := by decide +kernel
theorem dX2_wordOf_85 : decode cX2_wordOf 85 = .ok (.goto (-63), 3) := by decide +kernel
theorem dX2_wordOf_88 : decode cX2_wordOf 88 = .ok (.iload 4, 2) := by decide +kernel
theorem dX2_wordOf_90 : decode cX2_wordOf 90 = .ok (.ifCond .eq 5, 3) := by decide +kernel
theorem dX2_wordOf_93 : decode cX2_wordOf 93 = .ok (.iload_n 3, 1) := by decide +kernel
theorem dX2_wordOf_94 : decode cX2_wordOf 94 = .ok (.ireturn, 1) := by decide +kernel
theorem dX2_wordOf_95 : decode cX2_wordOf 95 = .ok (.iinc 3 1, 3) := by decide +kernel
theorem dX2_wordOf_98 : decode cX2_wordOf 98 = .ok (.goto (-96), 3) := by decide +kernel
theorem dX2_wordOf_101 : decode cX2_wordOf 101 = .ok (.bipush 20, 2) := by decide +kernel
theorem dX2_wordOf_103 : decode cX2_wordOf 103 = .ok (.ireturn, 1) := by decide +kernel
theorem dX2_pass_0 : decode cX2_pass 0 = .ok (.aload_n 0, 1) := by decide +kernel
theorem dX2_pass_1 : decode cX2_pass 1 = .ok (.getfield 15, 3) := by decide +kernel
theorem dX2_pass_4 : decode cX2_pass 4 = .ok (.aload_n 0, 1) := by decide +kernel
theorem dX2_pass_5 : decode cX2_pass 5 = .ok (.getfield 38, 3) := by decide +kernel
theorem dX2_pass_8 : decode cX2_pass 8 = .ok (.iaload, 1) := by decide +kernel
theorem dX2_pass_9 : decode cX2_pass 9 = .ok (.iload_n 1, 1) := by decide +kernel
theorem dX2_pass_10 : decode cX2_pass 10 = .ok (.if_icmp .eq 5, 3) := by decide +kernel
theorem dX2_pass_13 : decode cX2_pass 13 = .ok (.iconst 0, 1) := by decide +kernel
theorem dX2_pass_14 : decode cX2_pass 14 = .ok (.ireturn, 1) := by decide +kernel
theorem dX2_pass_15 : decode cX2_pass 15 = .ok (.aload_n 0, 1) := by decide +kernel
theorem dX2_pass_16 : decode cX2_pass 16 = .ok (.dup, 1) := by decide +kernel
theorem dX2_pass_17 : decode cX2_pass 17 = .ok (.getfield 38, 3) := by decide +kernel
theorem dX2_pass_20 : decode cX2_pass 20 = .ok (.iconst 1, 1) := by decide +kernel
theorem dX2_pass_21 : decode cX2_pass 21 = .ok (.iadd, 1) := by decide +kernel
theorem dX2_pass_22 : decode cX2_pass 22 = .ok (.putfield 38, 3) := by decide +kernel
theorem dX2_pass_25 : decode cX2_pass 25 = .ok (.iconst 1, 1) := by decide +kernel
theorem dX2_pass_26 : decode cX2_pass 26 = .ok (.ireturn, 1) := by decide +kernel
theorem dX2_write_0 : decode cX2_write 0 = .ok (.aload_n 0, 1) := by decide +kernel
theorem dX2_write_1 : decode cX2_write 1 = .ok (.getfield 41, 3) := by decide +kernel
theorem dX2_write_4 : decode cX2_write 4 = .ok (.sipush 160, 3) := by decide +kernel
theorem dX2_write_7 : decode cX2_write 7 = .ok (.if_icmp .ge 23, 3) := by decide +kernel
theorem dX2_write_10 : decode cX2_write 10 = .ok (.aload_n 0, 1) := by decide +kernel
theorem dX2_write_11 : decode cX2_write 11 = .ok (.getfield 21, 3) := by decide +kernel
theorem dX2_write_14 : decode cX2_write 14 = .ok (.aload_n 0, 1) := by decide +kernel
theorem dX2_write_15 : decode cX2_write 15 = .ok (.getfield 41, 3) := by decide +kernel
theorem dX2_write_18 : decode cX2_write 18 = .ok (.iload_n 1, 1) := by decide +kernel
theorem dX2_write_19 : decode cX2_write 19 = .ok (.iastore, 1) := by decide +kernel
theorem dX2_write_20 : decode cX2_write 20 = .ok (.aload_n 0, 1) := by decide +kernel
theorem dX2_write_21 : decode cX2_write 21 = .ok (.dup, 1) := by decide +kernel
theorem dX2_write_22 : decode cX2_write 22 = .ok (.getfield 41, 3) := by decide +kernel
theorem dX2_write_25 : decode cX2_write 25 = .ok (.iconst 1, 1) := by decide +kernel
theorem dX2_write_26 : decode cX2_write 26 = .ok (.iadd, 1) := by decide +kernel
theorem dX2_write_27 : decode cX2_write 27 = .ok (.putfield 41, 3) := by decide +kernel
theorem dX2_write_30 : decode cX2_write 30 = .ok (.return_, 1) := by decide +kernel
theorem dX2_levelOf_0 : decode cX2_levelOf 0 = .ok (.iload_n 0, 1) := by decide +kernel
theorem dX2_levelOf_1 : decode cX2_levelOf 1 = .ok (.tableswitch 93 3 19 #[83, 85, 93, 93, 93, 93, 93, 93, 93, 93, 93, 93, 89, 89, 91, 87, 87], 83) := by decide +kernel
theorem dX2_levelOf_84 : decode cX2_levelOf 84 = .ok (.iconst 0, 1) := by decide +kernel
theorem dX2_levelOf_85 : decode cX2_levelOf 85 = .ok (.ireturn, 1) := by decide +kernel
theorem dX2_levelOf_86 : decode cX2_levelOf 86 = .ok (.iconst 1, 1) := by decide +kernel
theorem dX2_levelOf_87 : decode cX2_levelOf 87 = .ok (.ireturn, 1) := by decide +kernel
theorem dX2_levelOf_88 : decode cX2_levelOf 88 = .ok (.iconst 2, 1) := by decide +kernel
theorem dX2_levelOf_89 : decode cX2_levelOf 89 = .ok (.ireturn, 1) := by decide +kernel
theorem dX2_levelOf_90 : decode cX2_levelOf 90 = .ok (.iconst 3, 1) := by decide +kernel
theorem dX2_levelOf_91 : decode cX2_levelOf 91 = .ok (.ireturn, 1) := by decide +kernel
theorem dX2_levelOf_92 : decode cX2_levelOf 92 = .ok (.iconst 4, 1) := by decide +kernel
theorem dX2_levelOf_93 : decode cX2_levelOf 93 = .ok (.ireturn, 1) := by decide +kernel
theorem dX2_levelOf_94 : decode cX2_levelOf 94 = .ok (.iconst (-1), 1) := by decide +kernel
theorem dX2_levelOf_95 : decode cX2_levelOf 95 = .ok (.ireturn, 1) := by decide +kernel
theorem dX2_expression_0 : decode cX2_expression 0 = .ok (.iload_n 1, 1) := by decide +kernel
theorem dX2_expression_1 : decode cX2_expression 1 = .ok (.iconst 2, 1) := by decide +kernel
theorem dX2_expression_2 : decode cX2_expression 2 = .ok (.if_icmp .ne 24, 3) := by decide +kernel
theorem dX2_expression_5 : decode cX2_expression 5 = .ok (.aload_n 0, 1) := by decide +kernel
theorem dX2_expression_6 : decode cX2_expression 6 = .ok (.getfield 15, 3) := by decide +kernel
theorem dX2_expression_9 : decode cX2_expression 9 = .ok (.aload_n 0, 1) := by decide +kernel
theorem dX2_expression_10 : decode cX2_expression 10 = .ok (.getfield 38, 3) := by decide +kernel
theorem dX2_expression_13 : decode cX2_expression 13 = .ok (.iaload, 1) := by decide +kernel
theorem dX2_expression_14 : decode cX2_expression 14 = .ok (.iconst 5, 1) := by decide +kernel
theorem dX2_expression_15 : decode cX2_expression 15 = .ok (.if_icmp .ne 11, 3) := by decide +kernel
theorem dX2_expression_18 : decode cX2_expression 18 = .ok (.aload_n 0, 1) := by decide +kernel
theorem dX2_expression_19 : decode cX2_expression 19 = .ok (.iconst 5, 1) := by decide +kernel
theorem dX2_expression_20 : decode cX2_expression 20 = .ok (.iconst 1, 1) := by decide +kernel
theorem dX2_expression_21 : decode cX2_expression 21 = .ok (.iload_n 2, 1) := by decide +kernel
theorem dX2_expression_22 : decode cX2_expression 22 = .ok (.invokevirtual 79, 3) := by decide +kernel
theorem dX2_expression_25 : decode cX2_expression 25 = .ok (.ireturn, 1) := by decide +kernel
theorem dX2_expression_26 : decode cX2_expression 26 = .ok (.aload_n 0, 1) := by decide +kernel
theorem dX2_expression_27 : decode cX2_expression 27 = .ok (.iload_n 1, 1) := by decide +kernel
theorem dX2_expression_28 : decode cX2_expression 28 = .ok (.iload_n 2, 1) := by decide +kernel
theorem dX2_expression_29 : decode cX2_expression 29 = .ok (.invokevirtual 83, 3) := by decide +kernel
theorem dX2_expression_32 : decode cX2_expression 32 = .ok (.ifCond .ne 5, 3) := by decide +kernel
theorem dX2_expression_35 : decode cX2_expression 35 = .ok (.iconst 0, 1) := by decide +kernel
theorem dX2_expression_36 : decode cX2_expression 36 = .ok (.ireturn, 1) := by decide +kernel
theorem dX2_expression_37 : decode cX2_expression 37 = .ok (.iload_n 1, 1) := by decide +kernel
theorem dX2_expression_38 : decode cX2_expression 38 = .ok (.iconst 2, 1) := by decide +kernel
theorem dX2_expression_39 : decode cX2_expression 39 = .ok (.if_icmp .ne 7, 3) := by decide +kernel
theorem dX2_expression_42 : decode cX2_expression 42 = .ok (.iconst 1, 1) := by decide +kernel
theorem dX2_expression_43 : decode cX2_expression 43 = .ok (.goto 6, 3) := by decide +kernel
theorem dX2_expression_46 : decode cX2_expression 46 = .ok (.sipush 160, 3) := by decide +kernel
theorem dX2_expression_49 : decode cX2_expression 49 = .ok (.istore_n 3, 1) := by decide +kernel
theorem dX2_expression_50 : decode cX2_expression 50 = .ok (.iconst 0, 1) := by decide +kernel
theorem dX2_expression_51 : decode cX2_expression 51 = .ok (.istore 4, 2) := by decide +kernel
theorem dX2_expression_53 : decode cX2_expression 53 = .ok (.iload 4, 2) := by decide +kernel
theorem dX2_expression_55 : decode cX2_expression 55 = .ok (.iload_n 3, 1) := by decide +kernel
theorem dX2_expression_56 : decode cX2_expression 56 = .ok (.if_icmp .ge 63, 3) := by decide +kernel
theorem dX2_expression_59 : decode cX2_expression 59 = .ok (.aload_n 0, 1) := by decide +kernel
theorem dX2_expression_60 : decode cX2_expression 60 = .ok (.getfield 15, 3) := by decide +kernel
theorem dX2_expression_63 : decode cX2_expression 63 = .ok (.aload_n 0, 1) := by decide +kernel
theorem dX2_expression_64 : decode cX2_expression 64 = .ok (.getfield 38, 3) := by decide +kernel
theorem dX2_expression_67 : decode cX2_expression 67 = .ok (.iaload, 1) := by decide +kernel
theorem dX2_expression_68 : decode cX2_expression 68 = .ok (.invokestatic 86, 3) := by decide +kernel
theorem dX2_expression_71 : decode cX2_expression 71 = .ok (.iload_n 1, 1) := by decide +kernel
theorem dX2_expression_72 : decode cX2_expression 72 = .ok (.if_icmp .ne 47, 3) := by decide +kernel
theorem dX2_expression_75 : decode cX2_expression 75 = .ok (.aload_n 0, 1) := by decide +kernel
theorem dX2_expression_76 : decode cX2_expression 76 = .ok (.getfield 15, 3) := by decide +kernel
theorem dX2_expression_79 : decode cX2_expression 79 = .ok (.aload_n 0, 1) := by decide +kernel
theorem dX2_expression_80 : decode cX2_expression 80 = .ok (.getfield 38, 3) := by decide +kernel
theorem dX2_expression_83 : decode cX2_expression 83 = .ok (.iaload, 1) := by decide +kernel
theorem dX2_expression_84 : decode cX2_expression 84 = .ok (.istore 5, 2) := by decide +kernel
theorem dX2_expression_86 : decode cX2_expression 86 = .ok (.aload_n 0, 1) := by decide +kernel
theorem dX2_expression_87 : decode cX2_expression 87 = .ok (.dup, 1) := by decide +kernel
theorem dX2_expression_88 : decode cX2_expression 88 = .ok (.getfield 38, 3) := by decide +kernel
theorem dX2_expression_91 : decode cX2_expression 91 = .ok (.iconst 1, 1) := by decide +kernel
theorem dX2_expression_92 : decode cX2_expression 92 = .ok (.iadd, 1) := by decide +kernel
theorem dX2_expression_93 : decode cX2_expression 93 = .ok (.putfield 38, 3) := by decide +kernel
theorem dX2_expression_96 : decode cX2_expression 96 = .ok (.aload_n 0, 1) := by decide +kernel
theorem dX2_expression_97 : decode cX2_expression 97 = .ok (.iload_n 1, 1) := by decide +kernel
theorem dX2_expression_98 : decode cX2_expression 98 = .ok (.iload_n 2, 1) := by decide +kernel
theorem dX2_expression_99 : decode cX2_expression 99 = .ok (.invokevirtual 83, 3) := by decide +kernel
theorem dX2_expression_102 : decode cX2_expression 102 = .ok (.ifCond .ne 5, 3) := by decide +kernel
theorem dX2_expression_105 : decode cX2_expression 105 = .ok (.iconst 0, 1) := by decide +kernel
theorem dX2_expression_106 : decode cX2_expression 106 = .ok (.ireturn, 1) := by decide +kernel
theorem dX2_expression_107 : decode cX2_expression 107 = .ok (.aload_n 0, 1) := by decide +kernel
theorem dX2_expression_108 : decode cX2_expression 108 = .ok (.iload 5, 2) := by decide +kernel
theorem dX2_expression_110 : decode cX2_expression 110 = .ok (.invokevirtual 89, 3) := by decide +kernel
theorem dX2_expression_113 : decode cX2_expression 113 = .ok (.iinc 4 1, 3) := by decide +kernel
theorem dX2_expression_116 : decode cX2_expression 116 = .ok (.goto (-63), 3) := by decide +kernel
theorem dX2_expression_119 : decode cX2_expression 119 = .ok (.iconst 1, 1) := by decide +kernel
theorem dX2_expression_120 : decode cX2_expression 120 = .ok (.ireturn, 1) := by decide +kernel
theorem dX2_operand_0 : decode cX2_operand 0 = .ok (.iload_n 1, 1) := by decide +kernel
theorem dX2_operand_1 : decode cX2_operand 1 = .ok (.iconst 4, 1) := by decide +kernel
theorem dX2_operand_2 : decode cX2_operand 2 = .ok (.if_icmp .lt 11, 3) := by decide +kernel
theorem dX2_operand_5 : decode cX2_operand 5 = .ok (.aload_n 0, 1) := by decide +kernel
theorem dX2_operand_6 : decode cX2_operand 6 = .ok (.iload_n 2, 1) := by decide +kernel
theorem dX2_operand_7 : decode cX2_operand 7 = .ok (.invokevirtual 93, 3) := by decide +kernel
theorem dX2_operand_10 : decode cX2_operand 10 = .ok (.goto 11, 3) := by decide +kernel
theorem dX2_operand_13 : decode cX2_operand 13 = .ok (.aload_n 0, 1) := by decide +kernel
theorem dX2_operand_14 : decode cX2_operand 14 = .ok (.iload_n 1, 1) := by decide +kernel
theorem dX2_operand_15 : decode cX2_operand 15 = .ok (.iconst 1, 1) := by decide +kernel
theorem dX2_operand_16 : decode cX2_operand 16 = .ok (.iadd, 1) := by decide +kernel
theorem dX2_operand_17 : decode cX2_operand 17 = .ok (.iload_n 2, 1) := by decide +kernel
theorem dX2_operand_18 : decode cX2_operand 18 = .ok (.invokevirtual 48, 3) := by decide +kernel
theorem dX2_operand_21 : decode cX2_operand 21 = .ok (.ireturn, 1) := by decide +kernel
theorem dX2_one_0 : decode cX2_one 0 = .ok (.aload_n 0, 1) := by decide +kernel
theorem dX2_one_1 : decode cX2_one 1 = .ok (.getfield 15, 3) := by decide +kernel
theorem dX2_one_4 : decode cX2_one 4 = .ok (.aload_n 0, 1) := by decide +kernel
theorem dX2_one_5 : decode cX2_one 5 = .ok (.getfield 38, 3) := by decide +kernel
theorem dX2_one_8 : decode cX2_one 8 = .ok (.iaload, 1) := by decide +kernel
theorem dX2_one_9 : decode cX2_one 9 = .ok (.istore_n 2, 1) := by decide +kernel
theorem dX2_one_10 : decode cX2_one 10 = .ok (.iload_n 2, 1) := by decide +kernel
theorem dX2_one_11 : decode cX2_one 11 = .ok (.bipush 100, 2) := by decide +kernel
theorem dX2_one_13 : decode cX2_one 13 = .ok (.if_icmp .ge 15, 3) := by decide +kernel
theorem dX2_one_16 : decode cX2_one 16 = .ok (.iload_n 2, 1) := by decide +kernel
theorem dX2_one_17 : decode cX2_one 17 = .ok (.bipush 6, 2) := by decide +kernel
theorem dX2_one_19 : decode cX2_one 19 = .ok (.if_icmp .lt 26, 3) := by decide +kernel
theorem dX2_one_22 : decode cX2_one 22 = .ok (.iload_n 2, 1) := by decide +kernel
theorem dX2_one_23 : decode cX2_one 23 = .ok (.bipush 12, 2) := by decide +kernel
theorem dX2_one_25 : decode cX2_one 25 = .ok (.if_icmp .ge 20, 3) := by decide +kernel
theorem dX2_one_28 : decode cX2_one 28 = .ok (.aload_n 0, 1) := by decide +kernel
theorem dX2_one_29 : decode cX2_one 29 = .ok (.dup, 1) := by decide +kernel
theorem dX2_one_30 : decode cX2_one 30 = .ok (.getfield 38, 3) := by decide +kernel
theorem dX2_one_33 : decode cX2_one 33 = .ok (.iconst 1, 1) := by decide +kernel
theorem dX2_one_34 : decode cX2_one 34 = .ok (.iadd, 1) := by decide +kernel
theorem dX2_one_35 : decode cX2_one 35 = .ok (.putfield 38, 3) := by decide +kernel
theorem dX2_one_38 : decode cX2_one 38 = .ok (.aload_n 0, 1) := by decide +kernel
theorem dX2_one_39 : decode cX2_one 39 = .ok (.iload_n 2, 1) := by decide +kernel
theorem dX2_one_40 : decode cX2_one 40 = .ok (.invokevirtual 89, 3) := by decide +kernel
theorem dX2_one_43 : decode cX2_one 43 = .ok (.iconst 1, 1) := by decide +kernel
theorem dX2_one_44 : decode cX2_one 44 = .ok (.ireturn, 1) := by decide +kernel
theorem dX2_one_45 : decode cX2_one 45 = .ok (.iload_n 2, 1) := by decide +kernel
theorem dX2_one_46 : decode cX2_one 46 = .ok (.bipush 16, 2) := by decide +kernel
theorem dX2_one_48 : decode cX2_one 48 = .ok (.if_icmp .ne 12, 3) := by decide +kernel
theorem dX2_one_51 : decode cX2_one 51 = .ok (.aload_n 0, 1) := by decide +kernel
theorem dX2_one_52 : decode cX2_one 52 = .ok (.bipush 22, 2) := by decide +kernel
theorem dX2_one_54 : decode cX2_one 54 = .ok (.iconst 4, 1) := by decide +kernel
theorem dX2_one_55 : decode cX2_one 55 = .ok (.iload_n 1, 1) := by decide +kernel
theorem dX2_one_56 : decode cX2_one 56 = .ok (.invokevirtual 79, 3) := by decide +kernel
theorem dX2_one_59 : decode cX2_one 59 = .ok (.ireturn, 1) := by decide +kernel
theorem dX2_one_60 : decode cX2_one 60 = .ok (.iload_n 2, 1) := by decide +kernel
theorem dX2_one_61 : decode cX2_one 61 = .ok (.bipush 12, 2) := by decide +kernel
theorem dX2_one_63 : decode cX2_one 63 = .ok (.if_icmp .ne 8, 3) := by decide +kernel
theorem dX2_one_66 : decode cX2_one 66 = .ok (.iload_n 1, 1) := by decide +kernel
theorem dX2_one_67 : decode cX2_one 67 = .ok (.iconst 5, 1) := by decide +kernel
theorem dX2_one_68 : decode cX2_one 68 = .ok (.if_icmp .lt 5, 3) := by decide +kernel
theorem dX2_one_71 : decode cX2_one 71 = .ok (.iconst 0, 1) := by decide +kernel
theorem dX2_one_72 : decode cX2_one 72 = .ok (.ireturn, 1) := by decide +kernel
theorem dX2_one_73 : decode cX2_one 73 = .ok (.aload_n 0, 1) := by decide +kernel
theorem dX2_one_74 : decode cX2_one 74 = .ok (.dup, 1) := by decide +kernel
theorem dX2_one_75 : decode cX2_one 75 = .ok (.getfield 38, 3) := by decide +kernel
theorem dX2_one_78 : decode cX2_one 78 = .ok (.iconst 1, 1) := by decide +kernel
theorem dX2_one_79 : decode cX2_one 79 = .ok (.iadd, 1) := by decide +kernel
theorem dX2_one_80 : decode cX2_one 80 = .ok (.putfield 38, 3) := by decide +kernel
theorem dX2_one_83 : decode cX2_one 83 = .ok (.aload_n 0, 1) := by decide +kernel
theorem dX2_one_84 : decode cX2_one 84 = .ok (.iconst 0, 1) := by decide +kernel
theorem dX2_one_85 : decode cX2_one 85 = .ok (.iload_n 1, 1) := by decide +kernel
theorem dX2_one_86 : decode cX2_one 86 = .ok (.iconst 1, 1) := by decide +kernel
theorem dX2_one_87 : decode cX2_one 87 = .ok (.iadd, 1) := by decide +kernel
theorem dX2_one_88 : decode cX2_one 88 = .ok (.invokevirtual 48, 3) := by decide +kernel
theorem dX2_one_91 : decode cX2_one 91 = .ok (.ifCond .eq 16, 3) := by decide +kernel
theorem dX2_one_94 : decode cX2_one 94 = .ok (.aload_n 0, 1) := by decide +kernel
theorem dX2_one_95 : decode cX2_one 95 = .ok (.bipush 13, 2) := by decide +kernel
theorem dX2_one_97 : decode cX2_one 97 = .ok (.invokevirtual 44, 3) := by decide +kernel
theorem dX2_one_100 : decode cX2_one 100 = .ok (.ifCond .eq 7, 3) := by decide +kernel
theorem dX2_one_103 : decode cX2_one 103 = .ok (.iconst 1, 1) := by decide +kernel
theorem dX2_one_104 : decode cX2_one 104 = .ok (.goto 4, 3) := by decide +kernel
theorem dX2_one_107 : decode cX2_one 107 = .ok (.iconst 0, 1) := by decide +kernel
theorem dX2_one_108 : decode cX2_one 108 = .ok (.ireturn, 1) := by decide +kernel
theorem dX2_prefixed_0 : decode cX2_prefixed 0 = .ok (.iload_n 3, 1) := by decide +kernel
theorem dX2_prefixed_1 : decode cX2_prefixed 1 = .ok (.iconst 5, 1) := by decide +kernel
theorem dX2_prefixed_2 : decode cX2_prefixed 2 = .ok (.if_icmp .lt 5, 3) := by decide +kernel
theorem dX2_prefixed_5 : decode cX2_prefixed 5 = .ok (.iconst 0, 1) := by decide +kernel
theorem dX2_prefixed_6 : decode cX2_prefixed 6 = .ok (.ireturn, 1) := by decide +kernel
theorem dX2_prefixed_7 : decode cX2_prefixed 7 = .ok (.aload_n 0, 1) := by decide +kernel
theorem dX2_prefixed_8 : decode cX2_prefixed 8 = .ok (.dup, 1) := by decide +kernel
theorem dX2_prefixed_9 : decode cX2_prefixed 9 = .ok (.getfield 38, 3) := by decide +kernel
theorem dX2_prefixed_12 : decode cX2_prefixed 12 = .ok (.iconst 1, 1) := by decide +kernel
theorem dX2_prefixed_13 : decode cX2_prefixed 13 = .ok (.iadd, 1) := by decide +kernel
theorem dX2_prefixed_14 : decode cX2_prefixed 14 = .ok (.putfield 38, 3) := by decide +kernel
theorem dX2_prefixed_17 : decode cX2_prefixed 17 = .ok (.aload_n 0, 1) := by decide +kernel
theorem dX2_prefixed_18 : decode cX2_prefixed 18 = .ok (.iload_n 2, 1) := by decide +kernel
theorem dX2_prefixed_19 : decode cX2_prefixed 19 = .ok (.iload_n 3, 1) := by decide +kernel
theorem dX2_prefixed_20 : decode cX2_prefixed 20 = .ok (.iconst 1, 1) := by decide +kernel
theorem dX2_prefixed_21 : decode cX2_prefixed 21 = .ok (.iadd, 1) := by decide +kernel
theorem dX2_prefixed_22 : decode cX2_prefixed 22 = .ok (.invokevirtual 83, 3) := by decide +kernel
theorem dX2_prefixed_25 : decode cX2_prefixed 25 = .ok (.ifCond .ne 5, 3) := by decide +kernel
theorem dX2_prefixed_28 : decode cX2_prefixed 28 = .ok (.iconst 0, 1) := by decide +kernel
theorem dX2_prefixed_29 : decode cX2_prefixed 29 = .ok (.ireturn, 1) := by decide +kernel
theorem dX2_prefixed_30 : decode cX2_prefixed 30 = .ok (.aload_n 0, 1) := by decide +kernel
theorem dX2_prefixed_31 : decode cX2_prefixed 31 = .ok (.iload_n 1, 1) := by decide +kernel
theorem dX2_prefixed_32 : decode cX2_prefixed 32 = .ok (.invokevirtual 89, 3) := by decide +kernel
theorem dX2_prefixed_35 : decode cX2_prefixed 35 = .ok (.iconst 1, 1) := by decide +kernel
theorem dX2_prefixed_36 : decode cX2_prefixed 36 = .ok (.ireturn, 1) := by decide +kernel
theorem dX3_init_0 : decode cX3_init 0 = .ok (.aload_n 0, 1) := by decide +kernel
theorem dX3_init_1 : decode cX3_init 1 = .ok (.invokespecial 3, 3) := by decide +kernel
theorem dX3_init_4 : decode cX3_init 4 = .ok (.aload_n 0, 1) := by decide +kernel
theorem dX3_init_5 : decode cX3_init 5 = .ok (.iconst 4, 1) := by decide +kernel
theorem dX3_init_6 : decode cX3_init 6 = .ok (.newarray .int, 2) := by decide +kernel
theorem dX3_init_8 : decode cX3_init 8 = .ok (.dup, 1) := by decide +kernel
theorem dX3_init_9 : decode cX3_init 9 = .ok (.iconst 0, 1) := by decide +kernel
theorem dX3_init_10 : decode cX3_init 10 = .ok (.iconst (-1), 1) := by decide +kernel
theorem dX3_init_11 : decode cX3_init 11 = .ok (.iastore, 1) := by decide +kernel
theorem dX3_init_12 : decode cX3_init 12 = .ok (.dup, 1) := by decide +kernel
theorem dX3_init_13 : decode cX3_init 13 = .ok (.iconst 1, 1) := by decide +kernel
theorem dX3_init_14 : decode cX3_init 14 = .ok (.iconst (-1), 1) := by decide +kernel
theorem dX3_init_15 : decode cX3_init 15 = .ok (.iastore, 1) := by decide +kernel
theorem dX3_init_16 : decode cX3_init 16 = .ok (.dup, 1) := by decide +kernel
theorem dX3_init_17 : decode cX3_init 17 = .ok (.iconst 2, 1) := by decide +kernel
theorem dX3_init_18 : decode cX3_init 18 = .ok (.iconst (-1), 1) := by decide +kernel
theorem dX3_init_19 : decode cX3_init 19 = .ok (.iastore, 1) := by decide +kernel
theorem dX3_init_20 : decode cX3_init 20 = .ok (.dup, 1) := by decide +kernel
theorem dX3_init_21 : decode cX3_init 21 = .ok (.iconst 3, 1) := by decide +kernel
theorem dX3_init_22 : decode cX3_init 22 = .ok (.iconst (-1), 1) := by decide +kernel
theorem dX3_init_23 : decode cX3_init 23 = .ok (.iastore, 1) := by decide +kernel
theorem dX3_init_24 : decode cX3_init 24 = .ok (.putfield 9, 3) := by decide +kernel
theorem dX3_init_27 : decode cX3_init 27 = .ok (.aload_n 0, 1) := by decide +kernel
theorem dX3_init_28 : decode cX3_init 28 = .ok (.iconst 4, 1) := by decide +kernel
theorem dX3_init_29 : decode cX3_init 29 = .ok (.newarray .int, 2) := by decide +kernel
theorem dX3_init_31 : decode cX3_init 31 = .ok (.putfield 15, 3) := by decide +kernel
theorem dX3_init_34 : decode cX3_init 34 = .ok (.aload_n 0, 1) := by decide +kernel
theorem dX3_init_35 : decode cX3_init 35 = .ok (.iconst 4, 1) := by decide +kernel
theorem dX3_init_36 : decode cX3_init 36 = .ok (.bipush 40, 2) := by decide +kernel
theorem dX3_init_38 : decode cX3_init 38 = .ok (.multianewarray 18 2, 4) := by decide +kernel
theorem dX3_init_42 : decode cX3_init 42 = .ok (.putfield 20, 3) := by decide +kernel
theorem dX3_init_45 : decode cX3_init 45 = .ok (.return_, 1) := by decide +kernel
theorem dX3_isOne_0 : decode cX3_isOne 0 = .ok (.iload_n 0, 1) := by decide +kernel
theorem dX3_isOne_1 : decode cX3_isOne 1 = .ok (.ifCond .lt 12, 3) := by decide +kernel
theorem dX3_isOne_4 : decode cX3_isOne 4 = .ok (.iload_n 0, 1) := by decide +kernel
theorem dX3_isOne_5 : decode cX3_isOne 5 = .ok (.iconst 4, 1) := by decide +kernel
theorem dX3_isOne_6 : decode cX3_isOne 6 = .ok (.if_icmp .ge 7, 3) := by decide +kernel
theorem dX3_isOne_9 : decode cX3_isOne 9 = .ok (.iconst 1, 1) := by decide +kernel
theorem dX3_isOne_10 : decode cX3_isOne 10 = .ok (.goto 4, 3) := by decide +kernel
theorem dX3_isOne_13 : decode cX3_isOne 13 = .ok (.iconst 0, 1) := by decide +kernel
theorem dX3_isOne_14 : decode cX3_isOne 14 = .ok (.ireturn, 1) := by decide +kernel
theorem dX3_isMissing_0 : decode cX3_isMissing 0 = .ok (.aload_n 0, 1) := by decide +kernel
theorem dX3_isMissing_1 : decode cX3_isMissing 1 = .ok (.getfield 9, 3) := by decide +kernel
theorem dX3_isMissing_4 : decode cX3_isMissing 4 = .ok (.iload_n 1, 1) := by decide +kernel
theorem dX3_isMissing_5 : decode cX3_isMissing 5 = .ok (.iaload, 1) := by decide +kernel
theorem dX3_isMissing_6 : decode cX3_isMissing 6 = .ok (.iconst (-1), 1) := by decide +kernel
theorem dX3_isMissing_7 : decode cX3_isMissing 7 = .ok (.if_icmp .ne 7, 3) := by decide +kernel
theorem dX3_isMissing_10 : decode cX3_isMissing 10 = .ok (.iconst 1, 1) := by decide +kernel
theorem dX3_isMissing_11 : decode cX3_isMissing 11 = .ok (.goto 4, 3) := by decide +kernel
theorem dX3_isMissing_14 : decode cX3_isMissing 14 = .ok (.iconst 0, 1) := by decide +kernel
theorem dX3_isMissing_15 : decode cX3_isMissing 15 = .ok (.ireturn, 1) := by decide +kernel
theorem dX3_become_0 : decode cX3_become 0 = .ok (.aload_n 0, 1) := by decide +kernel
theorem dX3_become_1 : decode cX3_become 1 = .ok (.getfield 9, 3) := by decide +kernel
theorem dX3_become_4 : decode cX3_become 4 = .ok (.iload_n 1, 1) := by decide +kernel
theorem dX3_become_5 : decode cX3_become 5 = .ok (.iload_n 2, 1) := by decide +kernel
theorem dX3_become_6 : decode cX3_become 6 = .ok (.iastore, 1) := by decide +kernel
theorem dX3_become_7 : decode cX3_become 7 = .ok (.aload_n 0, 1) := by decide +kernel
theorem dX3_become_8 : decode cX3_become 8 = .ok (.getfield 15, 3) := by decide +kernel
theorem dX3_become_11 : decode cX3_become 11 = .ok (.iload_n 1, 1) := by decide +kernel
theorem dX3_become_12 : decode cX3_become 12 = .ok (.iload_n 3, 1) := by decide +kernel
theorem dX3_become_13 : decode cX3_become 13 = .ok (.iastore, 1) := by decide +kernel
theorem dX3_become_14 : decode cX3_become 14 = .ok (.aload_n 0, 1) := by decide +kernel
theorem dX3_become_15 : decode cX3_become 15 = .ok (.getfield 20, 3) := by decide +kernel
theorem dX3_become_18 : decode cX3_become 18 = .ok (.iload_n 1, 1) := by decide +kernel
theorem dX3_become_19 : decode cX3_become 19 = .ok (.aaload, 1) := by decide +kernel
theorem dX3_become_20 : decode cX3_become 20 = .ok (.iconst 0, 1) := by decide +kernel
theorem dX3_become_21 : decode cX3_become 21 = .ok (.invokestatic 23, 3) := by decide +kernel
theorem dX3_become_24 : decode cX3_become 24 = .ok (.return_, 1) := by decide +kernel
theorem dX3_put_0 : decode cX3_put 0 = .ok (.aload_n 0, 1) := by decide +kernel
theorem dX3_put_1 : decode cX3_put 1 = .ok (.getfield 9, 3) := by decide +kernel
theorem dX3_put_4 : decode cX3_put 4 = .ok (.iload_n 1, 1) := by decide +kernel
theorem dX3_put_5 : decode cX3_put 5 = .ok (.iaload, 1) := by decide +kernel
theorem dX3_put_6 : decode cX3_put 6 = .ok (.lookupswitch 52 #[(0, 26), (1, 39)], 26) := by decide +kernel
theorem dX3_put_32 : decode cX3_put 32 = .ok (.aload_n 0, 1) := by decide +kernel
theorem dX3_put_33 : decode cX3_put 33 = .ok (.getfield 20, 3) := by decide +kernel
theorem dX3_put_36 : decode cX3_put 36 = .ok (.iload_n 1, 1) := by decide +kernel
theorem dX3_put_37 : decode cX3_put 37 = .ok (.aaload, 1) := by decide +kernel
theorem dX3_put_38 : decode cX3_put 38 = .ok (.iload_n 2, 1) := by decide +kernel
theorem dX3_put_39 : decode cX3_put 39 = .ok (.iload_n 3, 1) := by decide +kernel
theorem dX3_put_40 : decode cX3_put 40 = .ok (.i2b, 1) := by decide +kernel
theorem dX3_put_41 : decode cX3_put 41 = .ok (.iastore, 1) := by decide +kernel
theorem dX3_put_42 : decode cX3_put 42 = .ok (.goto 25, 3) := by decide +kernel
theorem dX3_put_45 : decode cX3_put 45 = .ok (.aload_n 0, 1) := by decide +kernel
theorem dX3_put_46 : decode cX3_put 46 = .ok (.getfield 20, 3) := by decide +kernel
theorem dX3_put_49 : decode cX3_put 49 = .ok (.iload_n 1, 1) := by decide +kernel
theorem dX3_put_50 : decode cX3_put 50 = .ok (.aaload, 1) := by decide +kernel
theorem dX3_put_51 : decode cX3_put 51 = .ok (.iload_n 2, 1) := by decide +kernel
theorem dX3_put_52 : decode cX3_put 52 = .ok (.iload_n 3, 1) := by decide +kernel
theorem dX3_put_53 : decode cX3_put 53 = .ok (.i2s, 1) := by decide +kernel
theorem dX3_put_54 : decode cX3_put 54 = .ok (.iastore, 1) := by decide +kernel
theorem dX3_put_55 : decode cX3_put 55 = .ok (.goto 12, 3) := by decide +kernel
theorem dX3_put_58 : decode cX3_put 58 = .ok (.aload_n 0, 1) := by decide +kernel
theorem dX3_put_59 : decode cX3_put 59 = .ok (.getfield 20, 3) := by decide +kernel
theorem dX3_put_62 : decode cX3_put 62 = .ok (.iload_n 1, 1) := by decide +kernel
theorem dX3_put_63 : decode cX3_put 63 = .ok (.aaload, 1) := by decide +kernel
theorem dX3_put_64 : decode cX3_put 64 = .ok (.iload_n 2, 1) := by decide +kernel
theorem dX3_put_65 : decode cX3_put 65 = .ok (.iload_n 3, 1) := by decide +kernel
theorem dX3_put_66 : decode cX3_put 66 = .ok (.iastore, 1) := by decide +kernel
theorem dX3_put_67 : decode cX3_put 67 = .ok (.return_, 1) := by decide +kernel
theorem dX4_init_0 : decode cX4_init 0 = .ok (.aload_n 0, 1) := by decide +kernel
theorem dX4_init_1 : decode cX4_init 1 = .ok (.invokespecial 3, 3) := by decide +kernel
theorem dX4_init_4 : decode cX4_init 4 = .ok (.return_, 1) := by decide +kernel
theorem dX4_widen_0 : decode cX4_widen 0 = .ok (.aload_n 0, 1) := by decide +kernel
theorem dX4_widen_1 : decode cX4_widen 1 = .ok (.iconst 0, 1) := by decide +kernel
theorem dX4_widen_2 : decode cX4_widen 2 = .ok (.putfield 9, 3) := by decide +kernel
theorem dX4_widen_5 : decode cX4_widen 5 = .ok (.aload_n 0, 1) := by decide +kernel
theorem dX4_widen_6 : decode cX4_widen 6 = .ok (.bipush 99, 2) := by decide +kernel
theorem dX4_widen_8 : decode cX4_widen 8 = .ok (.putfield 15, 3) := by decide +kernel
theorem dX4_widen_11 : decode cX4_widen 11 = .ok (.return_, 1) := by decide +kernel
theorem dX4_size_0 : decode cX4_size 0 = .ok (.iconst 0, 1) := by decide +kernel
theorem dX4_size_1 : decode cX4_size 1 = .ok (.aload_n 0, 1) := by decide +kernel
theorem dX4_size_2 : decode cX4_size 2 = .ok (.getfield 15, 3) := by decide +kernel
theorem dX4_size_5 : decode cX4_size 5 = .ok (.aload_n 0, 1) := by decide +kernel
theorem dX4_size_6 : decode cX4_size 6 = .ok (.getfield 9, 3) := by decide +kernel
theorem dX4_size_9 : decode cX4_size 9 = .ok (.isub, 1) := by decide +kernel
theorem dX4_size_10 : decode cX4_size 10 = .ok (.iconst 1, 1) := by decide +kernel
theorem dX4_size_11 : decode cX4_size 11 = .ok (.iadd, 1) := by decide +kernel
theorem dX4_size_12 : decode cX4_size 12 = .ok (.invokestatic 18, 3) := by decide +kernel
theorem dX4_size_15 : decode cX4_size 15 = .ok (.ireturn, 1) := by decide +kernel
theorem dX4_narrow_0 : decode cX4_narrow 0 = .ok (.aload_n 0, 1) := by decide +kernel
theorem dX4_narrow_1 : decode cX4_narrow 1 = .ok (.aload_n 0, 1) := by decide +kernel
theorem dX4_narrow_2 : decode cX4_narrow 2 = .ok (.getfield 9, 3) := by decide +kernel
theorem dX4_narrow_5 : decode cX4_narrow 5 = .ok (.aload_n 1, 1) := by decide +kernel
theorem dX4_narrow_6 : decode cX4_narrow 6 = .ok (.iload_n 2, 1) := by decide +kernel
theorem dX4_narrow_7 : decode cX4_narrow 7 = .ok (.iload_n 3, 1) := by decide +kernel
theorem dX4_narrow_8 : decode cX4_narrow 8 = .ok (.iconst 1, 1) := by decide +kernel
theorem dX4_narrow_9 : decode cX4_narrow 9 = .ok (.iadd, 1) := by decide +kernel
theorem dX4_narrow_10 : decode cX4_narrow 10 = .ok (.invokevirtual 24, 3) := by decide +kernel
theorem dX4_narrow_13 : decode cX4_narrow 13 = .ok (.iconst 1, 1) := by decide +kernel
theorem dX4_narrow_14 : decode cX4_narrow 14 = .ok (.iadd, 1) := by decide +kernel
theorem dX4_narrow_15 : decode cX4_narrow 15 = .ok (.invokestatic 18, 3) := by decide +kernel
theorem dX4_narrow_18 : decode cX4_narrow 18 = .ok (.putfield 9, 3) := by decide +kernel
theorem dX4_narrow_21 : decode cX4_narrow 21 = .ok (.aload_n 0, 1) := by decide +kernel
theorem dX4_narrow_22 : decode cX4_narrow 22 = .ok (.aload_n 0, 1) := by decide +kernel
theorem dX4_narrow_23 : decode cX4_narrow 23 = .ok (.getfield 15, 3) := by decide +kernel
theorem dX4_narrow_26 : decode cX4_narrow 26 = .ok (.aload_n 1, 1) := by decide +kernel
theorem dX4_narrow_27 : decode cX4_narrow 27 = .ok (.iload_n 2, 1) := by decide +kernel
theorem dX4_narrow_28 : decode cX4_narrow 28 = .ok (.iload_n 3, 1) := by decide +kernel
theorem dX4_narrow_29 : decode cX4_narrow 29 = .ok (.invokevirtual 24, 3) := by decide +kernel
theorem dX4_narrow_32 : decode cX4_narrow 32 = .ok (.invokestatic 29, 3) := by decide +kernel
theorem dX4_narrow_35 : decode cX4_narrow 35 = .ok (.putfield 15, 3) := by decide +kernel
theorem dX4_narrow_38 : decode cX4_narrow 38 = .ok (.return_, 1) := by decide +kernel
theorem dX4_meets_0 : decode cX4_meets 0 = .ok (.aload_n 0, 1) := by decide +kernel
theorem dX4_meets_1 : decode cX4_meets 1 = .ok (.getfield 9, 3) := by decide +kernel
theorem dX4_meets_4 : decode cX4_meets 4 = .ok (.iload_n 1, 1) := by decide +kernel
theorem dX4_meets_5 : decode cX4_meets 5 = .ok (.invokestatic 18, 3) := by decide +kernel
theorem dX4_meets_8 : decode cX4_meets 8 = .ok (.aload_n 0, 1) := by decide +kernel
theorem dX4_meets_9 : decode cX4_meets 9 = .ok (.getfield 15, 3) := by decide +kernel
theorem dX4_meets_12 : decode cX4_meets 12 = .ok (.iload_n 2, 1) := by decide +kernel
theorem dX4_meets_13 : decode cX4_meets 13 = .ok (.invokestatic 29, 3) := by decide +kernel
theorem dX4_meets_16 : decode cX4_meets 16 = .ok (.if_icmp .gt 7, 3) := by decide +kernel
theorem dX4_meets_19 : decode cX4_meets 19 = .ok (.iconst 1, 1) := by decide +kernel
theorem dX4_meets_20 : decode cX4_meets 20 = .ok (.goto 4, 3) := by decide +kernel
theorem dX4_meets_23 : decode cX4_meets 23 = .ok (.iconst 0, 1) := by decide +kernel
theorem dX4_meets_24 : decode cX4_meets 24 = .ok (.ireturn, 1) := by decide +kernel
theorem dX4_mostAlike_0 : decode cX4_mostAlike 0 = .ok (.aload_n 1, 1) := by decide +kernel
theorem dX4_mostAlike_1 : decode cX4_mostAlike 1 = .ok (.getfield 32, 3) := by decide +kernel
theorem dX4_mostAlike_4 : decode cX4_mostAlike 4 = .ok (.iload_n 2, 1) := by decide +kernel
theorem dX4_mostAlike_5 : decode cX4_mostAlike 5 = .ok (.bipush 20, 2) := by decide +kernel
theorem dX4_mostAlike_7 : decode cX4_mostAlike 7 = .ok (.idiv, 1) := by decide +kernel
theorem dX4_mostAlike_8 : decode cX4_mostAlike 8 = .ok (.iaload, 1) := by decide +kernel
theorem dX4_mostAlike_9 : decode cX4_mostAlike 9 = .ok (.istore_n 3, 1) := by decide +kernel
theorem dX4_mostAlike_10 : decode cX4_mostAlike 10 = .ok (.aload_n 1, 1) := by decide +kernel
theorem dX4_mostAlike_11 : decode cX4_mostAlike 11 = .ok (.iload_n 2, 1) := by decide +kernel
theorem dX4_mostAlike_12 : decode cX4_mostAlike 12 = .ok (.invokevirtual 36, 3) := by decide +kernel
theorem dX4_mostAlike_15 : decode cX4_mostAlike 15 = .ok (.istore 4, 2) := by decide +kernel
theorem dX4_mostAlike_17 : decode cX4_mostAlike 17 = .ok (.iconst 0, 1) := by decide +kernel
theorem dX4_mostAlike_18 : decode cX4_mostAlike 18 = .ok (.istore 5, 2) := by decide +kernel
theorem dX4_mostAlike_20 : decode cX4_mostAlike 20 = .ok (.aload_n 0, 1) := by decide +kernel
theorem dX4_mostAlike_21 : decode cX4_mostAlike 21 = .ok (.getfield 9, 3) := by decide +kernel
theorem dX4_mostAlike_24 : decode cX4_mostAlike 24 = .ok (.iconst 1, 1) := by decide +kernel
theorem dX4_mostAlike_25 : decode cX4_mostAlike 25 = .ok (.isub, 1) := by decide +kernel
theorem dX4_mostAlike_26 : decode cX4_mostAlike 26 = .ok (.istore 6, 2) := by decide +kernel
theorem dX4_mostAlike_28 : decode cX4_mostAlike 28 = .ok (.iconst 2, 1) := by decide +kernel
theorem dX4_mostAlike_29 : decode cX4_mostAlike 29 = .ok (.istore 7, 2) := by decide +kernel
theorem dX4_mostAlike_31 : decode cX4_mostAlike 31 = .ok (.iload 7, 2) := by decide +kernel
theorem dX4_mostAlike_33 : decode cX4_mostAlike 33 = .ok (.bipush (-2), 2) := by decide +kernel
theorem dX4_mostAlike_35 : decode cX4_mostAlike 35 = .ok (.if_icmp .lt 47, 3) := by decide +kernel
theorem dX4_mostAlike_38 : decode cX4_mostAlike 38 = .ok (.aload_n 0, 1) := by decide +kernel
theorem dX4_mostAlike_39 : decode cX4_mostAlike 39 = .ok (.getfield 15, 3) := by decide +kernel
theorem dX4_mostAlike_42 : decode cX4_mostAlike 42 = .ok (.iload_n 3, 1) := by decide +kernel
theorem dX4_mostAlike_43 : decode cX4_mostAlike 43 = .ok (.iload 4, 2) := by decide +kernel
theorem dX4_mostAlike_45 : decode cX4_mostAlike 45 = .ok (.iload 7, 2) := by decide +kernel
theorem dX4_mostAlike_47 : decode cX4_mostAlike 47 = .ok (.invokestatic 40, 3) := by decide +kernel
theorem dX4_mostAlike_50 : decode cX4_mostAlike 50 = .ok (.invokestatic 29, 3) := by decide +kernel
theorem dX4_mostAlike_53 : decode cX4_mostAlike 53 = .ok (.istore 8, 2) := by decide +kernel
theorem dX4_mostAlike_55 : decode cX4_mostAlike 55 = .ok (.iload 5, 2) := by decide +kernel
theorem dX4_mostAlike_57 : decode cX4_mostAlike 57 = .ok (.iload 8, 2) := by decide +kernel
theorem dX4_mostAlike_59 : decode cX4_mostAlike 59 = .ok (.iload 6, 2) := by decide +kernel
theorem dX4_mostAlike_61 : decode cX4_mostAlike 61 = .ok (.isub, 1) := by decide +kernel
theorem dX4_mostAlike_62 : decode cX4_mostAlike 62 = .ok (.invokestatic 18, 3) := by decide +kernel
theorem dX4_mostAlike_65 : decode cX4_mostAlike 65 = .ok (.istore 5, 2) := by decide +kernel
theorem dX4_mostAlike_67 : decode cX4_mostAlike 67 = .ok (.iload 6, 2) := by decide +kernel
theorem dX4_mostAlike_69 : decode cX4_mostAlike 69 = .ok (.iload 8, 2) := by decide +kernel
theorem dX4_mostAlike_71 : decode cX4_mostAlike 71 = .ok (.invokestatic 18, 3) := by decide +kernel
theorem dX4_mostAlike_74 : decode cX4_mostAlike 74 = .ok (.istore 6, 2) := by decide +kernel
theorem dX4_mostAlike_76 : decode cX4_mostAlike 76 = .ok (.iinc 7 (-1), 3) := by decide +kernel
theorem dX4_mostAlike_79 : decode cX4_mostAlike 79 = .ok (.goto (-48), 3) := by decide +kernel
theorem dX4_mostAlike_82 : decode cX4_mostAlike 82 = .ok (.iload 5, 2) := by decide +kernel
theorem dX4_mostAlike_84 : decode cX4_mostAlike 84 = .ok (.ireturn, 1) := by decide +kernel
theorem dX5_init_0 : decode cX5_init 0 = .ok (.aload_n 0, 1) := by decide +kernel
theorem dX5_init_1 : decode cX5_init 1 = .ok (.invokespecial 3, 3) := by decide +kernel
theorem dX5_init_4 : decode cX5_init 4 = .ok (.aload_n 0, 1) := by decide +kernel
theorem dX5_init_5 : decode cX5_init 5 = .ok (.bipush 40, 2) := by decide +kernel
theorem dX5_init_7 : decode cX5_init 7 = .ok (.putfield 9, 3) := by decide +kernel
theorem dX5_init_10 : decode cX5_init 10 = .ok (.aload_n 0, 1) := by decide +kernel
theorem dX5_init_11 : decode cX5_init 11 = .ok (.bipush 40, 2) := by decide +kernel
theorem dX5_init_13 : decode cX5_init 13 = .ok (.putfield 15, 3) := by decide +kernel
theorem dX5_init_16 : decode cX5_init 16 = .ok (.aload_n 0, 1) := by decide +kernel
theorem dX5_init_17 : decode cX5_init 17 = .ok (.bipush 9, 2) := by decide +kernel
theorem dX5_init_19 : decode cX5_init 19 = .ok (.putfield 18, 3) := by decide +kernel
theorem dX5_init_22 : decode cX5_init 22 = .ok (.aload_n 0, 1) := by decide +kernel
theorem dX5_init_23 : decode cX5_init 23 = .ok (.bipush 100, 2) := by decide +kernel
theorem dX5_init_25 : decode cX5_init 25 = .ok (.newarray .int, 2) := by decide +kernel
theorem dX5_init_27 : decode cX5_init 27 = .ok (.putfield 21, 3) := by decide +kernel
theorem dX5_init_30 : decode cX5_init 30 = .ok (.aload_n 0, 1) := by decide +kernel
theorem dX5_init_31 : decode cX5_init 31 = .ok (.iconst 5, 1) := by decide +kernel
theorem dX5_init_32 : decode cX5_init 32 = .ok (.newarray .int, 2) := by decide +kernel
theorem dX5_init_34 : decode cX5_init 34 = .ok (.putfield 25, 3) := by decide +kernel
theorem dX5_init_37 : decode cX5_init 37 = .ok (.aload_n 0, 1) := by decide +kernel
theorem dX5_init_38 : decode cX5_init 38 = .ok (.iconst 5, 1) := by decide +kernel
theorem dX5_init_39 : decode cX5_init 39 = .ok (.newarray .int, 2) := by decide +kernel
theorem dX5_init_41 : decode cX5_init 41 = .ok (.putfield 28, 3) := by decide +kernel
theorem dX5_init_44 : decode cX5_init 44 = .ok (.aload_n 0, 1) := by decide +kernel
theorem dX5_init_45 : decode cX5_init 45 = .ok (.iconst 5, 1) := by decide +kernel
theorem dX5_init_46 : decode cX5_init 46 = .ok (.newarray .int, 2) := by decide +kernel
theorem dX5_init_48 : decode cX5_init 48 = .ok (.putfield 31, 3) := by decide +kernel
theorem dX5_init_51 : decode cX5_init 51 = .ok (.aload_n 0, 1) := by decide +kernel
theorem dX5_init_52 : decode cX5_init 52 = .ok (.iconst 5, 1) := by decide +kernel
theorem dX5_init_53 : decode cX5_init 53 = .ok (.newarray .int, 2) := by decide +kernel
theorem dX5_init_55 : decode cX5_init 55 = .ok (.putfield 34, 3) := by decide +kernel
theorem dX5_init_58 : decode cX5_init 58 = .ok (.return_, 1) := by decide +kernel
theorem dX5_takeOver_0 : decode cX5_takeOver 0 = .ok (.aload_n 0, 1) := by decide +kernel
theorem dX5_takeOver_1 : decode cX5_takeOver 1 = .ok (.aload_n 1, 1) := by decide +kernel
theorem dX5_takeOver_2 : decode cX5_takeOver 2 = .ok (.getfield 9, 3) := by decide +kernel
theorem dX5_takeOver_5 : decode cX5_takeOver 5 = .ok (.putfield 9, 3) := by decide +kernel
theorem dX5_takeOver_8 : decode cX5_takeOver 8 = .ok (.aload_n 0, 1) := by decide +kernel
theorem dX5_takeOver_9 : decode cX5_takeOver 9 = .ok (.aload_n 1, 1) := by decide +kernel
theorem dX5_takeOver_10 : decode cX5_takeOver 10 = .ok (.getfield 15, 3) := by decide +kernel
theorem dX5_takeOver_13 : decode cX5_takeOver 13 = .ok (.putfield 15, 3) := by decide +kernel
theorem dX5_takeOver_16 : decode cX5_takeOver 16 = .ok (.aload_n 0, 1) := by decide +kernel
theorem dX5_takeOver_17 : decode cX5_takeOver 17 = .ok (.aload_n 1, 1) := by decide +kernel
theorem dX5_takeOver_18 : decode cX5_takeOver 18 = .ok (.getfield 18, 3) := by decide +kernel
theorem dX5_takeOver_21 : decode cX5_takeOver 21 = .ok (.putfield 18, 3) := by decide +kernel
theorem dX5_takeOver_24 : decode cX5_takeOver 24 = .ok (.aload_n 0, 1) := by decide +kernel
theorem dX5_takeOver_25 : decode cX5_takeOver 25 = .ok (.aload_n 1, 1) := by decide +kernel
theorem dX5_takeOver_26 : decode cX5_takeOver 26 = .ok (.getfield 37, 3) := by decide +kernel
theorem dX5_takeOver_29 : decode cX5_takeOver 29 = .ok (.putfield 37, 3) := by decide +kernel
theorem dX5_takeOver_32 : decode cX5_takeOver 32 = .ok (.aload_n 0, 1) := by decide +kernel
theorem dX5_takeOver_33 : decode cX5_takeOver 33 = .ok (.aload_n 1, 1) := by decide +kernel
theorem dX5_takeOver_34 : decode cX5_takeOver 34 = .ok (.getfield 40, 3) := by decide +kernel
theorem dX5_takeOver_37 : decode cX5_takeOver 37 = .ok (.putfield 40, 3) := by decide +kernel
theorem dX5_takeOver_40 : decode cX5_takeOver 40 = .ok (.aload_n 1, 1) := by decide +kernel
theorem dX5_takeOver_41 : decode cX5_takeOver 41 = .ok (.getfield 21, 3) := by decide +kernel
theorem dX5_takeOver_44 : decode cX5_takeOver 44 = .ok (.iconst 0, 1) := by decide +kernel
theorem dX5_takeOver_45 : decode cX5_takeOver 45 = .ok (.aload_n 0, 1) := by decide +kernel
theorem dX5_takeOver_46 : decode cX5_takeOver 46 = .ok (.getfield 21, 3) := by decide +kernel
theorem dX5_takeOver_49 : decode cX5_takeOver 49 = .ok (.iconst 0, 1) := by decide +kernel
theorem dX5_takeOver_50 : decode cX5_takeOver 50 = .ok (.bipush 100, 2) := by decide +kernel
theorem dX5_takeOver_52 : decode cX5_takeOver 52 = .ok (.invokestatic 43, 3) := by decide +kernel
theorem dX5_takeOver_55 : decode cX5_takeOver 55 = .ok (.aload_n 1, 1) := by decide +kernel
theorem dX5_takeOver_56 : decode cX5_takeOver 56 = .ok (.getfield 25, 3) := by decide +kernel
theorem dX5_takeOver_59 : decode cX5_takeOver 59 = .ok (.iconst 0, 1) := by decide +kernel
theorem dX5_takeOver_60 : decode cX5_takeOver 60 = .ok (.aload_n 0, 1) := by decide +kernel
theorem dX5_takeOver_61 : decode cX5_takeOver 61 = .ok (.getfield 25, 3) := by decide +kernel
theorem dX5_takeOver_64 : decode cX5_takeOver 64 = .ok (.iconst 0, 1) := by decide +kernel
theorem dX5_takeOver_65 : decode cX5_takeOver 65 = .ok (.iconst 5, 1) := by decide +kernel
theorem dX5_takeOver_66 : decode cX5_takeOver 66 = .ok (.invokestatic 43, 3) := by decide +kernel
theorem dX5_takeOver_69 : decode cX5_takeOver 69 = .ok (.aload_n 1, 1) := by decide +kernel
theorem dX5_takeOver_70 : decode cX5_takeOver 70 = .ok (.getfield 28, 3) := by decide +kernel
theorem dX5_takeOver_73 : decode cX5_takeOver 73 = .ok (.iconst 0, 1) := by decide +kernel
theorem dX5_takeOver_74 : decode cX5_takeOver 74 = .ok (.aload_n 0, 1) := by decide +kernel
theorem dX5_takeOver_75 : decode cX5_takeOver 75 = .ok (.getfield 28, 3) := by decide +kernel
theorem dX5_takeOver_78 : decode cX5_takeOver 78 = .ok (.iconst 0, 1) := by decide +kernel
theorem dX5_takeOver_79 : decode cX5_takeOver 79 = .ok (.iconst 5, 1) := by decide +kernel
theorem dX5_takeOver_80 : decode cX5_takeOver 80 = .ok (.invokestatic 43, 3) := by decide +kernel
theorem dX5_takeOver_83 : decode cX5_takeOver 83 = .ok (.aload_n 1, 1) := by decide +kernel
theorem dX5_takeOver_84 : decode cX5_takeOver 84 = .ok (.getfield 31, 3) := by decide +kernel
theorem dX5_takeOver_87 : decode cX5_takeOver 87 = .ok (.iconst 0, 1) := by decide +kernel
theorem dX5_takeOver_88 : decode cX5_takeOver 88 = .ok (.aload_n 0, 1) := by decide +kernel
theorem dX5_takeOver_89 : decode cX5_takeOver 89 = .ok (.getfield 31, 3) := by decide +kernel
theorem dX5_takeOver_92 : decode cX5_takeOver 92 = .ok (.iconst 0, 1) := by decide +kernel
theorem dX5_takeOver_93 : decode cX5_takeOver 93 = .ok (.iconst 5, 1) := by decide +kernel
theorem dX5_takeOver_94 : decode cX5_takeOver 94 = .ok (.invokestatic 43, 3) := by decide +kernel
theorem dX5_takeOver_97 : decode cX5_takeOver 97 = .ok (.aload_n 1, 1) := by decide +kernel
theorem dX5_takeOver_98 : decode cX5_takeOver 98 = .ok (.getfield 34, 3) := by decide +kernel
theorem dX5_takeOver_101 : decode cX5_takeOver 101 = .ok (.iconst 0, 1) := by decide +kernel
theorem dX5_takeOver_102 : decode cX5_takeOver 102 = .ok (.aload_n 0, 1) := by decide +kernel
theorem dX5_takeOver_103 : decode cX5_takeOver 103 = .ok (.getfield 34, 3) := by decide +kernel
theorem dX5_takeOver_106 : decode cX5_takeOver 106 = .ok (.iconst 0, 1) := by decide +kernel
theorem dX5_takeOver_107 : decode cX5_takeOver 107 = .ok (.iconst 5, 1) := by decide +kernel
theorem dX5_takeOver_108 : decode cX5_takeOver 108 = .ok (.invokestatic 43, 3) := by decide +kernel
theorem dX5_takeOver_111 : decode cX5_takeOver 111 = .ok (.return_, 1) := by decide +kernel
theorem dX5_hasMake_0 : decode cX5_hasMake 0 = .ok (.iload_n 1, 1) := by decide +kernel
theorem dX5_hasMake_1 : decode cX5_hasMake 1 = .ok (.ifCond .lt 15, 3) := by decide +kernel
theorem dX5_hasMake_4 : decode cX5_hasMake 4 = .ok (.iload_n 1, 1) := by decide +kernel
theorem dX5_hasMake_5 : decode cX5_hasMake 5 = .ok (.aload_n 0, 1) := by decide +kernel
theorem dX5_hasMake_6 : decode cX5_hasMake 6 = .ok (.getfield 40, 3) := by decide +kernel
theorem dX5_hasMake_9 : decode cX5_hasMake 9 = .ok (.if_icmp .ge 7, 3) := by decide +kernel
theorem dX5_hasMake_12 : decode cX5_hasMake 12 = .ok (.iconst 1, 1) := by decide +kernel
theorem dX5_hasMake_13 : decode cX5_hasMake 13 = .ok (.goto 4, 3) := by decide +kernel
theorem dX5_hasMake_16 : decode cX5_hasMake 16 = .ok (.iconst 0, 1) := by decide +kernel
theorem dX5_hasMake_17 : decode cX5_hasMake 17 = .ok (.ireturn, 1) := by decide +kernel
theorem dX5_shoes_0 : decode cX5_shoes 0 = .ok (.aload_n 0, 1) := by decide +kernel
theorem dX5_shoes_1 : decode cX5_shoes 1 = .ok (.getfield 40, 3) := by decide +kernel
theorem dX5_shoes_4 : decode cX5_shoes 4 = .ok (.bipush 20, 2) := by decide +kernel
theorem dX5_shoes_6 : decode cX5_shoes 6 = .ok (.imul, 1) := by decide +kernel
theorem dX5_shoes_7 : decode cX5_shoes 7 = .ok (.ireturn, 1) := by decide +kernel
theorem dX5_hasShoe_0 : decode cX5_hasShoe 0 = .ok (.iload_n 1, 1) := by decide +kernel
theorem dX5_hasShoe_1 : decode cX5_hasShoe 1 = .ok (.ifCond .lt 15, 3) := by decide +kernel
theorem dX5_hasShoe_4 : decode cX5_hasShoe 4 = .ok (.iload_n 1, 1) := by decide +kernel
theorem dX5_hasShoe_5 : decode cX5_hasShoe 5 = .ok (.aload_n 0, 1) := by decide +kernel
theorem dX5_hasShoe_6 : decode cX5_hasShoe 6 = .ok (.invokevirtual 49, 3) := by decide +kernel
theorem dX5_hasShoe_9 : decode cX5_hasShoe 9 = .ok (.if_icmp .ge 7, 3) := by decide +kernel
theorem dX5_hasShoe_12 : decode cX5_hasShoe 12 = .ok (.iconst 1, 1) := by decide +kernel
theorem dX5_hasShoe_13 : decode cX5_hasShoe 13 = .ok (.goto 4, 3) := by decide +kernel
theorem dX5_hasShoe_16 : decode cX5_hasShoe 16 = .ok (.iconst 0, 1) := by decide +kernel
theorem dX5_hasShoe_17 : decode cX5_hasShoe 17 = .ok (.ireturn, 1) := by decide +kernel
theorem dX5_stocks_0 : decode cX5_stocks 0 = .ok (.aload_n 0, 1) := by decide +kernel
theorem dX5_stocks_1 : decode cX5_stocks 1 = .ok (.iload_n 1, 1) := by decide +kernel
theorem dX5_stocks_2 : decode cX5_stocks 2 = .ok (.invokevirtual 53, 3) := by decide +kernel
theorem dX5_stocks_5 : decode cX5_stocks 5 = .ok (.ifCond .eq 27, 3) := by decide +kernel
theorem dX5_stocks_8 : decode cX5_stocks 8 = .ok (.aload_n 0, 1) := by decide +kernel
theorem dX5_stocks_9 : decode cX5_stocks 9 = .ok (.getfield 34, 3) := by decide +kernel
theorem dX5_stocks_12 : decode cX5_stocks 12 = .ok (.iload_n 1, 1) := by decide +kernel
theorem dX5_stocks_13 : decode cX5_stocks 13 = .ok (.bipush 20, 2) := by decide +kernel
theorem dX5_stocks_15 : decode cX5_stocks 15 = .ok (.idiv, 1) := by decide +kernel
theorem dX5_stocks_16 : decode cX5_stocks 16 = .ok (.iaload, 1) := by decide +kernel
theorem dX5_stocks_17 : decode cX5_stocks 17 = .ok (.iload_n 1, 1) := by decide +kernel
theorem dX5_stocks_18 : decode cX5_stocks 18 = .ok (.bipush 20, 2) := by decide +kernel
theorem dX5_stocks_20 : decode cX5_stocks 20 = .ok (.irem, 1) := by decide +kernel
theorem dX5_stocks_21 : decode cX5_stocks 21 = .ok (.ishr, 1) := by decide +kernel
theorem dX5_stocks_22 : decode cX5_stocks 22 = .ok (.iconst 1, 1) := by decide +kernel
theorem dX5_stocks_23 : decode cX5_stocks 23 = .ok (.iand, 1) := by decide +kernel
theorem dX5_stocks_24 : decode cX5_stocks 24 = .ok (.iconst 1, 1) := by decide +kernel
theorem dX5_stocks_25 : decode cX5_stocks 25 = .ok (.if_icmp .ne 7, 3) := by decide +kernel
theorem dX5_stocks_28 : decode cX5_stocks 28 = .ok (.iconst 1, 1) := by decide +kernel
theorem dX5_stocks_29 : decode cX5_stocks 29 = .ok (.goto 4, 3) := by decide +kernel
theorem dX5_stocks_32 : decode cX5_stocks 32 = .ok (.iconst 0, 1) := by decide +kernel
theorem dX5_stocks_33 : decode cX5_stocks 33 = .ok (.ireturn, 1) := by decide +kernel
theorem dX5_stocked_0 : decode cX5_stocked 0 = .ok (.iconst 0, 1) := by decide +kernel
theorem dX5_stocked_1 : decode cX5_stocked 1 = .ok (.istore_n 1, 1) := by decide +kernel
theorem dX5_stocked_2 : decode cX5_stocked 2 = .ok (.iconst 0, 1) := by decide +kernel
theorem dX5_stocked_3 : decode cX5_stocked 3 = .ok (.istore_n 2, 1) := by decide +kernel
theorem dX5_stocked_4 : decode cX5_stocked 4 = .ok (.iload_n 2, 1) := by decide +kernel
theorem dX5_stocked_5 : decode cX5_stocked 5 = .ok (.aload_n 0, 1) := by decide +kernel
theorem dX5_stocked_6 : decode cX5_stocked 6 = .ok (.getfield 40, 3) := by decide +kernel
theorem dX5_stocked_9 : decode cX5_stocked 9 = .ok (.if_icmp .ge 21, 3) := by decide +kernel
theorem dX5_stocked_12 : decode cX5_stocked 12 = .ok (.iload_n 1, 1) := by decide +kernel
theorem dX5_stocked_13 : decode cX5_stocked 13 = .ok (.aload_n 0, 1) := by decide +kernel
theorem dX5_stocked_14 : decode cX5_stocked 14 = .ok (.getfield 34, 3) := by decide +kernel
theorem dX5_stocked_17 : decode cX5_stocked 17 = .ok (.iload_n 2, 1) := by decide +kernel
theorem dX5_stocked_18 : decode cX5_stocked 18 = .ok (.iaload, 1) := by decide +kernel
theorem dX5_stocked_19 : decode cX5_stocked 19 = .ok (.invokestatic 57, 3) := by decide +kernel
theorem dX5_stocked_22 : decode cX5_stocked 22 = .ok (.iadd, 1) := by decide +kernel
theorem dX5_stocked_23 : decode cX5_stocked 23 = .ok (.istore_n 1, 1) := by decide +kernel
theorem dX5_stocked_24 : decode cX5_stocked 24 = .ok (.iinc 2 1, 3) := by decide +kernel
theorem dX5_stocked_27 : decode cX5_stocked 27 = .ok (.goto (-23), 3) := by decide +kernel
theorem dX5_stocked_30 : decode cX5_stocked 30 = .ok (.iload_n 1, 1) := by decide +kernel
theorem dX5_stocked_31 : decode cX5_stocked 31 = .ok (.ireturn, 1) := by decide +kernel
theorem dX5_lengthOf_0 : decode cX5_lengthOf 0 = .ok (.iload_n 1, 1) := by decide +kernel
theorem dX5_lengthOf_1 : decode cX5_lengthOf 1 = .ok (.bipush 20, 2) := by decide +kernel
theorem dX5_lengthOf_3 : decode cX5_lengthOf 3 = .ok (.idiv, 1) := by decide +kernel
theorem dX5_lengthOf_4 : decode cX5_lengthOf 4 = .ok (.istore_n 2, 1) := by decide +kernel
theorem dX5_lengthOf_5 : decode cX5_lengthOf 5 = .ok (.aload_n 0, 1) := by decide +kernel
theorem dX5_lengthOf_6 : decode cX5_lengthOf 6 = .ok (.getfield 25, 3) := by decide +kernel
theorem dX5_lengthOf_9 : decode cX5_lengthOf 9 = .ok (.iload_n 2, 1) := by decide +kernel
theorem dX5_lengthOf_10 : decode cX5_lengthOf 10 = .ok (.iaload, 1) := by decide +kernel
theorem dX5_lengthOf_11 : decode cX5_lengthOf 11 = .ok (.aload_n 0, 1) := by decide +kernel
theorem dX5_lengthOf_12 : decode cX5_lengthOf 12 = .ok (.getfield 28, 3) := by decide +kernel
theorem dX5_lengthOf_15 : decode cX5_lengthOf 15 = .ok (.iload_n 2, 1) := by decide +kernel
theorem dX5_lengthOf_16 : decode cX5_lengthOf 16 = .ok (.iaload, 1) := by decide +kernel
theorem dX5_lengthOf_17 : decode cX5_lengthOf 17 = .ok (.aload_n 0, 1) := by decide +kernel
theorem dX5_lengthOf_18 : decode cX5_lengthOf 18 = .ok (.getfield 31, 3) := by decide +kernel
theorem dX5_lengthOf_21 : decode cX5_lengthOf 21 = .ok (.iload_n 2, 1) := by decide +kernel
theorem dX5_lengthOf_22 : decode cX5_lengthOf 22 = .ok (.iaload, 1) := by decide +kernel
theorem dX5_lengthOf_23 : decode cX5_lengthOf 23 = .ok (.iload_n 1, 1) := by decide +kernel
theorem dX5_lengthOf_24 : decode cX5_lengthOf 24 = .ok (.bipush 20, 2) := by decide +kernel
theorem dX5_lengthOf_26 : decode cX5_lengthOf 26 = .ok (.irem, 1) := by decide +kernel
theorem dX5_lengthOf_27 : decode cX5_lengthOf 27 = .ok (.invokestatic 63, 3) := by decide +kernel
theorem dX5_lengthOf_30 : decode cX5_lengthOf 30 = .ok (.ireturn, 1) := by decide +kernel
theorem dX5_saysOf_0 : decode cX5_saysOf 0 = .ok (.iload_n 1, 1) := by decide +kernel
theorem dX5_saysOf_1 : decode cX5_saysOf 1 = .ok (.bipush 20, 2) := by decide +kernel
theorem dX5_saysOf_3 : decode cX5_saysOf 3 = .ok (.idiv, 1) := by decide +kernel
theorem dX5_saysOf_4 : decode cX5_saysOf 4 = .ok (.istore_n 3, 1) := by decide +kernel
theorem dX5_saysOf_5 : decode cX5_saysOf 5 = .ok (.aload_n 0, 1) := by decide +kernel
theorem dX5_saysOf_6 : decode cX5_saysOf 6 = .ok (.getfield 25, 3) := by decide +kernel
theorem dX5_saysOf_9 : decode cX5_saysOf 9 = .ok (.iload_n 3, 1) := by decide +kernel
theorem dX5_saysOf_10 : decode cX5_saysOf 10 = .ok (.iaload, 1) := by decide +kernel
theorem dX5_saysOf_11 : decode cX5_saysOf 11 = .ok (.aload_n 0, 1) := by decide +kernel
theorem dX5_saysOf_12 : decode cX5_saysOf 12 = .ok (.getfield 28, 3) := by decide +kernel
theorem dX5_saysOf_15 : decode cX5_saysOf 15 = .ok (.iload_n 3, 1) := by decide +kernel
theorem dX5_saysOf_16 : decode cX5_saysOf 16 = .ok (.iaload, 1) := by decide +kernel
theorem dX5_saysOf_17 : decode cX5_saysOf 17 = .ok (.aload_n 0, 1) := by decide +kernel
theorem dX5_saysOf_18 : decode cX5_saysOf 18 = .ok (.iload_n 1, 1) := by decide +kernel
theorem dX5_saysOf_19 : decode cX5_saysOf 19 = .ok (.invokevirtual 69, 3) := by decide +kernel
theorem dX5_saysOf_22 : decode cX5_saysOf 22 = .ok (.iload_n 2, 1) := by decide +kernel
theorem dX5_saysOf_23 : decode cX5_saysOf 23 = .ok (.isub, 1) := by decide +kernel
theorem dX5_saysOf_24 : decode cX5_saysOf 24 = .ok (.invokestatic 71, 3) := by decide +kernel
theorem dX5_saysOf_27 : decode cX5_saysOf 27 = .ok (.ireturn, 1) := by decide +kernel
theorem dX5_seeming_0 : decode cX5_seeming 0 = .ok (.iload_n 1, 1) := by decide +kernel
theorem dX5_seeming_1 : decode cX5_seeming 1 = .ok (.bipush 20, 2) := by decide +kernel
theorem dX5_seeming_3 : decode cX5_seeming 3 = .ok (.idiv, 1) := by decide +kernel
theorem dX5_seeming_4 : decode cX5_seeming 4 = .ok (.istore_n 2, 1) := by decide +kernel
theorem dX5_seeming_5 : decode cX5_seeming 5 = .ok (.aload_n 0, 1) := by decide +kernel
theorem dX5_seeming_6 : decode cX5_seeming 6 = .ok (.iload_n 1, 1) := by decide +kernel
theorem dX5_seeming_7 : decode cX5_seeming 7 = .ok (.invokevirtual 69, 3) := by decide +kernel
theorem dX5_seeming_10 : decode cX5_seeming 10 = .ok (.aload_n 0, 1) := by decide +kernel
theorem dX5_seeming_11 : decode cX5_seeming 11 = .ok (.getfield 25, 3) := by decide +kernel
theorem dX5_seeming_14 : decode cX5_seeming 14 = .ok (.iload_n 2, 1) := by decide +kernel
theorem dX5_seeming_15 : decode cX5_seeming 15 = .ok (.iaload, 1) := by decide +kernel
theorem dX5_seeming_16 : decode cX5_seeming 16 = .ok (.aload_n 0, 1) := by decide +kernel
theorem dX5_seeming_17 : decode cX5_seeming 17 = .ok (.getfield 28, 3) := by decide +kernel
theorem dX5_seeming_20 : decode cX5_seeming 20 = .ok (.iload_n 2, 1) := by decide +kernel
theorem dX5_seeming_21 : decode cX5_seeming 21 = .ok (.iaload, 1) := by decide +kernel
theorem dX5_seeming_22 : decode cX5_seeming 22 = .ok (.invokestatic 75, 3) := by decide +kernel
theorem dX5_seeming_25 : decode cX5_seeming 25 = .ok (.iadd, 1) := by decide +kernel
theorem dX5_seeming_26 : decode cX5_seeming 26 = .ok (.ireturn, 1) := by decide +kernel
theorem dX5_reach_0 : decode cX5_reach 0 = .ok (.aload_n 0, 1) := by decide +kernel
theorem dX5_reach_1 : decode cX5_reach 1 = .ok (.getfield 25, 3) := by decide +kernel
theorem dX5_reach_4 : decode cX5_reach 4 = .ok (.iload_n 1, 1) := by decide +kernel
theorem dX5_reach_5 : decode cX5_reach 5 = .ok (.bipush 20, 2) := by decide +kernel
theorem dX5_reach_7 : decode cX5_reach 7 = .ok (.idiv, 1) := by decide +kernel
theorem dX5_reach_8 : decode cX5_reach 8 = .ok (.iaload, 1) := by decide +kernel
theorem dX5_reach_9 : decode cX5_reach 9 = .ok (.aload_n 0, 1) := by decide +kernel
theorem dX5_reach_10 : decode cX5_reach 10 = .ok (.iload_n 1, 1) := by decide +kernel
theorem dX5_reach_11 : decode cX5_reach 11 = .ok (.invokevirtual 79, 3) := by decide +kernel
theorem dX5_reach_14 : decode cX5_reach 14 = .ok (.iload_n 2, 1) := by decide +kernel
theorem dX5_reach_15 : decode cX5_reach 15 = .ok (.invokestatic 82, 3) := by decide +kernel
theorem dX5_reach_18 : decode cX5_reach 18 = .ok (.ireturn, 1) := by decide +kernel
theorem dX5_leastFitted_0 : decode cX5_leastFitted 0 = .ok (.aload_n 0, 1) := by decide +kernel
theorem dX5_leastFitted_1 : decode cX5_leastFitted 1 = .ok (.iload_n 1, 1) := by decide +kernel
theorem dX5_leastFitted_2 : decode cX5_leastFitted 2 = .ok (.iconst 1, 1) := by decide +kernel
theorem dX5_leastFitted_3 : decode cX5_leastFitted 3 = .ok (.invokevirtual 85, 3) := by decide +kernel
theorem dX5_leastFitted_6 : decode cX5_leastFitted 6 = .ok (.iconst 1, 1) := by decide +kernel
theorem dX5_leastFitted_7 : decode cX5_leastFitted 7 = .ok (.iadd, 1) := by decide +kernel
theorem dX5_leastFitted_8 : decode cX5_leastFitted 8 = .ok (.ireturn, 1) := by decide +kernel
theorem dX5_greatestFitted_0 : decode cX5_greatestFitted 0 = .ok (.aload_n 0, 1) := by decide +kernel
theorem dX5_greatestFitted_1 : decode cX5_greatestFitted 1 = .ok (.iload_n 1, 1) := by decide +kernel
theorem dX5_greatestFitted_2 : decode cX5_greatestFitted 2 = .ok (.iconst 0, 1) := by decide +kernel
theorem dX5_greatestFitted_3 : decode cX5_greatestFitted 3 = .ok (.invokevirtual 85, 3) := by decide +kernel
theorem dX5_greatestFitted_6 : decode cX5_greatestFitted 6 = .ok (.ireturn, 1) := by decide +kernel
theorem dX5_peopleOf_0 : decode cX5_peopleOf 0 = .ok (.iconst 0, 1) := by decide +kernel
theorem dX5_peopleOf_1 : decode cX5_peopleOf 1 = .ok (.istore_n 3, 1) := by decide +kernel
theorem dX5_peopleOf_2 : decode cX5_peopleOf 2 = .ok (.iconst 0, 1) := by decide +kernel
theorem dX5_peopleOf_3 : decode cX5_peopleOf 3 = .ok (.iload_n 1, 1) := by decide +kernel
theorem dX5_peopleOf_4 : decode cX5_peopleOf 4 = .ok (.invokestatic 87, 3) := by decide +kernel
theorem dX5_peopleOf_7 : decode cX5_peopleOf 7 = .ok (.istore 4, 2) := by decide +kernel
theorem dX5_peopleOf_9 : decode cX5_peopleOf 9 = .ok (.iload 4, 2) := by decide +kernel
theorem dX5_peopleOf_11 : decode cX5_peopleOf 11 = .ok (.iload_n 2, 1) := by decide +kernel
theorem dX5_peopleOf_12 : decode cX5_peopleOf 12 = .ok (.if_icmp .gt 26, 3) := by decide +kernel
theorem dX5_peopleOf_15 : decode cX5_peopleOf 15 = .ok (.iload 4, 2) := by decide +kernel
theorem dX5_peopleOf_17 : decode cX5_peopleOf 17 = .ok (.bipush 100, 2) := by decide +kernel
theorem dX5_peopleOf_19 : decode cX5_peopleOf 19 = .ok (.if_icmp .ge 19, 3) := by decide +kernel
theorem dX5_peopleOf_22 : decode cX5_peopleOf 22 = .ok (.iload_n 3, 1) := by decide +kernel
theorem dX5_peopleOf_23 : decode cX5_peopleOf 23 = .ok (.aload_n 0, 1) := by decide +kernel
theorem dX5_peopleOf_24 : decode cX5_peopleOf 24 = .ok (.getfield 21, 3) := by decide +kernel
theorem dX5_peopleOf_27 : decode cX5_peopleOf 27 = .ok (.iload 4, 2) := by decide +kernel
theorem dX5_peopleOf_29 : decode cX5_peopleOf 29 = .ok (.iaload, 1) := by decide +kernel
theorem dX5_peopleOf_30 : decode cX5_peopleOf 30 = .ok (.iadd, 1) := by decide +kernel
theorem dX5_peopleOf_31 : decode cX5_peopleOf 31 = .ok (.istore_n 3, 1) := by decide +kernel
theorem dX5_peopleOf_32 : decode cX5_peopleOf 32 = .ok (.iinc 4 1, 3) := by decide +kernel
theorem dX5_peopleOf_35 : decode cX5_peopleOf 35 = .ok (.goto (-26), 3) := by decide +kernel
theorem dX5_peopleOf_38 : decode cX5_peopleOf 38 = .ok (.iload_n 3, 1) := by decide +kernel
theorem dX5_peopleOf_39 : decode cX5_peopleOf 39 = .ok (.ireturn, 1) := by decide +kernel
theorem dX6_init_0 : decode cX6_init 0 = .ok (.aload_n 0, 1) := by decide +kernel
theorem dX6_init_1 : decode cX6_init 1 = .ok (.invokespecial 3, 3) := by decide +kernel
theorem dX6_init_4 : decode cX6_init 4 = .ok (.aload_n 0, 1) := by decide +kernel
theorem dX6_init_5 : decode cX6_init 5 = .ok (.sipush 960, 3) := by decide +kernel
theorem dX6_init_8 : decode cX6_init 8 = .ok (.newarray .int, 2) := by decide +kernel
theorem dX6_init_10 : decode cX6_init 10 = .ok (.putfield 9, 3) := by decide +kernel
theorem dX6_init_13 : decode cX6_init 13 = .ok (.aload_n 0, 1) := by decide +kernel
theorem dX6_init_14 : decode cX6_init 14 = .ok (.bipush 24, 2) := by decide +kernel
theorem dX6_init_16 : decode cX6_init 16 = .ok (.newarray .int, 2) := by decide +kernel
theorem dX6_init_18 : decode cX6_init 18 = .ok (.putfield 15, 3) := by decide +kernel
theorem dX6_init_21 : decode cX6_init 21 = .ok (.aload_n 0, 1) := by decide +kernel
theorem dX6_init_22 : decode cX6_init 22 = .ok (.bipush 6, 2) := by decide +kernel
theorem dX6_init_24 : decode cX6_init 24 = .ok (.newarray .int, 2) := by decide +kernel
theorem dX6_init_26 : decode cX6_init 26 = .ok (.putfield 18, 3) := by decide +kernel
theorem dX6_init_29 : decode cX6_init 29 = .ok (.aload_n 0, 1) := by decide +kernel
theorem dX6_init_30 : decode cX6_init 30 = .ok (.sipush 160, 3) := by decide +kernel
theorem dX6_init_33 : decode cX6_init 33 = .ok (.newarray .int, 2) := by decide +kernel
theorem dX6_init_35 : decode cX6_init 35 = .ok (.putfield 21, 3) := by decide +kernel
theorem dX6_init_38 : decode cX6_init 38 = .ok (.return_, 1) := by decide +kernel
theorem dX6_keep_0 : decode cX6_keep 0 = .ok (.aload_n 0, 1) := by decide +kernel
theorem dX6_keep_1 : decode cX6_keep 1 = .ok (.getfield 24, 3) := by decide +kernel
theorem dX6_keep_4 : decode cX6_keep 4 = .ok (.istore_n 2, 1) := by decide +kernel
theorem dX6_keep_5 : decode cX6_keep 5 = .ok (.aload_n 1, 1) := by decide +kernel
theorem dX6_keep_6 : decode cX6_keep 6 = .ok (.getfield 28, 3) := by decide +kernel
theorem dX6_keep_9 : decode cX6_keep 9 = .ok (.iconst 0, 1) := by decide +kernel
theorem dX6_keep_10 : decode cX6_keep 10 = .ok (.aload_n 0, 1) := by decide +kernel
theorem dX6_keep_11 : decode cX6_keep 11 = .ok (.getfield 9, 3) := by decide +kernel
theorem dX6_keep_14 : decode cX6_keep 14 = .ok (.iload_n 2, 1) := by decide +kernel
theorem dX6_keep_15 : decode cX6_keep 15 = .ok (.sipush 160, 3) := by decide +kernel
theorem dX6_keep_18 : decode cX6_keep 18 = .ok (.imul, 1) := by decide +kernel
theorem dX6_keep_19 : decode cX6_keep 19 = .ok (.sipush 160, 3) := by decide +kernel
theorem dX6_keep_22 : decode cX6_keep 22 = .ok (.invokestatic 31, 3) := by decide +kernel
theorem dX6_keep_25 : decode cX6_keep 25 = .ok (.aload_n 1, 1) := by decide +kernel
theorem dX6_keep_26 : decode cX6_keep 26 = .ok (.getfield 37, 3) := by decide +kernel
theorem dX6_keep_29 : decode cX6_keep 29 = .ok (.iconst 0, 1) := by decide +kernel
theorem dX6_keep_30 : decode cX6_keep 30 = .ok (.aload_n 0, 1) := by decide +kernel
theorem dX6_keep_31 : decode cX6_keep 31 = .ok (.getfield 15, 3) := by decide +kernel
theorem dX6_keep_34 : decode cX6_keep 34 = .ok (.iload_n 2, 1) := by decide +kernel
theorem dX6_keep_35 : decode cX6_keep 35 = .ok (.iconst 4, 1) := by decide +kernel
theorem dX6_keep_36 : decode cX6_keep 36 = .ok (.imul, 1) := by decide +kernel
theorem dX6_keep_37 : decode cX6_keep 37 = .ok (.iconst 4, 1) := by decide +kernel
theorem dX6_keep_38 : decode cX6_keep 38 = .ok (.invokestatic 31, 3) := by decide +kernel
theorem dX6_keep_41 : decode cX6_keep 41 = .ok (.aload_n 0, 1) := by decide +kernel
theorem dX6_keep_42 : decode cX6_keep 42 = .ok (.iload_n 2, 1) := by decide +kernel
theorem dX6_keep_43 : decode cX6_keep 43 = .ok (.iconst 1, 1) := by decide +kernel
theorem dX6_keep_44 : decode cX6_keep 44 = .ok (.iadd, 1) := by decide +kernel
theorem dX6_keep_45 : decode cX6_keep 45 = .ok (.putfield 24, 3) := by decide +kernel
theorem dX6_keep_48 : decode cX6_keep 48 = .ok (.iload_n 2, 1) := by decide +kernel
theorem dX6_keep_49 : decode cX6_keep 49 = .ok (.ireturn, 1) := by decide +kernel
theorem dX6_name_0 : decode cX6_name 0 = .ok (.aload_n 0, 1) := by decide +kernel
theorem dX6_name_1 : decode cX6_name 1 = .ok (.getfield 18, 3) := by decide +kernel
theorem dX6_name_4 : decode cX6_name 4 = .ok (.iconst 0, 1) := by decide +kernel
theorem dX6_name_5 : decode cX6_name 5 = .ok (.iload_n 1, 1) := by decide +kernel
theorem dX6_name_6 : decode cX6_name 6 = .ok (.iastore, 1) := by decide +kernel
theorem dX6_name_7 : decode cX6_name 7 = .ok (.aload_n 0, 1) := by decide +kernel
theorem dX6_name_8 : decode cX6_name 8 = .ok (.getfield 18, 3) := by decide +kernel
theorem dX6_name_11 : decode cX6_name 11 = .ok (.iconst 1, 1) := by decide +kernel
theorem dX6_name_12 : decode cX6_name 12 = .ok (.iload_n 2, 1) := by decide +kernel
theorem dX6_name_13 : decode cX6_name 13 = .ok (.iastore, 1) := by decide +kernel
theorem dX6_name_14 : decode cX6_name 14 = .ok (.aload_n 0, 1) := by decide +kernel
theorem dX6_name_15 : decode cX6_name 15 = .ok (.getfield 18, 3) := by decide +kernel
theorem dX6_name_18 : decode cX6_name 18 = .ok (.iconst 2, 1) := by decide +kernel
theorem dX6_name_19 : decode cX6_name 19 = .ok (.iload_n 3, 1) := by decide +kernel
theorem dX6_name_20 : decode cX6_name 20 = .ok (.iastore, 1) := by decide +kernel
theorem dX6_name_21 : decode cX6_name 21 = .ok (.aload_n 0, 1) := by decide +kernel
theorem dX6_name_22 : decode cX6_name 22 = .ok (.getfield 18, 3) := by decide +kernel
theorem dX6_name_25 : decode cX6_name 25 = .ok (.iconst 3, 1) := by decide +kernel
theorem dX6_name_26 : decode cX6_name 26 = .ok (.iload 4, 2) := by decide +kernel
theorem dX6_name_28 : decode cX6_name 28 = .ok (.iastore, 1) := by decide +kernel
theorem dX6_name_29 : decode cX6_name 29 = .ok (.aload_n 0, 1) := by decide +kernel
theorem dX6_name_30 : decode cX6_name 30 = .ok (.getfield 18, 3) := by decide +kernel
theorem dX6_name_33 : decode cX6_name 33 = .ok (.iconst 4, 1) := by decide +kernel
theorem dX6_name_34 : decode cX6_name 34 = .ok (.iload 5, 2) := by decide +kernel
theorem dX6_name_36 : decode cX6_name 36 = .ok (.iastore, 1) := by decide +kernel
theorem dX6_name_37 : decode cX6_name 37 = .ok (.aload_n 0, 1) := by decide +kernel
theorem dX6_name_38 : decode cX6_name 38 = .ok (.getfield 18, 3) := by decide +kernel
theorem dX6_name_41 : decode cX6_name 41 = .ok (.iconst 5, 1) := by decide +kernel
theorem dX6_name_42 : decode cX6_name 42 = .ok (.iload 6, 2) := by decide +kernel
theorem dX6_name_44 : decode cX6_name 44 = .ok (.iastore, 1) := by decide +kernel
theorem dX6_name_45 : decode cX6_name 45 = .ok (.return_, 1) := by decide +kernel
theorem dX6_value_0 : decode cX6_value 0 = .ok (.iload_n 1, 1) := by decide +kernel
theorem dX6_value_1 : decode cX6_value 1 = .ok (.iconst 4, 1) := by decide +kernel
theorem dX6_value_2 : decode cX6_value 2 = .ok (.imul, 1) := by decide +kernel
theorem dX6_value_3 : decode cX6_value 3 = .ok (.iload_n 2, 1) := by decide +kernel
theorem dX6_value_4 : decode cX6_value 4 = .ok (.iadd, 1) := by decide +kernel
theorem dX6_value_5 : decode cX6_value 5 = .ok (.istore_n 3, 1) := by decide +kernel
theorem dX6_value_6 : decode cX6_value 6 = .ok (.iconst 0, 1) := by decide +kernel
theorem dX6_value_7 : decode cX6_value 7 = .ok (.istore 4, 2) := by decide +kernel
theorem dX6_value_9 : decode cX6_value 9 = .ok (.aload_n 0, 1) := by decide +kernel
theorem dX6_value_10 : decode cX6_value 10 = .ok (.getfield 15, 3) := by decide +kernel
theorem dX6_value_13 : decode cX6_value 13 = .ok (.iload_n 3, 1) := by decide +kernel
theorem dX6_value_14 : decode cX6_value 14 = .ok (.iaload, 1) := by decide +kernel
theorem dX6_value_15 : decode cX6_value 15 = .ok (.istore 5, 2) := by decide +kernel
theorem dX6_value_17 : decode cX6_value 17 = .ok (.iload 5, 2) := by decide +kernel
theorem dX6_value_19 : decode cX6_value 19 = .ok (.aload_n 0, 1) := by decide +kernel
theorem dX6_value_20 : decode cX6_value 20 = .ok (.getfield 15, 3) := by decide +kernel
theorem dX6_value_23 : decode cX6_value 23 = .ok (.iload_n 3, 1) := by decide +kernel
theorem dX6_value_24 : decode cX6_value 24 = .ok (.iconst 1, 1) := by decide +kernel
theorem dX6_value_25 : decode cX6_value 25 = .ok (.iadd, 1) := by decide +kernel
theorem dX6_value_26 : decode cX6_value 26 = .ok (.iaload, 1) := by decide +kernel
theorem dX6_value_27 : decode cX6_value 27 = .ok (.if_icmp .ge 30, 3) := by decide +kernel
theorem dX6_value_30 : decode cX6_value 30 = .ok (.aload_n 0, 1) := by decide +kernel
theorem dX6_value_31 : decode cX6_value 31 = .ok (.aload_n 0, 1) := by decide +kernel
theorem dX6_value_32 : decode cX6_value 32 = .ok (.getfield 9, 3) := by decide +kernel
theorem dX6_value_35 : decode cX6_value 35 = .ok (.iload_n 1, 1) := by decide +kernel
theorem dX6_value_36 : decode cX6_value 36 = .ok (.sipush 160, 3) := by decide +kernel
theorem dX6_value_39 : decode cX6_value 39 = .ok (.imul, 1) := by decide +kernel
theorem dX6_value_40 : decode cX6_value 40 = .ok (.iload 5, 2) := by decide +kernel
theorem dX6_value_42 : decode cX6_value 42 = .ok (.iadd, 1) := by decide +kernel
theorem dX6_value_43 : decode cX6_value 43 = .ok (.iaload, 1) := by decide +kernel
theorem dX6_value_44 : decode cX6_value 44 = .ok (.iload 4, 2) := by decide +kernel
theorem dX6_value_46 : decode cX6_value 46 = .ok (.invokevirtual 38, 3) := by decide +kernel
theorem dX6_value_49 : decode cX6_value 49 = .ok (.istore 4, 2) := by decide +kernel
theorem dX6_value_51 : decode cX6_value 51 = .ok (.iinc 5 1, 3) := by decide +kernel
theorem dX6_value_54 : decode cX6_value 54 = .ok (.goto (-37), 3) := by decide +kernel
theorem dX6_value_57 : decode cX6_value 57 = .ok (.iload 4, 2) := by decide +kernel
theorem dX6_value_59 : decode cX6_value 59 = .ok (.ifCond .le 12, 3) := by decide +kernel
theorem dX6_value_62 : decode cX6_value 62 = .ok (.aload_n 0, 1) := by decide +kernel
theorem dX6_value_63 : decode cX6_value 63 = .ok (.getfield 21, 3) := by decide +kernel
theorem dX6_value_66 : decode cX6_value 66 = .ok (.iconst 0, 1) := by decide +kernel
theorem dX6_value_67 : decode cX6_value 67 = .ok (.iaload, 1) := by decide +kernel
theorem dX6_value_68 : decode cX6_value 68 = .ok (.goto 4, 3) := by decide +kernel
theorem dX6_value_71 : decode cX6_value 71 = .ok (.iconst 0, 1) := by decide +kernel
theorem dX6_value_72 : decode cX6_value 72 = .ok (.ireturn, 1) := by decide +kernel
theorem dX6_step_0 : decode cX6_step 0 = .ok (.iload_n 1, 1) := by decide +kernel
theorem dX6_step_1 : decode cX6_step 1 = .ok (.bipush 100, 2) := by decide +kernel
theorem dX6_step_3 : decode cX6_step 3 = .ok (.if_icmp .ge 15, 3) := by decide +kernel
theorem dX6_step_6 : decode cX6_step 6 = .ok (.iload_n 1, 1) := by decide +kernel
theorem dX6_step_7 : decode cX6_step 7 = .ok (.bipush 6, 2) := by decide +kernel
theorem dX6_step_9 : decode cX6_step 9 = .ok (.if_icmp .lt 52, 3) := by decide +kernel
theorem dX6_step_12 : decode cX6_step 12 = .ok (.iload_n 1, 1) := by decide +kernel
theorem dX6_step_13 : decode cX6_step 13 = .ok (.bipush 12, 2) := by decide +kernel
theorem dX6_step_15 : decode cX6_step 15 = .ok (.if_icmp .ge 46, 3) := by decide +kernel
theorem dX6_step_18 : decode cX6_step 18 = .ok (.iload_n 2, 1) := by decide +kernel
theorem dX6_step_19 : decode cX6_step 19 = .ok (.aload_n 0, 1) := by decide +kernel
theorem dX6_step_20 : decode cX6_step 20 = .ok (.getfield 21, 3) := by decide +kernel
theorem dX6_step_23 : decode cX6_step 23 = .ok (.arraylength, 1) := by decide +kernel
theorem dX6_step_24 : decode cX6_step 24 = .ok (.if_icmp .lt 5, 3) := by decide +kernel
theorem dX6_step_27 : decode cX6_step 27 = .ok (.iload_n 2, 1) := by decide +kernel
theorem dX6_step_28 : decode cX6_step 28 = .ok (.ireturn, 1) := by decide +kernel
theorem dX6_step_29 : decode cX6_step 29 = .ok (.aload_n 0, 1) := by decide +kernel
theorem dX6_step_30 : decode cX6_step 30 = .ok (.getfield 21, 3) := by decide +kernel
theorem dX6_step_33 : decode cX6_step 33 = .ok (.iload_n 2, 1) := by decide +kernel
theorem dX6_step_34 : decode cX6_step 34 = .ok (.iload_n 1, 1) := by decide +kernel
theorem dX6_step_35 : decode cX6_step 35 = .ok (.bipush 100, 2) := by decide +kernel
theorem dX6_step_37 : decode cX6_step 37 = .ok (.if_icmp .lt 10, 3) := by decide +kernel
theorem dX6_step_40 : decode cX6_step 40 = .ok (.iload_n 1, 1) := by decide +kernel
theorem dX6_step_41 : decode cX6_step 41 = .ok (.bipush 100, 2) := by decide +kernel
theorem dX6_step_43 : decode cX6_step 43 = .ok (.isub, 1) := by decide +kernel
theorem dX6_step_44 : decode cX6_step 44 = .ok (.goto 12, 3) := by decide +kernel
theorem dX6_step_47 : decode cX6_step 47 = .ok (.aload_n 0, 1) := by decide +kernel
theorem dX6_step_48 : decode cX6_step 48 = .ok (.getfield 18, 3) := by decide +kernel
theorem dX6_step_51 : decode cX6_step 51 = .ok (.iload_n 1, 1) := by decide +kernel
theorem dX6_step_52 : decode cX6_step 52 = .ok (.bipush 6, 2) := by decide +kernel
theorem dX6_step_54 : decode cX6_step 54 = .ok (.isub, 1) := by decide +kernel
theorem dX6_step_55 : decode cX6_step 55 = .ok (.iaload, 1) := by decide +kernel
theorem dX6_step_56 : decode cX6_step 56 = .ok (.iastore, 1) := by decide +kernel
theorem dX6_step_57 : decode cX6_step 57 = .ok (.iload_n 2, 1) := by decide +kernel
theorem dX6_step_58 : decode cX6_step 58 = .ok (.iconst 1, 1) := by decide +kernel
theorem dX6_step_59 : decode cX6_step 59 = .ok (.iadd, 1) := by decide +kernel
theorem dX6_step_60 : decode cX6_step 60 = .ok (.ireturn, 1) := by decide +kernel
theorem dX6_step_61 : decode cX6_step 61 = .ok (.iload_n 2, 1) := by decide +kernel
theorem dX6_step_62 : decode cX6_step 62 = .ok (.ifCond .le 35, 3) := by decide +kernel
theorem dX6_step_65 : decode cX6_step 65 = .ok (.iload_n 1, 1) := by decide +kernel
theorem dX6_step_66 : decode cX6_step 66 = .ok (.iconst 5, 1) := by decide +kernel
theorem dX6_step_67 : decode cX6_step 67 = .ok (.if_icmp .ne 30, 3) := by decide +kernel
theorem dX6_step_70 : decode cX6_step 70 = .ok (.aload_n 0, 1) := by decide +kernel
theorem dX6_step_71 : decode cX6_step 71 = .ok (.getfield 21, 3) := by decide +kernel
theorem dX6_step_74 : decode cX6_step 74 = .ok (.iload_n 2, 1) := by decide +kernel
theorem dX6_step_75 : decode cX6_step 75 = .ok (.iconst 1, 1) := by decide +kernel
theorem dX6_step_76 : decode cX6_step 76 = .ok (.isub, 1) := by decide +kernel
theorem dX6_step_77 : decode cX6_step 77 = .ok (.aload_n 0, 1) := by decide +kernel
theorem dX6_step_78 : decode cX6_step 78 = .ok (.getfield 21, 3) := by decide +kernel
theorem dX6_step_81 : decode cX6_step 81 = .ok (.iload_n 2, 1) := by decide +kernel
theorem dX6_step_82 : decode cX6_step 82 = .ok (.iconst 1, 1) := by decide +kernel
theorem dX6_step_83 : decode cX6_step 83 = .ok (.isub, 1) := by decide +kernel
theorem dX6_step_84 : decode cX6_step 84 = .ok (.iaload, 1) := by decide +kernel
theorem dX6_step_85 : decode cX6_step 85 = .ok (.ifCond .ne 7, 3) := by decide +kernel
theorem dX6_step_88 : decode cX6_step 88 = .ok (.iconst 1, 1) := by decide +kernel
theorem dX6_step_89 : decode cX6_step 89 = .ok (.goto 4, 3) := by decide +kernel
theorem dX6_step_92 : decode cX6_step 92 = .ok (.iconst 0, 1) := by decide +kernel
theorem dX6_step_93 : decode cX6_step 93 = .ok (.iastore, 1) := by decide +kernel
theorem dX6_step_94 : decode cX6_step 94 = .ok (.goto 70, 3) := by decide +kernel
theorem dX6_step_97 : decode cX6_step 97 = .ok (.iload_n 2, 1) := by decide +kernel
theorem dX6_step_98 : decode cX6_step 98 = .ok (.ifCond .le 29, 3) := by decide +kernel
theorem dX6_step_101 : decode cX6_step 101 = .ok (.iload_n 1, 1) := by decide +kernel
theorem dX6_step_102 : decode cX6_step 102 = .ok (.bipush 22, 2) := by decide +kernel
theorem dX6_step_104 : decode cX6_step 104 = .ok (.if_icmp .ne 23, 3) := by decide +kernel
theorem dX6_step_107 : decode cX6_step 107 = .ok (.aload_n 0, 1) := by decide +kernel
theorem dX6_step_108 : decode cX6_step 108 = .ok (.getfield 21, 3) := by decide +kernel
theorem dX6_step_111 : decode cX6_step 111 = .ok (.iload_n 2, 1) := by decide +kernel
theorem dX6_step_112 : decode cX6_step 112 = .ok (.iconst 1, 1) := by decide +kernel
theorem dX6_step_113 : decode cX6_step 113 = .ok (.isub, 1) := by decide +kernel
theorem dX6_step_114 : decode cX6_step 114 = .ok (.aload_n 0, 1) := by decide +kernel
theorem dX6_step_115 : decode cX6_step 115 = .ok (.getfield 21, 3) := by decide +kernel
theorem dX6_step_118 : decode cX6_step 118 = .ok (.iload_n 2, 1) := by decide +kernel
theorem dX6_step_119 : decode cX6_step 119 = .ok (.iconst 1, 1) := by decide +kernel
theorem dX6_step_120 : decode cX6_step 120 = .ok (.isub, 1) := by decide +kernel
theorem dX6_step_121 : decode cX6_step 121 = .ok (.iaload, 1) := by decide +kernel
theorem dX6_step_122 : decode cX6_step 122 = .ok (.ineg, 1) := by decide +kernel
theorem dX6_step_123 : decode cX6_step 123 = .ok (.iastore, 1) := by decide +kernel
theorem dX6_step_124 : decode cX6_step 124 = .ok (.goto 40, 3) := by decide +kernel
theorem dX6_step_127 : decode cX6_step 127 = .ok (.iload_n 2, 1) := by decide +kernel
theorem dX6_step_128 : decode cX6_step 128 = .ok (.iconst 1, 1) := by decide +kernel
theorem dX6_step_129 : decode cX6_step 129 = .ok (.if_icmp .le 35, 3) := by decide +kernel
theorem dX6_step_132 : decode cX6_step 132 = .ok (.aload_n 0, 1) := by decide +kernel
theorem dX6_step_133 : decode cX6_step 133 = .ok (.getfield 21, 3) := by decide +kernel
theorem dX6_step_136 : decode cX6_step 136 = .ok (.iload_n 2, 1) := by decide +kernel
theorem dX6_step_137 : decode cX6_step 137 = .ok (.iconst 2, 1) := by decide +kernel
theorem dX6_step_138 : decode cX6_step 138 = .ok (.isub, 1) := by decide +kernel
theorem dX6_step_139 : decode cX6_step 139 = .ok (.iload_n 1, 1) := by decide +kernel
theorem dX6_step_140 : decode cX6_step 140 = .ok (.aload_n 0, 1) := by decide +kernel
theorem dX6_step_141 : decode cX6_step 141 = .ok (.getfield 21, 3) := by decide +kernel
theorem dX6_step_144 : decode cX6_step 144 = .ok (.iload_n 2, 1) := by decide +kernel
theorem dX6_step_145 : decode cX6_step 145 = .ok (.iconst 2, 1) := by decide +kernel
theorem dX6_step_146 : decode cX6_step 146 = .ok (.isub, 1) := by decide +kernel
theorem dX6_step_147 : decode cX6_step 147 = .ok (.iaload, 1) := by decide +kernel
theorem dX6_step_148 : decode cX6_step 148 = .ok (.aload_n 0, 1) := by decide +kernel
theorem dX6_step_149 : decode cX6_step 149 = .ok (.getfield 21, 3) := by decide +kernel
theorem dX6_step_152 : decode cX6_step 152 = .ok (.iload_n 2, 1) := by decide +kernel
theorem dX6_step_153 : decode cX6_step 153 = .ok (.iconst 1, 1) := by decide +kernel
theorem dX6_step_154 : decode cX6_step 154 = .ok (.isub, 1) := by decide +kernel
theorem dX6_step_155 : decode cX6_step 155 = .ok (.iaload, 1) := by decide +kernel
theorem dX6_step_156 : decode cX6_step 156 = .ok (.invokestatic 42, 3) := by decide +kernel
theorem dX6_step_159 : decode cX6_step 159 = .ok (.iastore, 1) := by decide +kernel
theorem dX6_step_160 : decode cX6_step 160 = .ok (.iload_n 2, 1) := by decide +kernel
theorem dX6_step_161 : decode cX6_step 161 = .ok (.iconst 1, 1) := by decide +kernel
theorem dX6_step_162 : decode cX6_step 162 = .ok (.isub, 1) := by decide +kernel
theorem dX6_step_163 : decode cX6_step 163 = .ok (.ireturn, 1) := by decide +kernel
theorem dX6_step_164 : decode cX6_step 164 = .ok (.iload_n 2, 1) := by decide +kernel
theorem dX6_step_165 : decode cX6_step 165 = .ok (.ireturn, 1) := by decide +kernel
theorem dX6_joined_0 : decode cX6_joined 0 = .ok (.iload_n 0, 1) := by decide +kernel
theorem dX6_joined_1 : decode cX6_joined 1 = .ok (.tableswitch 141 3 19 #[83, 97, 141, 141, 141, 141, 141, 141, 141, 141, 141, 141, 133, 137, 141, 111, 122], 83) := by decide +kernel
theorem dX6_joined_84 : decode cX6_joined 84 = .ok (.iload_n 1, 1) := by decide +kernel
theorem dX6_joined_85 : decode cX6_joined 85 = .ok (.ifCond .ne 7, 3) := by decide +kernel
theorem dX6_joined_88 : decode cX6_joined 88 = .ok (.iload_n 2, 1) := by decide +kernel
theorem dX6_joined_89 : decode cX6_joined 89 = .ok (.ifCond .eq 7, 3) := by decide +kernel
theorem dX6_joined_92 : decode cX6_joined 92 = .ok (.iconst 1, 1) := by decide +kernel
theorem dX6_joined_93 : decode cX6_joined 93 = .ok (.goto 4, 3) := by decide +kernel
theorem dX6_joined_96 : decode cX6_joined 96 = .ok (.iconst 0, 1) := by decide +kernel
theorem dX6_joined_97 : decode cX6_joined 97 = .ok (.ireturn, 1) := by decide +kernel
theorem dX6_joined_98 : decode cX6_joined 98 = .ok (.iload_n 1, 1) := by decide +kernel
theorem dX6_joined_99 : decode cX6_joined 99 = .ok (.ifCond .eq 11, 3) := by decide +kernel
theorem dX6_joined_102 : decode cX6_joined 102 = .ok (.iload_n 2, 1) := by decide +kernel
theorem dX6_joined_103 : decode cX6_joined 103 = .ok (.ifCond .eq 7, 3) := by decide +kernel
theorem dX6_joined_106 : decode cX6_joined 106 = .ok (.iconst 1, 1) := by decide +kernel
theorem dX6_joined_107 : decode cX6_joined 107 = .ok (.goto 4, 3) := by decide +kernel
theorem dX6_joined_110 : decode cX6_joined 110 = .ok (.iconst 0, 1) := by decide +kernel
theorem dX6_joined_111 : decode cX6_joined 111 = .ok (.ireturn, 1) := by decide +kernel
theorem dX6_joined_112 : decode cX6_joined 112 = .ok (.iload_n 1, 1) := by decide +kernel
theorem dX6_joined_113 : decode cX6_joined 113 = .ok (.iload_n 2, 1) := by decide +kernel
theorem dX6_joined_114 : decode cX6_joined 114 = .ok (.if_icmp .ge 7, 3) := by decide +kernel
theorem dX6_joined_117 : decode cX6_joined 117 = .ok (.iconst 1, 1) := by decide +kernel
theorem dX6_joined_118 : decode cX6_joined 118 = .ok (.goto 4, 3) := by decide +kernel
theorem dX6_joined_121 : decode cX6_joined 121 = .ok (.iconst 0, 1) := by decide +kernel
theorem dX6_joined_122 : decode cX6_joined 122 = .ok (.ireturn, 1) := by decide +kernel
theorem dX6_joined_123 : decode cX6_joined 123 = .ok (.iload_n 1, 1) := by decide +kernel
theorem dX6_joined_124 : decode cX6_joined 124 = .ok (.iload_n 2, 1) := by decide +kernel
theorem dX6_joined_125 : decode cX6_joined 125 = .ok (.if_icmp .ne 7, 3) := by decide +kernel
theorem dX6_joined_128 : decode cX6_joined 128 = .ok (.iconst 1, 1) := by decide +kernel
theorem dX6_joined_129 : decode cX6_joined 129 = .ok (.goto 4, 3) := by decide +kernel
theorem dX6_joined_132 : decode cX6_joined 132 = .ok (.iconst 0, 1) := by decide +kernel
theorem dX6_joined_133 : decode cX6_joined 133 = .ok (.ireturn, 1) := by decide +kernel
theorem dX6_joined_134 : decode cX6_joined 134 = .ok (.iload_n 1, 1) := by decide +kernel
theorem dX6_joined_135 : decode cX6_joined 135 = .ok (.iload_n 2, 1) := by decide +kernel
theorem dX6_joined_136 : decode cX6_joined 136 = .ok (.iadd, 1) := by decide +kernel
theorem dX6_joined_137 : decode cX6_joined 137 = .ok (.ireturn, 1) := by decide +kernel
theorem dX6_joined_138 : decode cX6_joined 138 = .ok (.iload_n 1, 1) := by decide +kernel
theorem dX6_joined_139 : decode cX6_joined 139 = .ok (.iload_n 2, 1) := by decide +kernel
theorem dX6_joined_140 : decode cX6_joined 140 = .ok (.isub, 1) := by decide +kernel
theorem dX6_joined_141 : decode cX6_joined 141 = .ok (.ireturn, 1) := by decide +kernel
theorem dX6_joined_142 : decode cX6_joined 142 = .ok (.iload_n 1, 1) := by decide +kernel
theorem dX6_joined_143 : decode cX6_joined 143 = .ok (.iload_n 2, 1) := by decide +kernel
theorem dX6_joined_144 : decode cX6_joined 144 = .ok (.imul, 1) := by decide +kernel
theorem dX6_joined_145 : decode cX6_joined 145 = .ok (.ireturn, 1) := by decide +kernel
theorem dX7_init_0 : decode cX7_init 0 = .ok (.aload_n 0, 1) := by decide +kernel
theorem dX7_init_1 : decode cX7_init 1 = .ok (.invokespecial 1, 3) := by decide +kernel
theorem dX7_init_4 : decode cX7_init 4 = .ok (.aload_n 0, 1) := by decide +kernel
theorem dX7_init_5 : decode cX7_init 5 = .ok (.new 7, 3) := by decide +kernel
theorem dX7_init_8 : decode cX7_init 8 = .ok (.dup, 1) := by decide +kernel
theorem dX7_init_9 : decode cX7_init 9 = .ok (.invokespecial 9, 3) := by decide +kernel
theorem dX7_init_12 : decode cX7_init 12 = .ok (.putfield 10, 3) := by decide +kernel
theorem dX7_init_15 : decode cX7_init 15 = .ok (.aload_n 0, 1) := by decide +kernel
theorem dX7_init_16 : decode cX7_init 16 = .ok (.new 7, 3) := by decide +kernel
theorem dX7_init_19 : decode cX7_init 19 = .ok (.dup, 1) := by decide +kernel
theorem dX7_init_20 : decode cX7_init 20 = .ok (.invokespecial 9, 3) := by decide +kernel
theorem dX7_init_23 : decode cX7_init 23 = .ok (.putfield 16, 3) := by decide +kernel
theorem dX7_init_26 : decode cX7_init 26 = .ok (.aload_n 0, 1) := by decide +kernel
theorem dX7_init_27 : decode cX7_init 27 = .ok (.new 19, 3) := by decide +kernel
theorem dX7_init_30 : decode cX7_init 30 = .ok (.dup, 1) := by decide +kernel
theorem dX7_init_31 : decode cX7_init 31 = .ok (.invokespecial 21, 3) := by decide +kernel
theorem dX7_init_34 : decode cX7_init 34 = .ok (.putfield 22, 3) := by decide +kernel
theorem dX7_init_37 : decode cX7_init 37 = .ok (.aload_n 0, 1) := by decide +kernel
theorem dX7_init_38 : decode cX7_init 38 = .ok (.new 26, 3) := by decide +kernel
theorem dX7_init_41 : decode cX7_init 41 = .ok (.dup, 1) := by decide +kernel
theorem dX7_init_42 : decode cX7_init 42 = .ok (.invokespecial 28, 3) := by decide +kernel
theorem dX7_init_45 : decode cX7_init 45 = .ok (.putfield 29, 3) := by decide +kernel
theorem dX7_init_48 : decode cX7_init 48 = .ok (.aload_n 0, 1) := by decide +kernel
theorem dX7_init_49 : decode cX7_init 49 = .ok (.new 33, 3) := by decide +kernel
theorem dX7_init_52 : decode cX7_init 52 = .ok (.dup, 1) := by decide +kernel
theorem dX7_init_53 : decode cX7_init 53 = .ok (.invokespecial 35, 3) := by decide +kernel
theorem dX7_init_56 : decode cX7_init 56 = .ok (.putfield 36, 3) := by decide +kernel
theorem dX7_init_59 : decode cX7_init 59 = .ok (.aload_n 0, 1) := by decide +kernel
theorem dX7_init_60 : decode cX7_init 60 = .ok (.new 40, 3) := by decide +kernel
theorem dX7_init_63 : decode cX7_init 63 = .ok (.dup, 1) := by decide +kernel
theorem dX7_init_64 : decode cX7_init 64 = .ok (.invokespecial 42, 3) := by decide +kernel
theorem dX7_init_67 : decode cX7_init 67 = .ok (.putfield 43, 3) := by decide +kernel
theorem dX7_init_70 : decode cX7_init 70 = .ok (.aload_n 0, 1) := by decide +kernel
theorem dX7_init_71 : decode cX7_init 71 = .ok (.bipush 100, 2) := by decide +kernel
theorem dX7_init_73 : decode cX7_init 73 = .ok (.newarray .int, 2) := by decide +kernel
theorem dX7_init_75 : decode cX7_init 75 = .ok (.putfield 47, 3) := by decide +kernel
theorem dX7_init_78 : decode cX7_init 78 = .ok (.aload_n 0, 1) := by decide +kernel
theorem dX7_init_79 : decode cX7_init 79 = .ok (.new 51, 3) := by decide +kernel
theorem dX7_init_82 : decode cX7_init 82 = .ok (.dup, 1) := by decide +kernel
theorem dX7_init_83 : decode cX7_init 83 = .ok (.invokespecial 53, 3) := by decide +kernel
theorem dX7_init_86 : decode cX7_init 86 = .ok (.putfield 54, 3) := by decide +kernel
theorem dX7_init_89 : decode cX7_init 89 = .ok (.aload_n 0, 1) := by decide +kernel
theorem dX7_init_90 : decode cX7_init 90 = .ok (.new 51, 3) := by decide +kernel
theorem dX7_init_93 : decode cX7_init 93 = .ok (.dup, 1) := by decide +kernel
theorem dX7_init_94 : decode cX7_init 94 = .ok (.invokespecial 53, 3) := by decide +kernel
theorem dX7_init_97 : decode cX7_init 97 = .ok (.putfield 58, 3) := by decide +kernel
theorem dX7_init_100 : decode cX7_init 100 = .ok (.aload_n 0, 1) := by decide +kernel
theorem dX7_init_101 : decode cX7_init 101 = .ok (.new 51, 3) := by decide +kernel
theorem dX7_init_104 : decode cX7_init 104 = .ok (.dup, 1) := by decide +kernel
theorem dX7_init_105 : decode cX7_init 105 = .ok (.invokespecial 53, 3) := by decide +kernel
theorem dX7_init_108 : decode cX7_init 108 = .ok (.putfield 61, 3) := by decide +kernel
theorem dX7_init_111 : decode cX7_init 111 = .ok (.iconst 0, 1) := by decide +kernel
theorem dX7_init_112 : decode cX7_init 112 = .ok (.istore_n 1, 1) := by decide +kernel
theorem dX7_init_113 : decode cX7_init 113 = .ok (.iload_n 1, 1) := by decide +kernel
theorem dX7_init_114 : decode cX7_init 114 = .ok (.ldc 64, 2) := by decide +kernel
theorem dX7_init_116 : decode cX7_init 116 = .ok (.invokevirtual 66, 3) := by decide +kernel
theorem dX7_init_119 : decode cX7_init 119 = .ok (.if_icmp .ge 23, 3) := by decide +kernel
theorem dX7_init_122 : decode cX7_init 122 = .ok (.aload_n 0, 1) := by decide +kernel
theorem dX7_init_123 : decode cX7_init 123 = .ok (.getfield 22, 3) := by decide +kernel
theorem dX7_init_126 : decode cX7_init 126 = .ok (.ldc 64, 2) := by decide +kernel
theorem dX7_init_128 : decode cX7_init 128 = .ok (.iload_n 1, 1) := by decide +kernel
theorem dX7_init_129 : decode cX7_init 129 = .ok (.invokevirtual 72, 3) := by decide +kernel
theorem dX7_init_132 : decode cX7_init 132 = .ok (.invokevirtual 76, 3) := by decide +kernel
theorem dX7_init_135 : decode cX7_init 135 = .ok (.pop, 1) := by decide +kernel
theorem dX7_init_136 : decode cX7_init 136 = .ok (.iinc 1 1, 3) := by decide +kernel
theorem dX7_init_139 : decode cX7_init 139 = .ok (.goto (-26), 3) := by decide +kernel
theorem dX7_init_142 : decode cX7_init 142 = .ok (.aload_n 0, 1) := by decide +kernel
theorem dX7_init_143 : decode cX7_init 143 = .ok (.getfield 22, 3) := by decide +kernel
theorem dX7_init_146 : decode cX7_init 146 = .ok (.invokevirtual 80, 3) := by decide +kernel
theorem dX7_init_149 : decode cX7_init 149 = .ok (.pop, 1) := by decide +kernel
theorem dX7_init_150 : decode cX7_init 150 = .ok (.aload_n 0, 1) := by decide +kernel
theorem dX7_init_151 : decode cX7_init 151 = .ok (.getfield 29, 3) := by decide +kernel
theorem dX7_init_154 : decode cX7_init 154 = .ok (.aload_n 0, 1) := by decide +kernel
theorem dX7_init_155 : decode cX7_init 155 = .ok (.getfield 22, 3) := by decide +kernel
theorem dX7_init_158 : decode cX7_init 158 = .ok (.invokevirtual 83, 3) := by decide +kernel
theorem dX7_init_161 : decode cX7_init 161 = .ok (.pop, 1) := by decide +kernel
theorem dX7_init_162 : decode cX7_init 162 = .ok (.return_, 1) := by decide +kernel
theorem dX7_set_0 : decode cX7_set 0 = .ok (.iload_n 1, 1) := by decide +kernel
theorem dX7_set_1 : decode cX7_set 1 = .ok (.ifCond .lt 29, 3) := by decide +kernel
theorem dX7_set_4 : decode cX7_set 4 = .ok (.iload_n 1, 1) := by decide +kernel
theorem dX7_set_5 : decode cX7_set 5 = .ok (.getstatic 87, 3) := by decide +kernel
theorem dX7_set_8 : decode cX7_set 8 = .ok (.arraylength, 1) := by decide +kernel
theorem dX7_set_9 : decode cX7_set 9 = .ok (.if_icmp .ge 21, 3) := by decide +kernel
theorem dX7_set_12 : decode cX7_set 12 = .ok (.iload_n 3, 1) := by decide +kernel
theorem dX7_set_13 : decode cX7_set 13 = .ok (.getstatic 87, 3) := by decide +kernel
theorem dX7_set_16 : decode cX7_set 16 = .ok (.iload_n 1, 1) := by decide +kernel
theorem dX7_set_17 : decode cX7_set 17 = .ok (.iaload, 1) := by decide +kernel
theorem dX7_set_18 : decode cX7_set 18 = .ok (.if_icmp .lt 12, 3) := by decide +kernel
theorem dX7_set_21 : decode cX7_set 21 = .ok (.iload_n 3, 1) := by decide +kernel
theorem dX7_set_22 : decode cX7_set 22 = .ok (.getstatic 90, 3) := by decide +kernel
theorem dX7_set_25 : decode cX7_set 25 = .ok (.iload_n 1, 1) := by decide +kernel
theorem dX7_set_26 : decode cX7_set 26 = .ok (.iaload, 1) := by decide +kernel
theorem dX7_set_27 : decode cX7_set 27 = .ok (.if_icmp .le 6, 3) := by decide +kernel
theorem dX7_set_30 : decode cX7_set 30 = .ok (.bipush (-100), 2) := by decide +kernel
theorem dX7_set_32 : decode cX7_set 32 = .ok (.ireturn, 1) := by decide +kernel
theorem dX7_set_33 : decode cX7_set 33 = .ok (.aload_n 0, 1) := by decide +kernel
theorem dX7_set_34 : decode cX7_set 34 = .ok (.iload_n 2, 1) := by decide +kernel
theorem dX7_set_35 : decode cX7_set 35 = .ok (.iload_n 1, 1) := by decide +kernel
theorem dX7_set_36 : decode cX7_set 36 = .ok (.invokevirtual 93, 3) := by decide +kernel
theorem dX7_set_39 : decode cX7_set 39 = .ok (.istore 4, 2) := by decide +kernel
theorem dX7_set_41 : decode cX7_set 41 = .ok (.iload 4, 2) := by decide +kernel
theorem dX7_set_43 : decode cX7_set 43 = .ok (.bipush (-100), 2) := by decide +kernel
theorem dX7_set_45 : decode cX7_set 45 = .ok (.if_icmp .ne 6, 3) := by decide +kernel
theorem dX7_set_48 : decode cX7_set 48 = .ok (.bipush (-100), 2) := by decide +kernel
theorem dX7_set_50 : decode cX7_set 50 = .ok (.ireturn, 1) := by decide +kernel
theorem dX7_set_51 : decode cX7_set 51 = .ok (.iload_n 1, 1) := by decide +kernel
theorem dX7_set_52 : decode cX7_set 52 = .ok (.tableswitch 112 0 5 #[40, 51, 62, 73, 86, 99], 40) := by decide +kernel
theorem dX7_set_92 : decode cX7_set 92 = .ok (.aload_n 0, 1) := by decide +kernel
theorem dX7_set_93 : decode cX7_set 93 = .ok (.getfield 10, 3) := by decide +kernel
theorem dX7_set_96 : decode cX7_set 96 = .ok (.iload_n 3, 1) := by decide +kernel
theorem dX7_set_97 : decode cX7_set 97 = .ok (.putfield 97, 3) := by decide +kernel
theorem dX7_set_100 : decode cX7_set 100 = .ok (.goto 74, 3) := by decide +kernel
theorem dX7_set_103 : decode cX7_set 103 = .ok (.aload_n 0, 1) := by decide +kernel
theorem dX7_set_104 : decode cX7_set 104 = .ok (.getfield 10, 3) := by decide +kernel
theorem dX7_set_107 : decode cX7_set 107 = .ok (.iload_n 3, 1) := by decide +kernel
theorem dX7_set_108 : decode cX7_set 108 = .ok (.putfield 101, 3) := by decide +kernel
theorem dX7_set_111 : decode cX7_set 111 = .ok (.goto 63, 3) := by decide +kernel
theorem dX7_set_114 : decode cX7_set 114 = .ok (.aload_n 0, 1) := by decide +kernel
theorem dX7_set_115 : decode cX7_set 115 = .ok (.getfield 10, 3) := by decide +kernel
theorem dX7_set_118 : decode cX7_set 118 = .ok (.iload_n 3, 1) := by decide +kernel
theorem dX7_set_119 : decode cX7_set 119 = .ok (.putfield 104, 3) := by decide +kernel
theorem dX7_set_122 : decode cX7_set 122 = .ok (.goto 52, 3) := by decide +kernel
theorem dX7_set_125 : decode cX7_set 125 = .ok (.aload_n 0, 1) := by decide +kernel
theorem dX7_set_126 : decode cX7_set 126 = .ok (.getfield 10, 3) := by decide +kernel
theorem dX7_set_129 : decode cX7_set 129 = .ok (.getfield 107, 3) := by decide +kernel
theorem dX7_set_132 : decode cX7_set 132 = .ok (.iload_n 2, 1) := by decide +kernel
theorem dX7_set_133 : decode cX7_set 133 = .ok (.iload_n 3, 1) := by decide +kernel
theorem dX7_set_134 : decode cX7_set 134 = .ok (.iastore, 1) := by decide +kernel
theorem dX7_set_135 : decode cX7_set 135 = .ok (.goto 39, 3) := by decide +kernel
theorem dX7_set_138 : decode cX7_set 138 = .ok (.aload_n 0, 1) := by decide +kernel
theorem dX7_set_139 : decode cX7_set 139 = .ok (.getfield 10, 3) := by decide +kernel
theorem dX7_set_142 : decode cX7_set 142 = .ok (.getfield 110, 3) := by decide +kernel
theorem dX7_set_145 : decode cX7_set 145 = .ok (.iload_n 2, 1) := by decide +kernel
theorem dX7_set_146 : decode cX7_set 146 = .ok (.iload_n 3, 1) := by decide +kernel
theorem dX7_set_147 : decode cX7_set 147 = .ok (.iastore, 1) := by decide +kernel
theorem dX7_set_148 : decode cX7_set 148 = .ok (.goto 26, 3) := by decide +kernel
theorem dX7_set_151 : decode cX7_set 151 = .ok (.aload_n 0, 1) := by decide +kernel
theorem dX7_set_152 : decode cX7_set 152 = .ok (.getfield 10, 3) := by decide +kernel
theorem dX7_set_155 : decode cX7_set 155 = .ok (.getfield 113, 3) := by decide +kernel
theorem dX7_set_158 : decode cX7_set 158 = .ok (.iload_n 2, 1) := by decide +kernel
theorem dX7_set_159 : decode cX7_set 159 = .ok (.iload_n 3, 1) := by decide +kernel
theorem dX7_set_160 : decode cX7_set 160 = .ok (.iastore, 1) := by decide +kernel
theorem dX7_set_161 : decode cX7_set 161 = .ok (.goto 13, 3) := by decide +kernel
theorem dX7_set_164 : decode cX7_set 164 = .ok (.aload_n 0, 1) := by decide +kernel
theorem dX7_set_165 : decode cX7_set 165 = .ok (.getfield 10, 3) := by decide +kernel
theorem dX7_set_168 : decode cX7_set 168 = .ok (.getfield 116, 3) := by decide +kernel
theorem dX7_set_171 : decode cX7_set 171 = .ok (.iload_n 2, 1) := by decide +kernel
theorem dX7_set_172 : decode cX7_set 172 = .ok (.iload_n 3, 1) := by decide +kernel
theorem dX7_set_173 : decode cX7_set 173 = .ok (.iastore, 1) := by decide +kernel
theorem dX7_set_174 : decode cX7_set 174 = .ok (.iload 4, 2) := by decide +kernel
theorem dX7_set_176 : decode cX7_set 176 = .ok (.ireturn, 1) := by decide +kernel
theorem dX7_make_0 : decode cX7_make 0 = .ok (.iload_n 1, 1) := by decide +kernel
theorem dX7_make_1 : decode cX7_make 1 = .ok (.ifCond .lt 41, 3) := by decide +kernel
theorem dX7_make_4 : decode cX7_make 4 = .ok (.iload_n 1, 1) := by decide +kernel
theorem dX7_make_5 : decode cX7_make 5 = .ok (.bipush 6, 2) := by decide +kernel
theorem dX7_make_7 : decode cX7_make 7 = .ok (.if_icmp .ge 35, 3) := by decide +kernel
theorem dX7_make_10 : decode cX7_make 10 = .ok (.iload_n 2, 1) := by decide +kernel
theorem dX7_make_11 : decode cX7_make 11 = .ok (.ifCond .lt 31, 3) := by decide +kernel
theorem dX7_make_14 : decode cX7_make 14 = .ok (.iload_n 2, 1) := by decide +kernel
theorem dX7_make_15 : decode cX7_make 15 = .ok (.bipush 100, 2) := by decide +kernel
theorem dX7_make_17 : decode cX7_make 17 = .ok (.idiv, 1) := by decide +kernel
theorem dX7_make_18 : decode cX7_make 18 = .ok (.bipush 9, 2) := by decide +kernel
theorem dX7_make_20 : decode cX7_make 20 = .ok (.if_icmp .gt 22, 3) := by decide +kernel
theorem dX7_make_23 : decode cX7_make 23 = .ok (.iload_n 2, 1) := by decide +kernel
theorem dX7_make_24 : decode cX7_make 24 = .ok (.bipush 100, 2) := by decide +kernel
theorem dX7_make_26 : decode cX7_make 26 = .ok (.irem, 1) := by decide +kernel
theorem dX7_make_27 : decode cX7_make 27 = .ok (.bipush 18, 2) := by decide +kernel
theorem dX7_make_29 : decode cX7_make 29 = .ok (.if_icmp .gt 13, 3) := by decide +kernel
theorem dX7_make_32 : decode cX7_make 32 = .ok (.iload_n 3, 1) := by decide +kernel
theorem dX7_make_33 : decode cX7_make 33 = .ok (.ifCond .lt 9, 3) := by decide +kernel
theorem dX7_make_36 : decode cX7_make 36 = .ok (.iload_n 3, 1) := by decide +kernel
theorem dX7_make_37 : decode cX7_make 37 = .ok (.ldc 119, 2) := by decide +kernel
theorem dX7_make_39 : decode cX7_make 39 = .ok (.if_icmp .le 6, 3) := by decide +kernel
theorem dX7_make_42 : decode cX7_make 42 = .ok (.bipush (-2), 2) := by decide +kernel
theorem dX7_make_44 : decode cX7_make 44 = .ok (.ireturn, 1) := by decide +kernel
theorem dX7_make_45 : decode cX7_make 45 = .ok (.aload_n 0, 1) := by decide +kernel
theorem dX7_make_46 : decode cX7_make 46 = .ok (.getfield 10, 3) := by decide +kernel
theorem dX7_make_49 : decode cX7_make 49 = .ok (.getfield 120, 3) := by decide +kernel
theorem dX7_make_52 : decode cX7_make 52 = .ok (.iconst 5, 1) := by decide +kernel
theorem dX7_make_53 : decode cX7_make 53 = .ok (.if_icmp .lt 6, 3) := by decide +kernel
theorem dX7_make_56 : decode cX7_make 56 = .ok (.bipush (-4), 2) := by decide +kernel
theorem dX7_make_58 : decode cX7_make 58 = .ok (.ireturn, 1) := by decide +kernel
theorem dX7_make_59 : decode cX7_make 59 = .ok (.aload_n 0, 1) := by decide +kernel
theorem dX7_make_60 : decode cX7_make 60 = .ok (.getfield 10, 3) := by decide +kernel
theorem dX7_make_63 : decode cX7_make 63 = .ok (.getfield 120, 3) := by decide +kernel
theorem dX7_make_66 : decode cX7_make 66 = .ok (.istore 4, 2) := by decide +kernel
theorem dX7_make_68 : decode cX7_make 68 = .ok (.aload_n 0, 1) := by decide +kernel
theorem dX7_make_69 : decode cX7_make 69 = .ok (.getfield 10, 3) := by decide +kernel
theorem dX7_make_72 : decode cX7_make 72 = .ok (.getfield 123, 3) := by decide +kernel
theorem dX7_make_75 : decode cX7_make 75 = .ok (.iload 4, 2) := by decide +kernel
theorem dX7_make_77 : decode cX7_make 77 = .ok (.iload_n 1, 1) := by decide +kernel
theorem dX7_make_78 : decode cX7_make 78 = .ok (.iastore, 1) := by decide +kernel
theorem dX7_make_79 : decode cX7_make 79 = .ok (.aload_n 0, 1) := by decide +kernel
theorem dX7_make_80 : decode cX7_make 80 = .ok (.getfield 10, 3) := by decide +kernel
theorem dX7_make_83 : decode cX7_make 83 = .ok (.getfield 110, 3) := by decide +kernel
theorem dX7_make_86 : decode cX7_make 86 = .ok (.iload 4, 2) := by decide +kernel
theorem dX7_make_88 : decode cX7_make 88 = .ok (.iload_n 2, 1) := by decide +kernel
theorem dX7_make_89 : decode cX7_make 89 = .ok (.bipush 100, 2) := by decide +kernel
theorem dX7_make_91 : decode cX7_make 91 = .ok (.idiv, 1) := by decide +kernel
theorem dX7_make_92 : decode cX7_make 92 = .ok (.iastore, 1) := by decide +kernel
theorem dX7_make_93 : decode cX7_make 93 = .ok (.aload_n 0, 1) := by decide +kernel
theorem dX7_make_94 : decode cX7_make 94 = .ok (.getfield 10, 3) := by decide +kernel
theorem dX7_make_97 : decode cX7_make 97 = .ok (.getfield 113, 3) := by decide +kernel
theorem dX7_make_100 : decode cX7_make 100 = .ok (.iload 4, 2) := by decide +kernel
theorem dX7_make_102 : decode cX7_make 102 = .ok (.iload_n 2, 1) := by decide +kernel
theorem dX7_make_103 : decode cX7_make 103 = .ok (.bipush 100, 2) := by decide +kernel
theorem dX7_make_105 : decode cX7_make 105 = .ok (.irem, 1) := by decide +kernel
theorem dX7_make_106 : decode cX7_make 106 = .ok (.bipush 9, 2) := by decide +kernel
theorem dX7_make_108 : decode cX7_make 108 = .ok (.isub, 1) := by decide +kernel
theorem dX7_make_109 : decode cX7_make 109 = .ok (.iastore, 1) := by decide +kernel
theorem dX7_make_110 : decode cX7_make 110 = .ok (.aload_n 0, 1) := by decide +kernel
theorem dX7_make_111 : decode cX7_make 111 = .ok (.getfield 10, 3) := by decide +kernel
theorem dX7_make_114 : decode cX7_make 114 = .ok (.getfield 116, 3) := by decide +kernel
theorem dX7_make_117 : decode cX7_make 117 = .ok (.iload 4, 2) := by decide +kernel
theorem dX7_make_119 : decode cX7_make 119 = .ok (.iload_n 3, 1) := by decide +kernel
theorem dX7_make_120 : decode cX7_make 120 = .ok (.iastore, 1) := by decide +kernel
theorem dX7_make_121 : decode cX7_make 121 = .ok (.aload_n 0, 1) := by decide +kernel
theorem dX7_make_122 : decode cX7_make 122 = .ok (.getfield 10, 3) := by decide +kernel
theorem dX7_make_125 : decode cX7_make 125 = .ok (.iload 4, 2) := by decide +kernel
theorem dX7_make_127 : decode cX7_make 127 = .ok (.iconst 1, 1) := by decide +kernel
theorem dX7_make_128 : decode cX7_make 128 = .ok (.iadd, 1) := by decide +kernel
theorem dX7_make_129 : decode cX7_make 129 = .ok (.putfield 120, 3) := by decide +kernel
theorem dX7_make_132 : decode cX7_make 132 = .ok (.iload 4, 2) := by decide +kernel
theorem dX7_make_134 : decode cX7_make 134 = .ok (.ireturn, 1) := by decide +kernel
theorem dX7_told_0 : decode cX7_told 0 = .ok (.iload_n 2, 1) := by decide +kernel
theorem dX7_told_1 : decode cX7_told 1 = .ok (.tableswitch 217 0 9 #[55, 63, 71, 79, 101, 127, 153, 179, 205, 211], 55) := by decide +kernel
theorem dX7_told_56 : decode cX7_told 56 = .ok (.aload_n 0, 1) := by decide +kernel
theorem dX7_told_57 : decode cX7_told 57 = .ok (.getfield 10, 3) := by decide +kernel
theorem dX7_told_60 : decode cX7_told 60 = .ok (.getfield 97, 3) := by decide +kernel
theorem dX7_told_63 : decode cX7_told 63 = .ok (.ireturn, 1) := by decide +kernel
theorem dX7_told_64 : decode cX7_told 64 = .ok (.aload_n 0, 1) := by decide +kernel
theorem dX7_told_65 : decode cX7_told 65 = .ok (.getfield 10, 3) := by decide +kernel
theorem dX7_told_68 : decode cX7_told 68 = .ok (.getfield 101, 3) := by decide +kernel
theorem dX7_told_71 : decode cX7_told 71 = .ok (.ireturn, 1) := by decide +kernel
theorem dX7_told_72 : decode cX7_told 72 = .ok (.aload_n 0, 1) := by decide +kernel
theorem dX7_told_73 : decode cX7_told 73 = .ok (.getfield 10, 3) := by decide +kernel
theorem dX7_told_76 : decode cX7_told 76 = .ok (.getfield 104, 3) := by decide +kernel
theorem dX7_told_79 : decode cX7_told 79 = .ok (.ireturn, 1) := by decide +kernel
theorem dX7_told_80 : decode cX7_told 80 = .ok (.iload_n 1, 1) := by decide +kernel
theorem dX7_told_81 : decode cX7_told 81 = .ok (.invokestatic 126, 3) := by decide +kernel
theorem dX7_told_84 : decode cX7_told 84 = .ok (.ifCond .eq 15, 3) := by decide +kernel
theorem dX7_told_87 : decode cX7_told 87 = .ok (.aload_n 0, 1) := by decide +kernel
theorem dX7_told_88 : decode cX7_told 88 = .ok (.getfield 10, 3) := by decide +kernel
theorem dX7_told_91 : decode cX7_told 91 = .ok (.getfield 107, 3) := by decide +kernel
theorem dX7_told_94 : decode cX7_told 94 = .ok (.iload_n 1, 1) := by decide +kernel
theorem dX7_told_95 : decode cX7_told 95 = .ok (.iaload, 1) := by decide +kernel
theorem dX7_told_96 : decode cX7_told 96 = .ok (.goto 5, 3) := by decide +kernel
theorem dX7_told_99 : decode cX7_told 99 = .ok (.bipush (-100), 2) := by decide +kernel
theorem dX7_told_101 : decode cX7_told 101 = .ok (.ireturn, 1) := by decide +kernel
theorem dX7_told_102 : decode cX7_told 102 = .ok (.aload_n 0, 1) := by decide +kernel
theorem dX7_told_103 : decode cX7_told 103 = .ok (.getfield 10, 3) := by decide +kernel
theorem dX7_told_106 : decode cX7_told 106 = .ok (.iload_n 1, 1) := by decide +kernel
theorem dX7_told_107 : decode cX7_told 107 = .ok (.invokevirtual 130, 3) := by decide +kernel
theorem dX7_told_110 : decode cX7_told 110 = .ok (.ifCond .eq 15, 3) := by decide +kernel
theorem dX7_told_113 : decode cX7_told 113 = .ok (.aload_n 0, 1) := by decide +kernel
theorem dX7_told_114 : decode cX7_told 114 = .ok (.getfield 10, 3) := by decide +kernel
theorem dX7_told_117 : decode cX7_told 117 = .ok (.getfield 110, 3) := by decide +kernel
theorem dX7_told_120 : decode cX7_told 120 = .ok (.iload_n 1, 1) := by decide +kernel
theorem dX7_told_121 : decode cX7_told 121 = .ok (.iaload, 1) := by decide +kernel
theorem dX7_told_122 : decode cX7_told 122 = .ok (.goto 5, 3) := by decide +kernel
theorem dX7_told_125 : decode cX7_told 125 = .ok (.bipush (-100), 2) := by decide +kernel
theorem dX7_told_127 : decode cX7_told 127 = .ok (.ireturn, 1) := by decide +kernel
theorem dX7_told_128 : decode cX7_told 128 = .ok (.aload_n 0, 1) := by decide +kernel
theorem dX7_told_129 : decode cX7_told 129 = .ok (.getfield 10, 3) := by decide +kernel
theorem dX7_told_132 : decode cX7_told 132 = .ok (.iload_n 1, 1) := by decide +kernel
theorem dX7_told_133 : decode cX7_told 133 = .ok (.invokevirtual 130, 3) := by decide +kernel
theorem dX7_told_136 : decode cX7_told 136 = .ok (.ifCond .eq 15, 3) := by decide +kernel
theorem dX7_told_139 : decode cX7_told 139 = .ok (.aload_n 0, 1) := by decide +kernel
theorem dX7_told_140 : decode cX7_told 140 = .ok (.getfield 10, 3) := by decide +kernel
theorem dX7_told_143 : decode cX7_told 143 = .ok (.getfield 113, 3) := by decide +kernel
theorem dX7_told_146 : decode cX7_told 146 = .ok (.iload_n 1, 1) := by decide +kernel
theorem dX7_told_147 : decode cX7_told 147 = .ok (.iaload, 1) := by decide +kernel
theorem dX7_told_148 : decode cX7_told 148 = .ok (.goto 5, 3) := by decide +kernel
theorem dX7_told_151 : decode cX7_told 151 = .ok (.bipush (-100), 2) := by decide +kernel
theorem dX7_told_153 : decode cX7_told 153 = .ok (.ireturn, 1) := by decide +kernel
theorem dX7_told_154 : decode cX7_told 154 = .ok (.aload_n 0, 1) := by decide +kernel
theorem dX7_told_155 : decode cX7_told 155 = .ok (.getfield 10, 3) := by decide +kernel
theorem dX7_told_158 : decode cX7_told 158 = .ok (.iload_n 1, 1) := by decide +kernel
theorem dX7_told_159 : decode cX7_told 159 = .ok (.invokevirtual 130, 3) := by decide +kernel
theorem dX7_told_162 : decode cX7_told 162 = .ok (.ifCond .eq 15, 3) := by decide +kernel
theorem dX7_told_165 : decode cX7_told 165 = .ok (.aload_n 0, 1) := by decide +kernel
theorem dX7_told_166 : decode cX7_told 166 = .ok (.getfield 10, 3) := by decide +kernel
theorem dX7_told_169 : decode cX7_told 169 = .ok (.getfield 116, 3) := by decide +kernel
theorem dX7_told_172 : decode cX7_told 172 = .ok (.iload_n 1, 1) := by decide +kernel
theorem dX7_told_173 : decode cX7_told 173 = .ok (.iaload, 1) := by decide +kernel
theorem dX7_told_174 : decode cX7_told 174 = .ok (.goto 5, 3) := by decide +kernel
theorem dX7_told_177 : decode cX7_told 177 = .ok (.bipush (-100), 2) := by decide +kernel
theorem dX7_told_179 : decode cX7_told 179 = .ok (.ireturn, 1) := by decide +kernel
theorem dX7_told_180 : decode cX7_told 180 = .ok (.aload_n 0, 1) := by decide +kernel
theorem dX7_told_181 : decode cX7_told 181 = .ok (.getfield 10, 3) := by decide +kernel
theorem dX7_told_184 : decode cX7_told 184 = .ok (.iload_n 1, 1) := by decide +kernel
theorem dX7_told_185 : decode cX7_told 185 = .ok (.invokevirtual 130, 3) := by decide +kernel
theorem dX7_told_188 : decode cX7_told 188 = .ok (.ifCond .eq 15, 3) := by decide +kernel
theorem dX7_told_191 : decode cX7_told 191 = .ok (.aload_n 0, 1) := by decide +kernel
theorem dX7_told_192 : decode cX7_told 192 = .ok (.getfield 10, 3) := by decide +kernel
theorem dX7_told_195 : decode cX7_told 195 = .ok (.getfield 123, 3) := by decide +kernel
theorem dX7_told_198 : decode cX7_told 198 = .ok (.iload_n 1, 1) := by decide +kernel
theorem dX7_told_199 : decode cX7_told 199 = .ok (.iaload, 1) := by decide +kernel
theorem dX7_told_200 : decode cX7_told 200 = .ok (.goto 5, 3) := by decide +kernel
theorem dX7_told_203 : decode cX7_told 203 = .ok (.bipush (-100), 2) := by decide +kernel
theorem dX7_told_205 : decode cX7_told 205 = .ok (.ireturn, 1) := by decide +kernel
theorem dX7_told_206 : decode cX7_told 206 = .ok (.aload_n 0, 1) := by decide +kernel
theorem dX7_told_207 : decode cX7_told 207 = .ok (.iconst 0, 1) := by decide +kernel
theorem dX7_told_208 : decode cX7_told 208 = .ok (.invokevirtual 133, 3) := by decide +kernel
theorem dX7_told_211 : decode cX7_told 211 = .ok (.ireturn, 1) := by decide +kernel
theorem dX7_told_212 : decode cX7_told 212 = .ok (.aload_n 0, 1) := by decide +kernel
theorem dX7_told_213 : decode cX7_told 213 = .ok (.iconst 1, 1) := by decide +kernel
theorem dX7_told_214 : decode cX7_told 214 = .ok (.invokevirtual 133, 3) := by decide +kernel
theorem dX7_told_217 : decode cX7_told 217 = .ok (.ireturn, 1) := by decide +kernel
theorem dX7_told_218 : decode cX7_told 218 = .ok (.bipush (-100), 2) := by decide +kernel
theorem dX7_told_220 : decode cX7_told 220 = .ok (.ireturn, 1) := by decide +kernel
theorem dX7_fit_0 : decode cX7_fit 0 = .ok (.aload_n 0, 1) := by decide +kernel
theorem dX7_fit_1 : decode cX7_fit 1 = .ok (.getfield 10, 3) := by decide +kernel
theorem dX7_fit_4 : decode cX7_fit 4 = .ok (.iload_n 1, 1) := by decide +kernel
theorem dX7_fit_5 : decode cX7_fit 5 = .ok (.invokevirtual 136, 3) := by decide +kernel
theorem dX7_fit_8 : decode cX7_fit 8 = .ok (.ifCond .eq 15, 3) := by decide +kernel
theorem dX7_fit_11 : decode cX7_fit 11 = .ok (.iload_n 2, 1) := by decide +kernel
theorem dX7_fit_12 : decode cX7_fit 12 = .ok (.iconst (-1), 1) := by decide +kernel
theorem dX7_fit_13 : decode cX7_fit 13 = .ok (.if_icmp .eq 14, 3) := by decide +kernel
theorem dX7_fit_16 : decode cX7_fit 16 = .ok (.iload_n 2, 1) := by decide +kernel
theorem dX7_fit_17 : decode cX7_fit 17 = .ok (.invokestatic 126, 3) := by decide +kernel
theorem dX7_fit_20 : decode cX7_fit 20 = .ok (.ifCond .ne 7, 3) := by decide +kernel
theorem dX7_fit_23 : decode cX7_fit 23 = .ok (.sipush (-1000), 3) := by decide +kernel
theorem dX7_fit_26 : decode cX7_fit 26 = .ok (.ireturn, 1) := by decide +kernel
theorem dX7_fit_27 : decode cX7_fit 27 = .ok (.iload_n 2, 1) := by decide +kernel
theorem dX7_fit_28 : decode cX7_fit 28 = .ok (.iconst (-1), 1) := by decide +kernel
theorem dX7_fit_29 : decode cX7_fit 29 = .ok (.if_icmp .ne 14, 3) := by decide +kernel
theorem dX7_fit_32 : decode cX7_fit 32 = .ok (.aload_n 0, 1) := by decide +kernel
theorem dX7_fit_33 : decode cX7_fit 33 = .ok (.getfield 10, 3) := by decide +kernel
theorem dX7_fit_36 : decode cX7_fit 36 = .ok (.iload_n 1, 1) := by decide +kernel
theorem dX7_fit_37 : decode cX7_fit 37 = .ok (.invokevirtual 139, 3) := by decide +kernel
theorem dX7_fit_40 : decode cX7_fit 40 = .ok (.goto 12, 3) := by decide +kernel
theorem dX7_fit_43 : decode cX7_fit 43 = .ok (.aload_n 0, 1) := by decide +kernel
theorem dX7_fit_44 : decode cX7_fit 44 = .ok (.getfield 10, 3) := by decide +kernel
theorem dX7_fit_47 : decode cX7_fit 47 = .ok (.iload_n 1, 1) := by decide +kernel
theorem dX7_fit_48 : decode cX7_fit 48 = .ok (.iload_n 2, 1) := by decide +kernel
theorem dX7_fit_49 : decode cX7_fit 49 = .ok (.invokevirtual 142, 3) := by decide +kernel
theorem dX7_fit_52 : decode cX7_fit 52 = .ok (.ireturn, 1) := by decide +kernel
theorem dX7_feed_0 : decode cX7_feed 0 = .ok (.iload_n 1, 1) := by decide +kernel
theorem dX7_feed_1 : decode cX7_feed 1 = .ok (.ifCond .lt 10, 3) := by decide +kernel
theorem dX7_feed_4 : decode cX7_feed 4 = .ok (.iload_n 1, 1) := by decide +kernel
theorem dX7_feed_5 : decode cX7_feed 5 = .ok (.sipush 255, 3) := by decide +kernel
theorem dX7_feed_8 : decode cX7_feed 8 = .ok (.if_icmp .le 6, 3) := by decide +kernel
theorem dX7_feed_11 : decode cX7_feed 11 = .ok (.bipush (-2), 2) := by decide +kernel
theorem dX7_feed_13 : decode cX7_feed 13 = .ok (.ireturn, 1) := by decide +kernel
theorem dX7_feed_14 : decode cX7_feed 14 = .ok (.aload_n 0, 1) := by decide +kernel
theorem dX7_feed_15 : decode cX7_feed 15 = .ok (.getfield 22, 3) := by decide +kernel
theorem dX7_feed_18 : decode cX7_feed 18 = .ok (.invokevirtual 145, 3) := by decide +kernel
theorem dX7_feed_21 : decode cX7_feed 21 = .ok (.ifCond .eq 6, 3) := by decide +kernel
theorem dX7_feed_24 : decode cX7_feed 24 = .ok (.bipush (-4), 2) := by decide +kernel
theorem dX7_feed_26 : decode cX7_feed 26 = .ok (.ireturn, 1) := by decide +kernel
theorem dX7_feed_27 : decode cX7_feed 27 = .ok (.aload_n 0, 1) := by decide +kernel
theorem dX7_feed_28 : decode cX7_feed 28 = .ok (.getfield 22, 3) := by decide +kernel
theorem dX7_feed_31 : decode cX7_feed 31 = .ok (.iload_n 1, 1) := by decide +kernel
theorem dX7_feed_32 : decode cX7_feed 32 = .ok (.invokevirtual 76, 3) := by decide +kernel
theorem dX7_feed_35 : decode cX7_feed 35 = .ok (.ireturn, 1) := by decide +kernel
theorem dX7_text_0 : decode cX7_text 0 = .ok (.aload_n 0, 1) := by decide +kernel
theorem dX7_text_1 : decode cX7_text 1 = .ok (.getfield 29, 3) := by decide +kernel
theorem dX7_text_4 : decode cX7_text 4 = .ok (.getfield 149, 3) := by decide +kernel
theorem dX7_text_7 : decode cX7_text 7 = .ok (.bipush 6, 2) := by decide +kernel
theorem dX7_text_9 : decode cX7_text 9 = .ok (.if_icmp .lt 6, 3) := by decide +kernel
theorem dX7_text_12 : decode cX7_text 12 = .ok (.bipush (-4), 2) := by decide +kernel
theorem dX7_text_14 : decode cX7_text 14 = .ok (.ireturn, 1) := by decide +kernel
theorem dX7_text_15 : decode cX7_text 15 = .ok (.aload_n 0, 1) := by decide +kernel
theorem dX7_text_16 : decode cX7_text 16 = .ok (.getfield 22, 3) := by decide +kernel
theorem dX7_text_19 : decode cX7_text 19 = .ok (.invokevirtual 80, 3) := by decide +kernel
theorem dX7_text_22 : decode cX7_text 22 = .ok (.istore_n 1, 1) := by decide +kernel
theorem dX7_text_23 : decode cX7_text 23 = .ok (.iload_n 1, 1) := by decide +kernel
theorem dX7_text_24 : decode cX7_text 24 = .ok (.iconst (-1), 1) := by decide +kernel
theorem dX7_text_25 : decode cX7_text 25 = .ok (.if_icmp .ne 17, 3) := by decide +kernel
theorem dX7_text_28 : decode cX7_text 28 = .ok (.aload_n 0, 1) := by decide +kernel
theorem dX7_text_29 : decode cX7_text 29 = .ok (.getfield 29, 3) := by decide +kernel
theorem dX7_text_32 : decode cX7_text 32 = .ok (.aload_n 0, 1) := by decide +kernel
theorem dX7_text_33 : decode cX7_text 33 = .ok (.getfield 22, 3) := by decide +kernel
theorem dX7_text_36 : decode cX7_text 36 = .ok (.invokevirtual 83, 3) := by decide +kernel
theorem dX7_text_39 : decode cX7_text 39 = .ok (.goto 7, 3) := by decide +kernel
theorem dX7_text_42 : decode cX7_text 42 = .ok (.bipush (-100), 2) := by decide +kernel
theorem dX7_text_44 : decode cX7_text 44 = .ok (.iload_n 1, 1) := by decide +kernel
theorem dX7_text_45 : decode cX7_text 45 = .ok (.isub, 1) := by decide +kernel
theorem dX7_text_46 : decode cX7_text 46 = .ok (.ireturn, 1) := by decide +kernel
theorem dX7_force_0 : decode cX7_force 0 = .ok (.iload_n 1, 1) := by decide +kernel
theorem dX7_force_1 : decode cX7_force 1 = .ok (.ifCond .lt 14, 3) := by decide +kernel
theorem dX7_force_4 : decode cX7_force 4 = .ok (.iload_n 1, 1) := by decide +kernel
theorem dX7_force_5 : decode cX7_force 5 = .ok (.aload_n 0, 1) := by decide +kernel
theorem dX7_force_6 : decode cX7_force 6 = .ok (.getfield 29, 3) := by decide +kernel
theorem dX7_force_9 : decode cX7_force 9 = .ok (.getfield 149, 3) := by decide +kernel
theorem dX7_force_12 : decode cX7_force 12 = .ok (.if_icmp .lt 6, 3) := by decide +kernel
theorem dX7_force_15 : decode cX7_force 15 = .ok (.bipush (-2), 2) := by decide +kernel
theorem dX7_force_17 : decode cX7_force 17 = .ok (.ireturn, 1) := by decide +kernel
theorem dX7_force_18 : decode cX7_force 18 = .ok (.aload_n 0, 1) := by decide +kernel
theorem dX7_force_19 : decode cX7_force 19 = .ok (.getfield 10, 3) := by decide +kernel
theorem dX7_force_22 : decode cX7_force 22 = .ok (.getfield 152, 3) := by decide +kernel
theorem dX7_force_25 : decode cX7_force 25 = .ok (.istore_n 2, 1) := by decide +kernel
theorem dX7_force_26 : decode cX7_force 26 = .ok (.aload_n 0, 1) := by decide +kernel
theorem dX7_force_27 : decode cX7_force 27 = .ok (.getfield 10, 3) := by decide +kernel
theorem dX7_force_30 : decode cX7_force 30 = .ok (.iload_n 1, 1) := by decide +kernel
theorem dX7_force_31 : decode cX7_force 31 = .ok (.putfield 152, 3) := by decide +kernel
theorem dX7_force_34 : decode cX7_force 34 = .ok (.iload_n 2, 1) := by decide +kernel
theorem dX7_force_35 : decode cX7_force 35 = .ok (.ireturn, 1) := by decide +kernel
theorem dX7_footNow_0 : decode cX7_footNow 0 = .ok (.aload_n 0, 1) := by decide +kernel
theorem dX7_footNow_1 : decode cX7_footNow 1 = .ok (.getfield 29, 3) := by decide +kernel
theorem dX7_footNow_4 : decode cX7_footNow 4 = .ok (.iconst 0, 1) := by decide +kernel
theorem dX7_footNow_5 : decode cX7_footNow 5 = .ok (.iconst 0, 1) := by decide +kernel
theorem dX7_footNow_6 : decode cX7_footNow 6 = .ok (.iconst 0, 1) := by decide +kernel
theorem dX7_footNow_7 : decode cX7_footNow 7 = .ok (.iconst 0, 1) := by decide +kernel
theorem dX7_footNow_8 : decode cX7_footNow 8 = .ok (.iload_n 1, 1) := by decide +kernel
theorem dX7_footNow_9 : decode cX7_footNow 9 = .ok (.aload_n 0, 1) := by decide +kernel
theorem dX7_footNow_10 : decode cX7_footNow 10 = .ok (.getfield 10, 3) := by decide +kernel
theorem dX7_footNow_13 : decode cX7_footNow 13 = .ok (.getfield 104, 3) := by decide +kernel
theorem dX7_footNow_16 : decode cX7_footNow 16 = .ok (.invokevirtual 155, 3) := by decide +kernel
theorem dX7_footNow_19 : decode cX7_footNow 19 = .ok (.aload_n 0, 1) := by decide +kernel
theorem dX7_footNow_20 : decode cX7_footNow 20 = .ok (.getfield 29, 3) := by decide +kernel
theorem dX7_footNow_23 : decode cX7_footNow 23 = .ok (.aload_n 0, 1) := by decide +kernel
theorem dX7_footNow_24 : decode cX7_footNow 24 = .ok (.getfield 10, 3) := by decide +kernel
theorem dX7_footNow_27 : decode cX7_footNow 27 = .ok (.getfield 152, 3) := by decide +kernel
theorem dX7_footNow_30 : decode cX7_footNow 30 = .ok (.iconst 0, 1) := by decide +kernel
theorem dX7_footNow_31 : decode cX7_footNow 31 = .ok (.invokevirtual 159, 3) := by decide +kernel
theorem dX7_footNow_34 : decode cX7_footNow 34 = .ok (.bipush 20, 2) := by decide +kernel
theorem dX7_footNow_36 : decode cX7_footNow 36 = .ok (.invokestatic 162, 3) := by decide +kernel
theorem dX7_footNow_39 : decode cX7_footNow 39 = .ok (.istore_n 2, 1) := by decide +kernel
theorem dX7_footNow_40 : decode cX7_footNow 40 = .ok (.bipush 99, 2) := by decide +kernel
theorem dX7_footNow_42 : decode cX7_footNow 42 = .ok (.iload_n 1, 1) := by decide +kernel
theorem dX7_footNow_43 : decode cX7_footNow 43 = .ok (.ifCond .ne 13, 3) := by decide +kernel
theorem dX7_footNow_46 : decode cX7_footNow 46 = .ok (.aload_n 0, 1) := by decide +kernel
theorem dX7_footNow_47 : decode cX7_footNow 47 = .ok (.getfield 10, 3) := by decide +kernel
theorem dX7_footNow_50 : decode cX7_footNow 50 = .ok (.getfield 97, 3) := by decide +kernel
theorem dX7_footNow_53 : decode cX7_footNow 53 = .ok (.goto 10, 3) := by decide +kernel
theorem dX7_footNow_56 : decode cX7_footNow 56 = .ok (.aload_n 0, 1) := by decide +kernel
theorem dX7_footNow_57 : decode cX7_footNow 57 = .ok (.getfield 10, 3) := by decide +kernel
theorem dX7_footNow_60 : decode cX7_footNow 60 = .ok (.getfield 101, 3) := by decide +kernel
theorem dX7_footNow_63 : decode cX7_footNow 63 = .ok (.iload_n 2, 1) := by decide +kernel
theorem dX7_footNow_64 : decode cX7_footNow 64 = .ok (.iadd, 1) := by decide +kernel
theorem dX7_footNow_65 : decode cX7_footNow 65 = .ok (.invokestatic 165, 3) := by decide +kernel
theorem dX7_footNow_68 : decode cX7_footNow 68 = .ok (.ireturn, 1) := by decide +kernel
theorem dX7_rubbing_0 : decode cX7_rubbing 0 = .ok (.iload_n 1, 1) := by decide +kernel
theorem dX7_rubbing_1 : decode cX7_rubbing 1 = .ok (.bipush 20, 2) := by decide +kernel
theorem dX7_rubbing_3 : decode cX7_rubbing 3 = .ok (.idiv, 1) := by decide +kernel
theorem dX7_rubbing_4 : decode cX7_rubbing 4 = .ok (.istore 4, 2) := by decide +kernel
theorem dX7_rubbing_6 : decode cX7_rubbing 6 = .ok (.aload_n 0, 1) := by decide +kernel
theorem dX7_rubbing_7 : decode cX7_rubbing 7 = .ok (.getfield 10, 3) := by decide +kernel
theorem dX7_rubbing_10 : decode cX7_rubbing 10 = .ok (.iload_n 1, 1) := by decide +kernel
theorem dX7_rubbing_11 : decode cX7_rubbing 11 = .ok (.invokevirtual 139, 3) := by decide +kernel
theorem dX7_rubbing_14 : decode cX7_rubbing 14 = .ok (.iload_n 3, 1) := by decide +kernel
theorem dX7_rubbing_15 : decode cX7_rubbing 15 = .ok (.isub, 1) := by decide +kernel
theorem dX7_rubbing_16 : decode cX7_rubbing 16 = .ok (.invokestatic 170, 3) := by decide +kernel
theorem dX7_rubbing_19 : decode cX7_rubbing 19 = .ok (.istore 5, 2) := by decide +kernel
theorem dX7_rubbing_21 : decode cX7_rubbing 21 = .ok (.aload_n 0, 1) := by decide +kernel
theorem dX7_rubbing_22 : decode cX7_rubbing 22 = .ok (.getfield 29, 3) := by decide +kernel
theorem dX7_rubbing_25 : decode cX7_rubbing 25 = .ok (.iload_n 1, 1) := by decide +kernel
theorem dX7_rubbing_26 : decode cX7_rubbing 26 = .ok (.bipush 20, 2) := by decide +kernel
theorem dX7_rubbing_28 : decode cX7_rubbing 28 = .ok (.irem, 1) := by decide +kernel
theorem dX7_rubbing_29 : decode cX7_rubbing 29 = .ok (.iload 4, 2) := by decide +kernel
theorem dX7_rubbing_31 : decode cX7_rubbing 31 = .ok (.iload 5, 2) := by decide +kernel
theorem dX7_rubbing_33 : decode cX7_rubbing 33 = .ok (.aload_n 0, 1) := by decide +kernel
theorem dX7_rubbing_34 : decode cX7_rubbing 34 = .ok (.getfield 10, 3) := by decide +kernel
theorem dX7_rubbing_37 : decode cX7_rubbing 37 = .ok (.getfield 110, 3) := by decide +kernel
theorem dX7_rubbing_40 : decode cX7_rubbing 40 = .ok (.iload 4, 2) := by decide +kernel
theorem dX7_rubbing_42 : decode cX7_rubbing 42 = .ok (.iaload, 1) := by decide +kernel
theorem dX7_rubbing_43 : decode cX7_rubbing 43 = .ok (.iload_n 2, 1) := by decide +kernel
theorem dX7_rubbing_44 : decode cX7_rubbing 44 = .ok (.aload_n 0, 1) := by decide +kernel
theorem dX7_rubbing_45 : decode cX7_rubbing 45 = .ok (.getfield 10, 3) := by decide +kernel
theorem dX7_rubbing_48 : decode cX7_rubbing 48 = .ok (.getfield 104, 3) := by decide +kernel
theorem dX7_rubbing_51 : decode cX7_rubbing 51 = .ok (.invokevirtual 155, 3) := by decide +kernel
theorem dX7_rubbing_54 : decode cX7_rubbing 54 = .ok (.aload_n 0, 1) := by decide +kernel
theorem dX7_rubbing_55 : decode cX7_rubbing 55 = .ok (.getfield 29, 3) := by decide +kernel
theorem dX7_rubbing_58 : decode cX7_rubbing 58 = .ok (.aload_n 0, 1) := by decide +kernel
theorem dX7_rubbing_59 : decode cX7_rubbing 59 = .ok (.getfield 10, 3) := by decide +kernel
theorem dX7_rubbing_62 : decode cX7_rubbing 62 = .ok (.getfield 152, 3) := by decide +kernel
theorem dX7_rubbing_65 : decode cX7_rubbing 65 = .ok (.iconst 1, 1) := by decide +kernel
theorem dX7_rubbing_66 : decode cX7_rubbing 66 = .ok (.invokevirtual 159, 3) := by decide +kernel
theorem dX7_rubbing_69 : decode cX7_rubbing 69 = .ok (.bipush 99, 2) := by decide +kernel
theorem dX7_rubbing_71 : decode cX7_rubbing 71 = .ok (.invokestatic 162, 3) := by decide +kernel
theorem dX7_rubbing_74 : decode cX7_rubbing 74 = .ok (.ireturn, 1) := by decide +kernel
theorem dX7_priceOf_0 : decode cX7_priceOf 0 = .ok (.iload_n 1, 1) := by decide +kernel
theorem dX7_priceOf_1 : decode cX7_priceOf 1 = .ok (.bipush 20, 2) := by decide +kernel
theorem dX7_priceOf_3 : decode cX7_priceOf 3 = .ok (.idiv, 1) := by decide +kernel
theorem dX7_priceOf_4 : decode cX7_priceOf 4 = .ok (.istore_n 2, 1) := by decide +kernel
theorem dX7_priceOf_5 : decode cX7_priceOf 5 = .ok (.aload_n 0, 1) := by decide +kernel
theorem dX7_priceOf_6 : decode cX7_priceOf 6 = .ok (.getfield 29, 3) := by decide +kernel
theorem dX7_priceOf_9 : decode cX7_priceOf 9 = .ok (.iload_n 1, 1) := by decide +kernel
theorem dX7_priceOf_10 : decode cX7_priceOf 10 = .ok (.bipush 20, 2) := by decide +kernel
theorem dX7_priceOf_12 : decode cX7_priceOf 12 = .ok (.irem, 1) := by decide +kernel
theorem dX7_priceOf_13 : decode cX7_priceOf 13 = .ok (.iload_n 2, 1) := by decide +kernel
theorem dX7_priceOf_14 : decode cX7_priceOf 14 = .ok (.iconst 0, 1) := by decide +kernel
theorem dX7_priceOf_15 : decode cX7_priceOf 15 = .ok (.aload_n 0, 1) := by decide +kernel
theorem dX7_priceOf_16 : decode cX7_priceOf 16 = .ok (.getfield 10, 3) := by decide +kernel
theorem dX7_priceOf_19 : decode cX7_priceOf 19 = .ok (.getfield 110, 3) := by decide +kernel
theorem dX7_priceOf_22 : decode cX7_priceOf 22 = .ok (.iload_n 2, 1) := by decide +kernel
theorem dX7_priceOf_23 : decode cX7_priceOf 23 = .ok (.iaload, 1) := by decide +kernel
theorem dX7_priceOf_24 : decode cX7_priceOf 24 = .ok (.iconst 0, 1) := by decide +kernel
theorem dX7_priceOf_25 : decode cX7_priceOf 25 = .ok (.aload_n 0, 1) := by decide +kernel
theorem dX7_priceOf_26 : decode cX7_priceOf 26 = .ok (.getfield 10, 3) := by decide +kernel
theorem dX7_priceOf_29 : decode cX7_priceOf 29 = .ok (.getfield 104, 3) := by decide +kernel
theorem dX7_priceOf_32 : decode cX7_priceOf 32 = .ok (.invokevirtual 155, 3) := by decide +kernel
theorem dX7_priceOf_35 : decode cX7_priceOf 35 = .ok (.aload_n 0, 1) := by decide +kernel
theorem dX7_priceOf_36 : decode cX7_priceOf 36 = .ok (.getfield 29, 3) := by decide +kernel
theorem dX7_priceOf_39 : decode cX7_priceOf 39 = .ok (.aload_n 0, 1) := by decide +kernel
theorem dX7_priceOf_40 : decode cX7_priceOf 40 = .ok (.getfield 10, 3) := by decide +kernel
theorem dX7_priceOf_43 : decode cX7_priceOf 43 = .ok (.getfield 152, 3) := by decide +kernel
theorem dX7_priceOf_46 : decode cX7_priceOf 46 = .ok (.iconst 2, 1) := by decide +kernel
theorem dX7_priceOf_47 : decode cX7_priceOf 47 = .ok (.invokevirtual 159, 3) := by decide +kernel
theorem dX7_priceOf_50 : decode cX7_priceOf 50 = .ok (.bipush 99, 2) := by decide +kernel
theorem dX7_priceOf_52 : decode cX7_priceOf 52 = .ok (.invokestatic 162, 3) := by decide +kernel
theorem dX7_priceOf_55 : decode cX7_priceOf 55 = .ok (.ireturn, 1) := by decide +kernel
theorem dX7_canBe_0 : decode cX7_canBe 0 = .ok (.iload_n 1, 1) := by decide +kernel
theorem dX7_canBe_1 : decode cX7_canBe 1 = .ok (.invokestatic 173, 3) := by decide +kernel
theorem dX7_canBe_4 : decode cX7_canBe 4 = .ok (.ifCond .eq 12, 3) := by decide +kernel
theorem dX7_canBe_7 : decode cX7_canBe 7 = .ok (.iload_n 2, 1) := by decide +kernel
theorem dX7_canBe_8 : decode cX7_canBe 8 = .ok (.ifCond .lt 8, 3) := by decide +kernel
theorem dX7_canBe_11 : decode cX7_canBe 11 = .ok (.iload_n 2, 1) := by decide +kernel
theorem dX7_canBe_12 : decode cX7_canBe 12 = .ok (.iconst 2, 1) := by decide +kernel
theorem dX7_canBe_13 : decode cX7_canBe 13 = .ok (.if_icmp .le 6, 3) := by decide +kernel
theorem dX7_canBe_16 : decode cX7_canBe 16 = .ok (.bipush (-2), 2) := by decide +kernel
theorem dX7_canBe_18 : decode cX7_canBe 18 = .ok (.ireturn, 1) := by decide +kernel
theorem dX7_canBe_19 : decode cX7_canBe 19 = .ok (.aload_n 0, 1) := by decide +kernel
theorem dX7_canBe_20 : decode cX7_canBe 20 = .ok (.iload_n 1, 1) := by decide +kernel
theorem dX7_canBe_21 : decode cX7_canBe 21 = .ok (.invokevirtual 176, 3) := by decide +kernel
theorem dX7_canBe_24 : decode cX7_canBe 24 = .ok (.istore_n 3, 1) := by decide +kernel
theorem dX7_canBe_25 : decode cX7_canBe 25 = .ok (.iload_n 3, 1) := by decide +kernel
theorem dX7_canBe_26 : decode cX7_canBe 26 = .ok (.ifCond .eq 5, 3) := by decide +kernel
theorem dX7_canBe_29 : decode cX7_canBe 29 = .ok (.iload_n 3, 1) := by decide +kernel
theorem dX7_canBe_30 : decode cX7_canBe 30 = .ok (.ireturn, 1) := by decide +kernel
theorem dX7_canBe_31 : decode cX7_canBe 31 = .ok (.aload_n 0, 1) := by decide +kernel
theorem dX7_canBe_32 : decode cX7_canBe 32 = .ok (.iload_n 1, 1) := by decide +kernel
theorem dX7_canBe_33 : decode cX7_canBe 33 = .ok (.invokevirtual 179, 3) := by decide +kernel
theorem dX7_canBe_36 : decode cX7_canBe 36 = .ok (.iload_n 2, 1) := by decide +kernel
theorem dX7_canBe_37 : decode cX7_canBe 37 = .ok (.ifCond .ne 11, 3) := by decide +kernel
theorem dX7_canBe_40 : decode cX7_canBe 40 = .ok (.aload_n 0, 1) := by decide +kernel
theorem dX7_canBe_41 : decode cX7_canBe 41 = .ok (.getfield 43, 3) := by decide +kernel
theorem dX7_canBe_44 : decode cX7_canBe 44 = .ok (.invokevirtual 183, 3) := by decide +kernel
theorem dX7_canBe_47 : decode cX7_canBe 47 = .ok (.ireturn, 1) := by decide +kernel
theorem dX7_canBe_48 : decode cX7_canBe 48 = .ok (.aload_n 0, 1) := by decide +kernel
theorem dX7_canBe_49 : decode cX7_canBe 49 = .ok (.getfield 43, 3) := by decide +kernel
theorem dX7_canBe_52 : decode cX7_canBe 52 = .ok (.invokevirtual 183, 3) := by decide +kernel
theorem dX7_canBe_55 : decode cX7_canBe 55 = .ok (.ifCond .ne 5, 3) := by decide +kernel
theorem dX7_canBe_58 : decode cX7_canBe 58 = .ok (.iconst (-1), 1) := by decide +kernel
theorem dX7_canBe_59 : decode cX7_canBe 59 = .ok (.ireturn, 1) := by decide +kernel
theorem dX7_canBe_60 : decode cX7_canBe 60 = .ok (.iload_n 2, 1) := by decide +kernel
theorem dX7_canBe_61 : decode cX7_canBe 61 = .ok (.iconst 1, 1) := by decide +kernel
theorem dX7_canBe_62 : decode cX7_canBe 62 = .ok (.if_icmp .ne 13, 3) := by decide +kernel
theorem dX7_canBe_65 : decode cX7_canBe 65 = .ok (.aload_n 0, 1) := by decide +kernel
theorem dX7_canBe_66 : decode cX7_canBe 66 = .ok (.getfield 43, 3) := by decide +kernel
theorem dX7_canBe_69 : decode cX7_canBe 69 = .ok (.getfield 186, 3) := by decide +kernel
theorem dX7_canBe_72 : decode cX7_canBe 72 = .ok (.goto 10, 3) := by decide +kernel
theorem dX7_canBe_75 : decode cX7_canBe 75 = .ok (.aload_n 0, 1) := by decide +kernel
theorem dX7_canBe_76 : decode cX7_canBe 76 = .ok (.getfield 43, 3) := by decide +kernel
theorem dX7_canBe_79 : decode cX7_canBe 79 = .ok (.getfield 189, 3) := by decide +kernel
theorem dX7_canBe_82 : decode cX7_canBe 82 = .ok (.ireturn, 1) := by decide +kernel
