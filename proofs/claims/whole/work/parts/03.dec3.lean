theorem dX8_doesFit_13 : decode cX8_doesFit 13 = .ok (.ishr, 1) := by decide +kernel
theorem dX8_doesFit_14 : decode cX8_doesFit 14 = .ok (.iconst 1, 1) := by decide +kernel
theorem dX8_doesFit_15 : decode cX8_doesFit 15 = .ok (.iand, 1) := by decide +kernel
theorem dX8_doesFit_16 : decode cX8_doesFit 16 = .ok (.iconst 1, 1) := by decide +kernel
theorem dX8_doesFit_17 : decode cX8_doesFit 17 = .ok (.if_icmp .ne 20, 3) := by decide +kernel
theorem dX8_doesFit_20 : decode cX8_doesFit 20 = .ok (.aload_n 0, 1) := by decide +kernel
theorem dX8_doesFit_21 : decode cX8_doesFit 21 = .ok (.bipush 20, 2) := by decide +kernel
theorem dX8_doesFit_23 : decode cX8_doesFit 23 = .ok (.iload_n 1, 1) := by decide +kernel
theorem dX8_doesFit_24 : decode cX8_doesFit 24 = .ok (.imul, 1) := by decide +kernel
theorem dX8_doesFit_25 : decode cX8_doesFit 25 = .ok (.iload 4, 2) := by decide +kernel
theorem dX8_doesFit_27 : decode cX8_doesFit 27 = .ok (.iadd, 1) := by decide +kernel
theorem dX8_doesFit_28 : decode cX8_doesFit 28 = .ok (.iload_n 3, 1) := by decide +kernel
theorem dX8_doesFit_29 : decode cX8_doesFit 29 = .ok (.invokevirtual 148, 3) := by decide +kernel
theorem dX8_doesFit_32 : decode cX8_doesFit 32 = .ok (.ifCond .ne 5, 3) := by decide +kernel
theorem dX8_doesFit_35 : decode cX8_doesFit 35 = .ok (.iconst 1, 1) := by decide +kernel
theorem dX8_doesFit_36 : decode cX8_doesFit 36 = .ok (.ireturn, 1) := by decide +kernel
theorem dX8_doesFit_37 : decode cX8_doesFit 37 = .ok (.iinc 4 1, 3) := by decide +kernel
theorem dX8_doesFit_40 : decode cX8_doesFit 40 = .ok (.goto (-37), 3) := by decide +kernel
theorem dX8_doesFit_43 : decode cX8_doesFit 43 = .ok (.iconst 0, 1) := by decide +kernel
theorem dX8_doesFit_44 : decode cX8_doesFit 44 = .ok (.ireturn, 1) := by decide +kernel
theorem dX8_isServed_0 : decode cX8_isServed 0 = .ok (.iconst 0, 1) := by decide +kernel
theorem dX8_isServed_1 : decode cX8_isServed 1 = .ok (.istore_n 2, 1) := by decide +kernel
theorem dX8_isServed_2 : decode cX8_isServed 2 = .ok (.iload_n 2, 1) := by decide +kernel
theorem dX8_isServed_3 : decode cX8_isServed 3 = .ok (.aload_n 0, 1) := by decide +kernel
theorem dX8_isServed_4 : decode cX8_isServed 4 = .ok (.getfield 97, 3) := by decide +kernel
theorem dX8_isServed_7 : decode cX8_isServed 7 = .ok (.if_icmp .ge 26, 3) := by decide +kernel
theorem dX8_isServed_10 : decode cX8_isServed 10 = .ok (.aload_n 0, 1) := by decide +kernel
theorem dX8_isServed_11 : decode cX8_isServed 11 = .ok (.iload_n 2, 1) := by decide +kernel
theorem dX8_isServed_12 : decode cX8_isServed 12 = .ok (.aload_n 0, 1) := by decide +kernel
theorem dX8_isServed_13 : decode cX8_isServed 13 = .ok (.getfield 44, 3) := by decide +kernel
theorem dX8_isServed_16 : decode cX8_isServed 16 = .ok (.iload_n 2, 1) := by decide +kernel
theorem dX8_isServed_17 : decode cX8_isServed 17 = .ok (.iaload, 1) := by decide +kernel
theorem dX8_isServed_18 : decode cX8_isServed 18 = .ok (.iload_n 1, 1) := by decide +kernel
theorem dX8_isServed_19 : decode cX8_isServed 19 = .ok (.invokevirtual 342, 3) := by decide +kernel
theorem dX8_isServed_22 : decode cX8_isServed 22 = .ok (.ifCond .eq 5, 3) := by decide +kernel
theorem dX8_isServed_25 : decode cX8_isServed 25 = .ok (.iconst 1, 1) := by decide +kernel
theorem dX8_isServed_26 : decode cX8_isServed 26 = .ok (.ireturn, 1) := by decide +kernel
theorem dX8_isServed_27 : decode cX8_isServed 27 = .ok (.iinc 2 1, 3) := by decide +kernel
theorem dX8_isServed_30 : decode cX8_isServed 30 = .ok (.goto (-28), 3) := by decide +kernel
theorem dX8_isServed_33 : decode cX8_isServed 33 = .ok (.iconst 0, 1) := by decide +kernel
theorem dX8_isServed_34 : decode cX8_isServed 34 = .ok (.ireturn, 1) := by decide +kernel
theorem dX8_servedBy_0 : decode cX8_servedBy 0 = .ok (.iconst 0, 1) := by decide +kernel
theorem dX8_servedBy_1 : decode cX8_servedBy 1 = .ok (.istore_n 3, 1) := by decide +kernel
theorem dX8_servedBy_2 : decode cX8_servedBy 2 = .ok (.iconst 0, 1) := by decide +kernel
theorem dX8_servedBy_3 : decode cX8_servedBy 3 = .ok (.istore 4, 2) := by decide +kernel
theorem dX8_servedBy_5 : decode cX8_servedBy 5 = .ok (.iload 4, 2) := by decide +kernel
theorem dX8_servedBy_7 : decode cX8_servedBy 7 = .ok (.bipush 100, 2) := by decide +kernel
theorem dX8_servedBy_9 : decode cX8_servedBy 9 = .ok (.if_icmp .ge 44, 3) := by decide +kernel
theorem dX8_servedBy_12 : decode cX8_servedBy 12 = .ok (.iload_n 3, 1) := by decide +kernel
theorem dX8_servedBy_13 : decode cX8_servedBy 13 = .ok (.aload_n 0, 1) := by decide +kernel
theorem dX8_servedBy_14 : decode cX8_servedBy 14 = .ok (.getfield 32, 3) := by decide +kernel
theorem dX8_servedBy_17 : decode cX8_servedBy 17 = .ok (.iload 4, 2) := by decide +kernel
theorem dX8_servedBy_19 : decode cX8_servedBy 19 = .ok (.iaload, 1) := by decide +kernel
theorem dX8_servedBy_20 : decode cX8_servedBy 20 = .ok (.ifCond .le 24, 3) := by decide +kernel
theorem dX8_servedBy_23 : decode cX8_servedBy 23 = .ok (.aload_n 0, 1) := by decide +kernel
theorem dX8_servedBy_24 : decode cX8_servedBy 24 = .ok (.iload_n 1, 1) := by decide +kernel
theorem dX8_servedBy_25 : decode cX8_servedBy 25 = .ok (.iload_n 2, 1) := by decide +kernel
theorem dX8_servedBy_26 : decode cX8_servedBy 26 = .ok (.iload 4, 2) := by decide +kernel
theorem dX8_servedBy_28 : decode cX8_servedBy 28 = .ok (.invokevirtual 342, 3) := by decide +kernel
theorem dX8_servedBy_31 : decode cX8_servedBy 31 = .ok (.ifCond .eq 13, 3) := by decide +kernel
theorem dX8_servedBy_34 : decode cX8_servedBy 34 = .ok (.aload_n 0, 1) := by decide +kernel
theorem dX8_servedBy_35 : decode cX8_servedBy 35 = .ok (.getfield 32, 3) := by decide +kernel
theorem dX8_servedBy_38 : decode cX8_servedBy 38 = .ok (.iload 4, 2) := by decide +kernel
theorem dX8_servedBy_40 : decode cX8_servedBy 40 = .ok (.iaload, 1) := by decide +kernel
theorem dX8_servedBy_41 : decode cX8_servedBy 41 = .ok (.goto 4, 3) := by decide +kernel
theorem dX8_servedBy_44 : decode cX8_servedBy 44 = .ok (.iconst 0, 1) := by decide +kernel
theorem dX8_servedBy_45 : decode cX8_servedBy 45 = .ok (.iadd, 1) := by decide +kernel
theorem dX8_servedBy_46 : decode cX8_servedBy 46 = .ok (.istore_n 3, 1) := by decide +kernel
theorem dX8_servedBy_47 : decode cX8_servedBy 47 = .ok (.iinc 4 1, 3) := by decide +kernel
theorem dX8_servedBy_50 : decode cX8_servedBy 50 = .ok (.goto (-45), 3) := by decide +kernel
theorem dX8_servedBy_53 : decode cX8_servedBy 53 = .ok (.iload_n 3, 1) := by decide +kernel
theorem dX8_servedBy_54 : decode cX8_servedBy 54 = .ok (.ireturn, 1) := by decide +kernel
theorem dX8_servedAll_0 : decode cX8_servedAll 0 = .ok (.iconst 0, 1) := by decide +kernel
theorem dX8_servedAll_1 : decode cX8_servedAll 1 = .ok (.istore_n 1, 1) := by decide +kernel
theorem dX8_servedAll_2 : decode cX8_servedAll 2 = .ok (.iconst 0, 1) := by decide +kernel
theorem dX8_servedAll_3 : decode cX8_servedAll 3 = .ok (.istore_n 2, 1) := by decide +kernel
theorem dX8_servedAll_4 : decode cX8_servedAll 4 = .ok (.iload_n 2, 1) := by decide +kernel
theorem dX8_servedAll_5 : decode cX8_servedAll 5 = .ok (.bipush 100, 2) := by decide +kernel
theorem dX8_servedAll_7 : decode cX8_servedAll 7 = .ok (.if_icmp .ge 30, 3) := by decide +kernel
theorem dX8_servedAll_10 : decode cX8_servedAll 10 = .ok (.iload_n 1, 1) := by decide +kernel
theorem dX8_servedAll_11 : decode cX8_servedAll 11 = .ok (.aload_n 0, 1) := by decide +kernel
theorem dX8_servedAll_12 : decode cX8_servedAll 12 = .ok (.iload_n 2, 1) := by decide +kernel
theorem dX8_servedAll_13 : decode cX8_servedAll 13 = .ok (.invokevirtual 345, 3) := by decide +kernel
theorem dX8_servedAll_16 : decode cX8_servedAll 16 = .ok (.ifCond .eq 12, 3) := by decide +kernel
theorem dX8_servedAll_19 : decode cX8_servedAll 19 = .ok (.aload_n 0, 1) := by decide +kernel
theorem dX8_servedAll_20 : decode cX8_servedAll 20 = .ok (.getfield 32, 3) := by decide +kernel
theorem dX8_servedAll_23 : decode cX8_servedAll 23 = .ok (.iload_n 2, 1) := by decide +kernel
theorem dX8_servedAll_24 : decode cX8_servedAll 24 = .ok (.iaload, 1) := by decide +kernel
theorem dX8_servedAll_25 : decode cX8_servedAll 25 = .ok (.goto 4, 3) := by decide +kernel
theorem dX8_servedAll_28 : decode cX8_servedAll 28 = .ok (.iconst 0, 1) := by decide +kernel
theorem dX8_servedAll_29 : decode cX8_servedAll 29 = .ok (.iadd, 1) := by decide +kernel
theorem dX8_servedAll_30 : decode cX8_servedAll 30 = .ok (.istore_n 1, 1) := by decide +kernel
theorem dX8_servedAll_31 : decode cX8_servedAll 31 = .ok (.iinc 2 1, 3) := by decide +kernel
theorem dX8_servedAll_34 : decode cX8_servedAll 34 = .ok (.goto (-30), 3) := by decide +kernel
theorem dX8_servedAll_37 : decode cX8_servedAll 37 = .ok (.iload_n 1, 1) := by decide +kernel
theorem dX8_servedAll_38 : decode cX8_servedAll 38 = .ok (.ireturn, 1) := by decide +kernel
theorem dX8_townAll_0 : decode cX8_townAll 0 = .ok (.iconst 0, 1) := by decide +kernel
theorem dX8_townAll_1 : decode cX8_townAll 1 = .ok (.istore_n 1, 1) := by decide +kernel
theorem dX8_townAll_2 : decode cX8_townAll 2 = .ok (.iconst 0, 1) := by decide +kernel
theorem dX8_townAll_3 : decode cX8_townAll 3 = .ok (.istore_n 2, 1) := by decide +kernel
theorem dX8_townAll_4 : decode cX8_townAll 4 = .ok (.iload_n 2, 1) := by decide +kernel
theorem dX8_townAll_5 : decode cX8_townAll 5 = .ok (.bipush 100, 2) := by decide +kernel
theorem dX8_townAll_7 : decode cX8_townAll 7 = .ok (.if_icmp .ge 18, 3) := by decide +kernel
theorem dX8_townAll_10 : decode cX8_townAll 10 = .ok (.iload_n 1, 1) := by decide +kernel
theorem dX8_townAll_11 : decode cX8_townAll 11 = .ok (.aload_n 0, 1) := by decide +kernel
theorem dX8_townAll_12 : decode cX8_townAll 12 = .ok (.getfield 32, 3) := by decide +kernel
theorem dX8_townAll_15 : decode cX8_townAll 15 = .ok (.iload_n 2, 1) := by decide +kernel
theorem dX8_townAll_16 : decode cX8_townAll 16 = .ok (.iaload, 1) := by decide +kernel
theorem dX8_townAll_17 : decode cX8_townAll 17 = .ok (.iadd, 1) := by decide +kernel
theorem dX8_townAll_18 : decode cX8_townAll 18 = .ok (.istore_n 1, 1) := by decide +kernel
theorem dX8_townAll_19 : decode cX8_townAll 19 = .ok (.iinc 2 1, 3) := by decide +kernel
theorem dX8_townAll_22 : decode cX8_townAll 22 = .ok (.goto (-18), 3) := by decide +kernel
theorem dX8_townAll_25 : decode cX8_townAll 25 = .ok (.iload_n 1, 1) := by decide +kernel
theorem dX8_townAll_26 : decode cX8_townAll 26 = .ok (.ireturn, 1) := by decide +kernel
theorem dX8_served_0 : decode cX8_served 0 = .ok (.iload_n 1, 1) := by decide +kernel
theorem dX8_served_1 : decode cX8_served 1 = .ok (.iconst (-1), 1) := by decide +kernel
theorem dX8_served_2 : decode cX8_served 2 = .ok (.if_icmp .eq 14, 3) := by decide +kernel
theorem dX8_served_5 : decode cX8_served 5 = .ok (.aload_n 0, 1) := by decide +kernel
theorem dX8_served_6 : decode cX8_served 6 = .ok (.iload_n 1, 1) := by decide +kernel
theorem dX8_served_7 : decode cX8_served 7 = .ok (.invokevirtual 112, 3) := by decide +kernel
theorem dX8_served_10 : decode cX8_served 10 = .ok (.ifCond .ne 6, 3) := by decide +kernel
theorem dX8_served_13 : decode cX8_served 13 = .ok (.bipush (-2), 2) := by decide +kernel
theorem dX8_served_15 : decode cX8_served 15 = .ok (.ireturn, 1) := by decide +kernel
theorem dX8_served_16 : decode cX8_served 16 = .ok (.iload_n 1, 1) := by decide +kernel
theorem dX8_served_17 : decode cX8_served 17 = .ok (.iconst (-1), 1) := by decide +kernel
theorem dX8_served_18 : decode cX8_served 18 = .ok (.if_icmp .ne 10, 3) := by decide +kernel
theorem dX8_served_21 : decode cX8_served 21 = .ok (.aload_n 0, 1) := by decide +kernel
theorem dX8_served_22 : decode cX8_served 22 = .ok (.invokevirtual 348, 3) := by decide +kernel
theorem dX8_served_25 : decode cX8_served 25 = .ok (.goto 14, 3) := by decide +kernel
theorem dX8_served_28 : decode cX8_served 28 = .ok (.aload_n 0, 1) := by decide +kernel
theorem dX8_served_29 : decode cX8_served 29 = .ok (.iload_n 1, 1) := by decide +kernel
theorem dX8_served_30 : decode cX8_served 30 = .ok (.aload_n 0, 1) := by decide +kernel
theorem dX8_served_31 : decode cX8_served 31 = .ok (.getfield 44, 3) := by decide +kernel
theorem dX8_served_34 : decode cX8_served 34 = .ok (.iload_n 1, 1) := by decide +kernel
theorem dX8_served_35 : decode cX8_served 35 = .ok (.iaload, 1) := by decide +kernel
theorem dX8_served_36 : decode cX8_served 36 = .ok (.invokevirtual 351, 3) := by decide +kernel
theorem dX8_served_39 : decode cX8_served 39 = .ok (.ireturn, 1) := by decide +kernel
theorem dX8_servedBySizes_0 : decode cX8_servedBySizes 0 = .ok (.iconst 0, 1) := by decide +kernel
theorem dX8_servedBySizes_1 : decode cX8_servedBySizes 1 = .ok (.istore_n 2, 1) := by decide +kernel
theorem dX8_servedBySizes_2 : decode cX8_servedBySizes 2 = .ok (.iconst 0, 1) := by decide +kernel
theorem dX8_servedBySizes_3 : decode cX8_servedBySizes 3 = .ok (.istore_n 3, 1) := by decide +kernel
theorem dX8_servedBySizes_4 : decode cX8_servedBySizes 4 = .ok (.iload_n 3, 1) := by decide +kernel
theorem dX8_servedBySizes_5 : decode cX8_servedBySizes 5 = .ok (.bipush 100, 2) := by decide +kernel
theorem dX8_servedBySizes_7 : decode cX8_servedBySizes 7 = .ok (.if_icmp .ge 80, 3) := by decide +kernel
theorem dX8_servedBySizes_10 : decode cX8_servedBySizes 10 = .ok (.iconst 0, 1) := by decide +kernel
theorem dX8_servedBySizes_11 : decode cX8_servedBySizes 11 = .ok (.istore 4, 2) := by decide +kernel
theorem dX8_servedBySizes_13 : decode cX8_servedBySizes 13 = .ok (.iload_n 1, 1) := by decide +kernel
theorem dX8_servedBySizes_14 : decode cX8_servedBySizes 14 = .ok (.istore 5, 2) := by decide +kernel
theorem dX8_servedBySizes_16 : decode cX8_servedBySizes 16 = .ok (.iload 5, 2) := by decide +kernel
theorem dX8_servedBySizes_18 : decode cX8_servedBySizes 18 = .ok (.ifCond .eq 45, 3) := by decide +kernel
theorem dX8_servedBySizes_21 : decode cX8_servedBySizes 21 = .ok (.iload 4, 2) := by decide +kernel
theorem dX8_servedBySizes_23 : decode cX8_servedBySizes 23 = .ok (.ifCond .ne 21, 3) := by decide +kernel
theorem dX8_servedBySizes_26 : decode cX8_servedBySizes 26 = .ok (.aload_n 0, 1) := by decide +kernel
theorem dX8_servedBySizes_27 : decode cX8_servedBySizes 27 = .ok (.getfield 63, 3) := by decide +kernel
theorem dX8_servedBySizes_30 : decode cX8_servedBySizes 30 = .ok (.bipush 100, 2) := by decide +kernel
theorem dX8_servedBySizes_32 : decode cX8_servedBySizes 32 = .ok (.iload 5, 2) := by decide +kernel
theorem dX8_servedBySizes_34 : decode cX8_servedBySizes 34 = .ok (.invokestatic 354, 3) := by decide +kernel
theorem dX8_servedBySizes_37 : decode cX8_servedBySizes 37 = .ok (.imul, 1) := by decide +kernel
theorem dX8_servedBySizes_38 : decode cX8_servedBySizes 38 = .ok (.iload_n 3, 1) := by decide +kernel
theorem dX8_servedBySizes_39 : decode cX8_servedBySizes 39 = .ok (.iadd, 1) := by decide +kernel
theorem dX8_servedBySizes_40 : decode cX8_servedBySizes 40 = .ok (.baload, 1) := by decide +kernel
theorem dX8_servedBySizes_41 : decode cX8_servedBySizes 41 = .ok (.ifCond .eq 7, 3) := by decide +kernel
theorem dX8_servedBySizes_44 : decode cX8_servedBySizes 44 = .ok (.iconst 1, 1) := by decide +kernel
theorem dX8_servedBySizes_45 : decode cX8_servedBySizes 45 = .ok (.goto 4, 3) := by decide +kernel
theorem dX8_servedBySizes_48 : decode cX8_servedBySizes 48 = .ok (.iconst 0, 1) := by decide +kernel
theorem dX8_servedBySizes_49 : decode cX8_servedBySizes 49 = .ok (.istore 4, 2) := by decide +kernel
theorem dX8_servedBySizes_51 : decode cX8_servedBySizes 51 = .ok (.iload 5, 2) := by decide +kernel
theorem dX8_servedBySizes_53 : decode cX8_servedBySizes 53 = .ok (.iload 5, 2) := by decide +kernel
theorem dX8_servedBySizes_55 : decode cX8_servedBySizes 55 = .ok (.iconst 1, 1) := by decide +kernel
theorem dX8_servedBySizes_56 : decode cX8_servedBySizes 56 = .ok (.isub, 1) := by decide +kernel
theorem dX8_servedBySizes_57 : decode cX8_servedBySizes 57 = .ok (.iand, 1) := by decide +kernel
theorem dX8_servedBySizes_58 : decode cX8_servedBySizes 58 = .ok (.istore 5, 2) := by decide +kernel
theorem dX8_servedBySizes_60 : decode cX8_servedBySizes 60 = .ok (.goto (-44), 3) := by decide +kernel
theorem dX8_servedBySizes_63 : decode cX8_servedBySizes 63 = .ok (.iload_n 2, 1) := by decide +kernel
theorem dX8_servedBySizes_64 : decode cX8_servedBySizes 64 = .ok (.iload 4, 2) := by decide +kernel
theorem dX8_servedBySizes_66 : decode cX8_servedBySizes 66 = .ok (.ifCond .eq 12, 3) := by decide +kernel
theorem dX8_servedBySizes_69 : decode cX8_servedBySizes 69 = .ok (.aload_n 0, 1) := by decide +kernel
theorem dX8_servedBySizes_70 : decode cX8_servedBySizes 70 = .ok (.getfield 32, 3) := by decide +kernel
theorem dX8_servedBySizes_73 : decode cX8_servedBySizes 73 = .ok (.iload_n 3, 1) := by decide +kernel
theorem dX8_servedBySizes_74 : decode cX8_servedBySizes 74 = .ok (.iaload, 1) := by decide +kernel
theorem dX8_servedBySizes_75 : decode cX8_servedBySizes 75 = .ok (.goto 4, 3) := by decide +kernel
theorem dX8_servedBySizes_78 : decode cX8_servedBySizes 78 = .ok (.iconst 0, 1) := by decide +kernel
theorem dX8_servedBySizes_79 : decode cX8_servedBySizes 79 = .ok (.iadd, 1) := by decide +kernel
theorem dX8_servedBySizes_80 : decode cX8_servedBySizes 80 = .ok (.istore_n 2, 1) := by decide +kernel
theorem dX8_servedBySizes_81 : decode cX8_servedBySizes 81 = .ok (.iinc 3 1, 3) := by decide +kernel
theorem dX8_servedBySizes_84 : decode cX8_servedBySizes 84 = .ok (.goto (-80), 3) := by decide +kernel
theorem dX8_servedBySizes_87 : decode cX8_servedBySizes 87 = .ok (.iload_n 2, 1) := by decide +kernel
theorem dX8_servedBySizes_88 : decode cX8_servedBySizes 88 = .ok (.ireturn, 1) := by decide +kernel
theorem dX8_lowest_0 : decode cX8_lowest 0 = .ok (.iconst 0, 1) := by decide +kernel
theorem dX8_lowest_1 : decode cX8_lowest 1 = .ok (.istore_n 1, 1) := by decide +kernel
theorem dX8_lowest_2 : decode cX8_lowest 2 = .ok (.iload_n 0, 1) := by decide +kernel
theorem dX8_lowest_3 : decode cX8_lowest 3 = .ok (.iload_n 1, 1) := by decide +kernel
theorem dX8_lowest_4 : decode cX8_lowest 4 = .ok (.ishr, 1) := by decide +kernel
theorem dX8_lowest_5 : decode cX8_lowest 5 = .ok (.iconst 1, 1) := by decide +kernel
theorem dX8_lowest_6 : decode cX8_lowest 6 = .ok (.iand, 1) := by decide +kernel
theorem dX8_lowest_7 : decode cX8_lowest 7 = .ok (.ifCond .ne 9, 3) := by decide +kernel
theorem dX8_lowest_10 : decode cX8_lowest 10 = .ok (.iinc 1 1, 3) := by decide +kernel
theorem dX8_lowest_13 : decode cX8_lowest 13 = .ok (.goto (-11), 3) := by decide +kernel
theorem dX8_lowest_16 : decode cX8_lowest 16 = .ok (.iload_n 1, 1) := by decide +kernel
theorem dX8_lowest_17 : decode cX8_lowest 17 = .ok (.ireturn, 1) := by decide +kernel
theorem dX8_orders_0 : decode cX8_orders 0 = .ok (.iload_n 3, 1) := by decide +kernel
theorem dX8_orders_1 : decode cX8_orders 1 = .ok (.ifCond .ne 48, 3) := by decide +kernel
theorem dX8_orders_4 : decode cX8_orders 4 = .ok (.aload_n 0, 1) := by decide +kernel
theorem dX8_orders_5 : decode cX8_orders 5 = .ok (.iload_n 1, 1) := by decide +kernel
theorem dX8_orders_6 : decode cX8_orders 6 = .ok (.invokevirtual 357, 3) := by decide +kernel
theorem dX8_orders_9 : decode cX8_orders 9 = .ok (.istore 4, 2) := by decide +kernel
theorem dX8_orders_11 : decode cX8_orders 11 = .ok (.iload 4, 2) := by decide +kernel
theorem dX8_orders_13 : decode cX8_orders 13 = .ok (.aload_n 0, 1) := by decide +kernel
theorem dX8_orders_14 : decode cX8_orders 14 = .ok (.getfield 360, 3) := by decide +kernel
theorem dX8_orders_17 : decode cX8_orders 17 = .ok (.if_icmp .gt 20, 3) := by decide +kernel
theorem dX8_orders_20 : decode cX8_orders 20 = .ok (.iload 4, 2) := by decide +kernel
theorem dX8_orders_22 : decode cX8_orders 22 = .ok (.aload_n 0, 1) := by decide +kernel
theorem dX8_orders_23 : decode cX8_orders 23 = .ok (.getfield 360, 3) := by decide +kernel
theorem dX8_orders_26 : decode cX8_orders 26 = .ok (.if_icmp .ne 22, 3) := by decide +kernel
theorem dX8_orders_29 : decode cX8_orders 29 = .ok (.iload_n 1, 1) := by decide +kernel
theorem dX8_orders_30 : decode cX8_orders 30 = .ok (.aload_n 0, 1) := by decide +kernel
theorem dX8_orders_31 : decode cX8_orders 31 = .ok (.getfield 363, 3) := by decide +kernel
theorem dX8_orders_34 : decode cX8_orders 34 = .ok (.if_icmp .ge 14, 3) := by decide +kernel
theorem dX8_orders_37 : decode cX8_orders 37 = .ok (.aload_n 0, 1) := by decide +kernel
theorem dX8_orders_38 : decode cX8_orders 38 = .ok (.iload 4, 2) := by decide +kernel
theorem dX8_orders_40 : decode cX8_orders 40 = .ok (.putfield 360, 3) := by decide +kernel
theorem dX8_orders_43 : decode cX8_orders 43 = .ok (.aload_n 0, 1) := by decide +kernel
theorem dX8_orders_44 : decode cX8_orders 44 = .ok (.iload_n 1, 1) := by decide +kernel
theorem dX8_orders_45 : decode cX8_orders 45 = .ok (.putfield 363, 3) := by decide +kernel
theorem dX8_orders_48 : decode cX8_orders 48 = .ok (.return_, 1) := by decide +kernel
theorem dX8_orders_49 : decode cX8_orders 49 = .ok (.iload_n 2, 1) := by decide +kernel
theorem dX8_orders_50 : decode cX8_orders 50 = .ok (.istore 4, 2) := by decide +kernel
theorem dX8_orders_52 : decode cX8_orders 52 = .ok (.iload 4, 2) := by decide +kernel
theorem dX8_orders_54 : decode cX8_orders 54 = .ok (.bipush 20, 2) := by decide +kernel
theorem dX8_orders_56 : decode cX8_orders 56 = .ok (.if_icmp .ge 26, 3) := by decide +kernel
theorem dX8_orders_59 : decode cX8_orders 59 = .ok (.aload_n 0, 1) := by decide +kernel
theorem dX8_orders_60 : decode cX8_orders 60 = .ok (.iload_n 1, 1) := by decide +kernel
theorem dX8_orders_61 : decode cX8_orders 61 = .ok (.iconst 1, 1) := by decide +kernel
theorem dX8_orders_62 : decode cX8_orders 62 = .ok (.iload 4, 2) := by decide +kernel
theorem dX8_orders_64 : decode cX8_orders 64 = .ok (.ishl, 1) := by decide +kernel
theorem dX8_orders_65 : decode cX8_orders 65 = .ok (.ior, 1) := by decide +kernel
theorem dX8_orders_66 : decode cX8_orders 66 = .ok (.iload 4, 2) := by decide +kernel
theorem dX8_orders_68 : decode cX8_orders 68 = .ok (.iconst 1, 1) := by decide +kernel
theorem dX8_orders_69 : decode cX8_orders 69 = .ok (.iadd, 1) := by decide +kernel
theorem dX8_orders_70 : decode cX8_orders 70 = .ok (.iload_n 3, 1) := by decide +kernel
theorem dX8_orders_71 : decode cX8_orders 71 = .ok (.iconst 1, 1) := by decide +kernel
theorem dX8_orders_72 : decode cX8_orders 72 = .ok (.isub, 1) := by decide +kernel
theorem dX8_orders_73 : decode cX8_orders 73 = .ok (.invokevirtual 366, 3) := by decide +kernel
theorem dX8_orders_76 : decode cX8_orders 76 = .ok (.iinc 4 1, 3) := by decide +kernel
theorem dX8_orders_79 : decode cX8_orders 79 = .ok (.goto (-27), 3) := by decide +kernel
theorem dX8_orders_82 : decode cX8_orders 82 = .ok (.return_, 1) := by decide +kernel
theorem dX8_order_0 : decode cX8_order 0 = .ok (.aload_n 0, 1) := by decide +kernel
theorem dX8_order_1 : decode cX8_order 1 = .ok (.iload_n 1, 1) := by decide +kernel
theorem dX8_order_2 : decode cX8_order 2 = .ok (.invokevirtual 112, 3) := by decide +kernel
theorem dX8_order_5 : decode cX8_order 5 = .ok (.ifCond .eq 25, 3) := by decide +kernel
theorem dX8_order_8 : decode cX8_order 8 = .ok (.iload_n 2, 1) := by decide +kernel
theorem dX8_order_9 : decode cX8_order 9 = .ok (.i2l, 1) := by decide +kernel
theorem dX8_order_10 : decode cX8_order 10 = .ok (.lconst 0, 1) := by decide +kernel
theorem dX8_order_11 : decode cX8_order 11 = .ok (.ldc2_w 370, 3) := by decide +kernel
theorem dX8_order_14 : decode cX8_order 14 = .ok (.invokestatic 100, 3) := by decide +kernel
theorem dX8_order_17 : decode cX8_order 17 = .ok (.ifCond .eq 13, 3) := by decide +kernel
theorem dX8_order_20 : decode cX8_order 20 = .ok (.iload_n 3, 1) := by decide +kernel
theorem dX8_order_21 : decode cX8_order 21 = .ok (.i2l, 1) := by decide +kernel
theorem dX8_order_22 : decode cX8_order 22 = .ok (.lconst 0, 1) := by decide +kernel
theorem dX8_order_23 : decode cX8_order 23 = .ok (.lconst 1, 1) := by decide +kernel
theorem dX8_order_24 : decode cX8_order 24 = .ok (.invokestatic 100, 3) := by decide +kernel
theorem dX8_order_27 : decode cX8_order 27 = .ok (.ifCond .ne 6, 3) := by decide +kernel
theorem dX8_order_30 : decode cX8_order 30 = .ok (.bipush (-2), 2) := by decide +kernel
theorem dX8_order_32 : decode cX8_order 32 = .ok (.ireturn, 1) := by decide +kernel
theorem dX8_order_33 : decode cX8_order 33 = .ok (.iconst 0, 1) := by decide +kernel
theorem dX8_order_34 : decode cX8_order 34 = .ok (.istore 4, 2) := by decide +kernel
theorem dX8_order_36 : decode cX8_order 36 = .ok (.iload 4, 2) := by decide +kernel
theorem dX8_order_38 : decode cX8_order 38 = .ok (.bipush 20, 2) := by decide +kernel
theorem dX8_order_40 : decode cX8_order 40 = .ok (.if_icmp .ge 59, 3) := by decide +kernel
theorem dX8_order_43 : decode cX8_order 43 = .ok (.iconst 0, 1) := by decide +kernel
theorem dX8_order_44 : decode cX8_order 44 = .ok (.istore 5, 2) := by decide +kernel
theorem dX8_order_46 : decode cX8_order 46 = .ok (.iload 5, 2) := by decide +kernel
theorem dX8_order_48 : decode cX8_order 48 = .ok (.bipush 100, 2) := by decide +kernel
theorem dX8_order_50 : decode cX8_order 50 = .ok (.if_icmp .ge 43, 3) := by decide +kernel
theorem dX8_order_53 : decode cX8_order 53 = .ok (.aload_n 0, 1) := by decide +kernel
theorem dX8_order_54 : decode cX8_order 54 = .ok (.getfield 63, 3) := by decide +kernel
theorem dX8_order_57 : decode cX8_order 57 = .ok (.bipush 100, 2) := by decide +kernel
theorem dX8_order_59 : decode cX8_order 59 = .ok (.iload 4, 2) := by decide +kernel
theorem dX8_order_61 : decode cX8_order 61 = .ok (.imul, 1) := by decide +kernel
theorem dX8_order_62 : decode cX8_order 62 = .ok (.iload 5, 2) := by decide +kernel
theorem dX8_order_64 : decode cX8_order 64 = .ok (.iadd, 1) := by decide +kernel
theorem dX8_order_65 : decode cX8_order 65 = .ok (.aload_n 0, 1) := by decide +kernel
theorem dX8_order_66 : decode cX8_order 66 = .ok (.bipush 20, 2) := by decide +kernel
theorem dX8_order_68 : decode cX8_order 68 = .ok (.iload_n 1, 1) := by decide +kernel
theorem dX8_order_69 : decode cX8_order 69 = .ok (.imul, 1) := by decide +kernel
theorem dX8_order_70 : decode cX8_order 70 = .ok (.iload 4, 2) := by decide +kernel
theorem dX8_order_72 : decode cX8_order 72 = .ok (.iadd, 1) := by decide +kernel
theorem dX8_order_73 : decode cX8_order 73 = .ok (.iload 5, 2) := by decide +kernel
theorem dX8_order_75 : decode cX8_order 75 = .ok (.invokevirtual 148, 3) := by decide +kernel
theorem dX8_order_78 : decode cX8_order 78 = .ok (.ifCond .ne 7, 3) := by decide +kernel
theorem dX8_order_81 : decode cX8_order 81 = .ok (.iconst 1, 1) := by decide +kernel
theorem dX8_order_82 : decode cX8_order 82 = .ok (.goto 4, 3) := by decide +kernel
theorem dX8_order_85 : decode cX8_order 85 = .ok (.iconst 0, 1) := by decide +kernel
theorem dX8_order_86 : decode cX8_order 86 = .ok (.bastore, 1) := by decide +kernel
theorem dX8_order_87 : decode cX8_order 87 = .ok (.iinc 5 1, 3) := by decide +kernel
theorem dX8_order_90 : decode cX8_order 90 = .ok (.goto (-44), 3) := by decide +kernel
theorem dX8_order_93 : decode cX8_order 93 = .ok (.iinc 4 1, 3) := by decide +kernel
theorem dX8_order_96 : decode cX8_order 96 = .ok (.goto (-60), 3) := by decide +kernel
theorem dX8_order_99 : decode cX8_order 99 = .ok (.aload_n 0, 1) := by decide +kernel
theorem dX8_order_100 : decode cX8_order 100 = .ok (.iconst (-1), 1) := by decide +kernel
theorem dX8_order_101 : decode cX8_order 101 = .ok (.putfield 360, 3) := by decide +kernel
theorem dX8_order_104 : decode cX8_order 104 = .ok (.aload_n 0, 1) := by decide +kernel
theorem dX8_order_105 : decode cX8_order 105 = .ok (.iconst 0, 1) := by decide +kernel
theorem dX8_order_106 : decode cX8_order 106 = .ok (.putfield 363, 3) := by decide +kernel
theorem dX8_order_109 : decode cX8_order 109 = .ok (.aload_n 0, 1) := by decide +kernel
theorem dX8_order_110 : decode cX8_order 110 = .ok (.iconst 0, 1) := by decide +kernel
theorem dX8_order_111 : decode cX8_order 111 = .ok (.iconst 0, 1) := by decide +kernel
theorem dX8_order_112 : decode cX8_order 112 = .ok (.iload_n 2, 1) := by decide +kernel
theorem dX8_order_113 : decode cX8_order 113 = .ok (.invokevirtual 366, 3) := by decide +kernel
theorem dX8_order_116 : decode cX8_order 116 = .ok (.iload_n 3, 1) := by decide +kernel
theorem dX8_order_117 : decode cX8_order 117 = .ok (.ifCond .ne 10, 3) := by decide +kernel
theorem dX8_order_120 : decode cX8_order 120 = .ok (.aload_n 0, 1) := by decide +kernel
theorem dX8_order_121 : decode cX8_order 121 = .ok (.getfield 363, 3) := by decide +kernel
theorem dX8_order_124 : decode cX8_order 124 = .ok (.goto 7, 3) := by decide +kernel
theorem dX8_order_127 : decode cX8_order 127 = .ok (.aload_n 0, 1) := by decide +kernel
theorem dX8_order_128 : decode cX8_order 128 = .ok (.getfield 360, 3) := by decide +kernel
theorem dX8_order_131 : decode cX8_order 131 = .ok (.ireturn, 1) := by decide +kernel
theorem dX8_missing_0 : decode cX8_missing 0 = .ok (.iload_n 1, 1) := by decide +kernel
theorem dX8_missing_1 : decode cX8_missing 1 = .ok (.i2l, 1) := by decide +kernel
theorem dX8_missing_2 : decode cX8_missing 2 = .ok (.lconst 0, 1) := by decide +kernel
theorem dX8_missing_3 : decode cX8_missing 3 = .ok (.lconst 1, 1) := by decide +kernel
theorem dX8_missing_4 : decode cX8_missing 4 = .ok (.invokestatic 100, 3) := by decide +kernel
theorem dX8_missing_7 : decode cX8_missing 7 = .ok (.ifCond .ne 6, 3) := by decide +kernel
theorem dX8_missing_10 : decode cX8_missing 10 = .ok (.bipush (-2), 2) := by decide +kernel
theorem dX8_missing_12 : decode cX8_missing 12 = .ok (.ireturn, 1) := by decide +kernel
theorem dX8_missing_13 : decode cX8_missing 13 = .ok (.iconst 0, 1) := by decide +kernel
theorem dX8_missing_14 : decode cX8_missing 14 = .ok (.istore_n 2, 1) := by decide +kernel
theorem dX8_missing_15 : decode cX8_missing 15 = .ok (.iconst (-1), 1) := by decide +kernel
theorem dX8_missing_16 : decode cX8_missing 16 = .ok (.istore_n 3, 1) := by decide +kernel
theorem dX8_missing_17 : decode cX8_missing 17 = .ok (.iconst 0, 1) := by decide +kernel
theorem dX8_missing_18 : decode cX8_missing 18 = .ok (.istore 4, 2) := by decide +kernel
theorem dX8_missing_20 : decode cX8_missing 20 = .ok (.iload 4, 2) := by decide +kernel
theorem dX8_missing_22 : decode cX8_missing 22 = .ok (.bipush 100, 2) := by decide +kernel
theorem dX8_missing_24 : decode cX8_missing 24 = .ok (.if_icmp .ge 66, 3) := by decide +kernel
theorem dX8_missing_27 : decode cX8_missing 27 = .ok (.aload_n 0, 1) := by decide +kernel
theorem dX8_missing_28 : decode cX8_missing 28 = .ok (.getfield 32, 3) := by decide +kernel
theorem dX8_missing_31 : decode cX8_missing 31 = .ok (.iload 4, 2) := by decide +kernel
theorem dX8_missing_33 : decode cX8_missing 33 = .ok (.iaload, 1) := by decide +kernel
theorem dX8_missing_34 : decode cX8_missing 34 = .ok (.ifCond .le 50, 3) := by decide +kernel
theorem dX8_missing_37 : decode cX8_missing 37 = .ok (.aload_n 0, 1) := by decide +kernel
theorem dX8_missing_38 : decode cX8_missing 38 = .ok (.iload 4, 2) := by decide +kernel
theorem dX8_missing_40 : decode cX8_missing 40 = .ok (.invokevirtual 345, 3) := by decide +kernel
theorem dX8_missing_43 : decode cX8_missing 43 = .ok (.ifCond .ne 41, 3) := by decide +kernel
theorem dX8_missing_46 : decode cX8_missing 46 = .ok (.iload_n 2, 1) := by decide +kernel
theorem dX8_missing_47 : decode cX8_missing 47 = .ok (.aload_n 0, 1) := by decide +kernel
theorem dX8_missing_48 : decode cX8_missing 48 = .ok (.getfield 32, 3) := by decide +kernel
theorem dX8_missing_51 : decode cX8_missing 51 = .ok (.iload 4, 2) := by decide +kernel
theorem dX8_missing_53 : decode cX8_missing 53 = .ok (.iaload, 1) := by decide +kernel
theorem dX8_missing_54 : decode cX8_missing 54 = .ok (.iadd, 1) := by decide +kernel
theorem dX8_missing_55 : decode cX8_missing 55 = .ok (.istore_n 2, 1) := by decide +kernel
theorem dX8_missing_56 : decode cX8_missing 56 = .ok (.iload_n 3, 1) := by decide +kernel
theorem dX8_missing_57 : decode cX8_missing 57 = .ok (.iconst (-1), 1) := by decide +kernel
theorem dX8_missing_58 : decode cX8_missing 58 = .ok (.if_icmp .eq 19, 3) := by decide +kernel
theorem dX8_missing_61 : decode cX8_missing 61 = .ok (.aload_n 0, 1) := by decide +kernel
theorem dX8_missing_62 : decode cX8_missing 62 = .ok (.getfield 32, 3) := by decide +kernel
theorem dX8_missing_65 : decode cX8_missing 65 = .ok (.iload 4, 2) := by decide +kernel
theorem dX8_missing_67 : decode cX8_missing 67 = .ok (.iaload, 1) := by decide +kernel
theorem dX8_missing_68 : decode cX8_missing 68 = .ok (.aload_n 0, 1) := by decide +kernel
theorem dX8_missing_69 : decode cX8_missing 69 = .ok (.getfield 32, 3) := by decide +kernel
theorem dX8_missing_72 : decode cX8_missing 72 = .ok (.iload_n 3, 1) := by decide +kernel
theorem dX8_missing_73 : decode cX8_missing 73 = .ok (.iaload, 1) := by decide +kernel
theorem dX8_missing_74 : decode cX8_missing 74 = .ok (.if_icmp .le 8, 3) := by decide +kernel
theorem dX8_missing_77 : decode cX8_missing 77 = .ok (.iload 4, 2) := by decide +kernel
theorem dX8_missing_79 : decode cX8_missing 79 = .ok (.goto 4, 3) := by decide +kernel
theorem dX8_missing_82 : decode cX8_missing 82 = .ok (.iload_n 3, 1) := by decide +kernel
theorem dX8_missing_83 : decode cX8_missing 83 = .ok (.istore_n 3, 1) := by decide +kernel
theorem dX8_missing_84 : decode cX8_missing 84 = .ok (.iinc 4 1, 3) := by decide +kernel
theorem dX8_missing_87 : decode cX8_missing 87 = .ok (.goto (-67), 3) := by decide +kernel
theorem dX8_missing_90 : decode cX8_missing 90 = .ok (.iload_n 1, 1) := by decide +kernel
theorem dX8_missing_91 : decode cX8_missing 91 = .ok (.ifCond .ne 7, 3) := by decide +kernel
theorem dX8_missing_94 : decode cX8_missing 94 = .ok (.iload_n 2, 1) := by decide +kernel
theorem dX8_missing_95 : decode cX8_missing 95 = .ok (.goto 4, 3) := by decide +kernel
theorem dX8_missing_98 : decode cX8_missing 98 = .ok (.iload_n 3, 1) := by decide +kernel
theorem dX8_missing_99 : decode cX8_missing 99 = .ok (.ireturn, 1) := by decide +kernel
theorem dX8_lies_0 : decode cX8_lies 0 = .ok (.aload_n 0, 1) := by decide +kernel
theorem dX8_lies_1 : decode cX8_lies 1 = .ok (.iload_n 1, 1) := by decide +kernel
theorem dX8_lies_2 : decode cX8_lies 2 = .ok (.invokevirtual 112, 3) := by decide +kernel
theorem dX8_lies_5 : decode cX8_lies 5 = .ok (.ifCond .ne 6, 3) := by decide +kernel
theorem dX8_lies_8 : decode cX8_lies 8 = .ok (.bipush (-2), 2) := by decide +kernel
theorem dX8_lies_10 : decode cX8_lies 10 = .ok (.ireturn, 1) := by decide +kernel
theorem dX8_lies_11 : decode cX8_lies 11 = .ok (.iconst 0, 1) := by decide +kernel
theorem dX8_lies_12 : decode cX8_lies 12 = .ok (.istore_n 2, 1) := by decide +kernel
theorem dX8_lies_13 : decode cX8_lies 13 = .ok (.iconst 0, 1) := by decide +kernel
theorem dX8_lies_14 : decode cX8_lies 14 = .ok (.istore_n 3, 1) := by decide +kernel
theorem dX8_lies_15 : decode cX8_lies 15 = .ok (.iload_n 3, 1) := by decide +kernel
theorem dX8_lies_16 : decode cX8_lies 16 = .ok (.bipush 20, 2) := by decide +kernel
theorem dX8_lies_18 : decode cX8_lies 18 = .ok (.if_icmp .ge 40, 3) := by decide +kernel
theorem dX8_lies_21 : decode cX8_lies 21 = .ok (.aload_n 0, 1) := by decide +kernel
theorem dX8_lies_22 : decode cX8_lies 22 = .ok (.getfield 44, 3) := by decide +kernel
theorem dX8_lies_25 : decode cX8_lies 25 = .ok (.iload_n 1, 1) := by decide +kernel
theorem dX8_lies_26 : decode cX8_lies 26 = .ok (.iaload, 1) := by decide +kernel
theorem dX8_lies_27 : decode cX8_lies 27 = .ok (.iload_n 3, 1) := by decide +kernel
theorem dX8_lies_28 : decode cX8_lies 28 = .ok (.ishr, 1) := by decide +kernel
theorem dX8_lies_29 : decode cX8_lies 29 = .ok (.iconst 1, 1) := by decide +kernel
theorem dX8_lies_30 : decode cX8_lies 30 = .ok (.iand, 1) := by decide +kernel
theorem dX8_lies_31 : decode cX8_lies 31 = .ok (.iconst 1, 1) := by decide +kernel
theorem dX8_lies_32 : decode cX8_lies 32 = .ok (.if_icmp .ne 20, 3) := by decide +kernel
theorem dX8_lies_35 : decode cX8_lies 35 = .ok (.aload_n 0, 1) := by decide +kernel
theorem dX8_lies_36 : decode cX8_lies 36 = .ok (.iload_n 1, 1) := by decide +kernel
theorem dX8_lies_37 : decode cX8_lies 37 = .ok (.iconst 1, 1) := by decide +kernel
theorem dX8_lies_38 : decode cX8_lies 38 = .ok (.iload_n 3, 1) := by decide +kernel
theorem dX8_lies_39 : decode cX8_lies 39 = .ok (.ishl, 1) := by decide +kernel
theorem dX8_lies_40 : decode cX8_lies 40 = .ok (.invokevirtual 351, 3) := by decide +kernel
theorem dX8_lies_43 : decode cX8_lies 43 = .ok (.ifCond .ne 9, 3) := by decide +kernel
theorem dX8_lies_46 : decode cX8_lies 46 = .ok (.iload_n 2, 1) := by decide +kernel
theorem dX8_lies_47 : decode cX8_lies 47 = .ok (.iconst 1, 1) := by decide +kernel
theorem dX8_lies_48 : decode cX8_lies 48 = .ok (.iload_n 3, 1) := by decide +kernel
theorem dX8_lies_49 : decode cX8_lies 49 = .ok (.ishl, 1) := by decide +kernel
theorem dX8_lies_50 : decode cX8_lies 50 = .ok (.ior, 1) := by decide +kernel
theorem dX8_lies_51 : decode cX8_lies 51 = .ok (.istore_n 2, 1) := by decide +kernel
theorem dX8_lies_52 : decode cX8_lies 52 = .ok (.iinc 3 1, 3) := by decide +kernel
theorem dX8_lies_55 : decode cX8_lies 55 = .ok (.goto (-40), 3) := by decide +kernel
theorem dX8_lies_58 : decode cX8_lies 58 = .ok (.iload_n 2, 1) := by decide +kernel
theorem dX8_lies_59 : decode cX8_lies 59 = .ok (.ireturn, 1) := by decide +kernel
theorem dX8_runs_0 : decode cX8_runs 0 = .ok (.iload_n 1, 1) := by decide +kernel
theorem dX8_runs_1 : decode cX8_runs 1 = .ok (.invokestatic 280, 3) := by decide +kernel
theorem dX8_runs_4 : decode cX8_runs 4 = .ok (.ifCond .eq 29, 3) := by decide +kernel
theorem dX8_runs_7 : decode cX8_runs 7 = .ok (.aload_n 0, 1) := by decide +kernel
theorem dX8_runs_8 : decode cX8_runs 8 = .ok (.iload_n 2, 1) := by decide +kernel
theorem dX8_runs_9 : decode cX8_runs 9 = .ok (.invokevirtual 112, 3) := by decide +kernel
theorem dX8_runs_12 : decode cX8_runs 12 = .ok (.ifCond .eq 21, 3) := by decide +kernel
theorem dX8_runs_15 : decode cX8_runs 15 = .ok (.iload_n 3, 1) := by decide +kernel
theorem dX8_runs_16 : decode cX8_runs 16 = .ok (.invokestatic 108, 3) := by decide +kernel
theorem dX8_runs_19 : decode cX8_runs 19 = .ok (.ifCond .eq 14, 3) := by decide +kernel
theorem dX8_runs_22 : decode cX8_runs 22 = .ok (.iload 4, 2) := by decide +kernel
theorem dX8_runs_24 : decode cX8_runs 24 = .ok (.i2l, 1) := by decide +kernel
theorem dX8_runs_25 : decode cX8_runs 25 = .ok (.lconst 0, 1) := by decide +kernel
theorem dX8_runs_26 : decode cX8_runs 26 = .ok (.lconst 1, 1) := by decide +kernel
theorem dX8_runs_27 : decode cX8_runs 27 = .ok (.invokestatic 100, 3) := by decide +kernel
theorem dX8_runs_30 : decode cX8_runs 30 = .ok (.ifCond .ne 6, 3) := by decide +kernel
theorem dX8_runs_33 : decode cX8_runs 33 = .ok (.bipush (-2), 2) := by decide +kernel
theorem dX8_runs_35 : decode cX8_runs 35 = .ok (.ireturn, 1) := by decide +kernel
theorem dX8_runs_36 : decode cX8_runs 36 = .ok (.aload_n 0, 1) := by decide +kernel
theorem dX8_runs_37 : decode cX8_runs 37 = .ok (.iload_n 1, 1) := by decide +kernel
theorem dX8_runs_38 : decode cX8_runs 38 = .ok (.invokevirtual 291, 3) := by decide +kernel
theorem dX8_runs_41 : decode cX8_runs 41 = .ok (.istore 5, 2) := by decide +kernel
theorem dX8_runs_43 : decode cX8_runs 43 = .ok (.iload 5, 2) := by decide +kernel
theorem dX8_runs_45 : decode cX8_runs 45 = .ok (.ifCond .eq 6, 3) := by decide +kernel
theorem dX8_runs_48 : decode cX8_runs 48 = .ok (.iload 5, 2) := by decide +kernel
theorem dX8_runs_50 : decode cX8_runs 50 = .ok (.ireturn, 1) := by decide +kernel
theorem dX8_runs_51 : decode cX8_runs 51 = .ok (.aload_n 0, 1) := by decide +kernel
theorem dX8_runs_52 : decode cX8_runs 52 = .ok (.getfield 41, 3) := by decide +kernel
theorem dX8_runs_55 : decode cX8_runs 55 = .ok (.iload_n 2, 1) := by decide +kernel
theorem dX8_runs_56 : decode cX8_runs 56 = .ok (.iaload, 1) := by decide +kernel
theorem dX8_runs_57 : decode cX8_runs 57 = .ok (.istore 6, 2) := by decide +kernel
theorem dX8_runs_59 : decode cX8_runs 59 = .ok (.aload_n 0, 1) := by decide +kernel
theorem dX8_runs_60 : decode cX8_runs 60 = .ok (.getfield 35, 3) := by decide +kernel
theorem dX8_runs_63 : decode cX8_runs 63 = .ok (.iload_n 2, 1) := by decide +kernel
theorem dX8_runs_64 : decode cX8_runs 64 = .ok (.iaload, 1) := by decide +kernel
theorem dX8_runs_65 : decode cX8_runs 65 = .ok (.istore 7, 2) := by decide +kernel
theorem dX8_runs_67 : decode cX8_runs 67 = .ok (.iconst 0, 1) := by decide +kernel
theorem dX8_runs_68 : decode cX8_runs 68 = .ok (.istore 8, 2) := by decide +kernel
theorem dX8_runs_70 : decode cX8_runs 70 = .ok (.iconst 0, 1) := by decide +kernel
theorem dX8_runs_71 : decode cX8_runs 71 = .ok (.istore 9, 2) := by decide +kernel
theorem dX8_runs_73 : decode cX8_runs 73 = .ok (.iload 9, 2) := by decide +kernel
theorem dX8_runs_75 : decode cX8_runs 75 = .ok (.iload 4, 2) := by decide +kernel
theorem dX8_runs_77 : decode cX8_runs 77 = .ok (.ifCond .ne 8, 3) := by decide +kernel
theorem dX8_runs_80 : decode cX8_runs 80 = .ok (.bipush 19, 2) := by decide +kernel
theorem dX8_runs_82 : decode cX8_runs 82 = .ok (.goto 5, 3) := by decide +kernel
theorem dX8_runs_85 : decode cX8_runs 85 = .ok (.bipush 6, 2) := by decide +kernel
theorem dX8_runs_87 : decode cX8_runs 87 = .ok (.if_icmp .ge 59, 3) := by decide +kernel
theorem dX8_runs_90 : decode cX8_runs 90 = .ok (.iload 4, 2) := by decide +kernel
theorem dX8_runs_92 : decode cX8_runs 92 = .ok (.ifCond .ne 17, 3) := by decide +kernel
theorem dX8_runs_95 : decode cX8_runs 95 = .ok (.aload_n 0, 1) := by decide +kernel
theorem dX8_runs_96 : decode cX8_runs 96 = .ok (.getfield 41, 3) := by decide +kernel
theorem dX8_runs_99 : decode cX8_runs 99 = .ok (.iload_n 2, 1) := by decide +kernel
theorem dX8_runs_100 : decode cX8_runs 100 = .ok (.iload 9, 2) := by decide +kernel
theorem dX8_runs_102 : decode cX8_runs 102 = .ok (.bipush 9, 2) := by decide +kernel
theorem dX8_runs_104 : decode cX8_runs 104 = .ok (.isub, 1) := by decide +kernel
theorem dX8_runs_105 : decode cX8_runs 105 = .ok (.iastore, 1) := by decide +kernel
theorem dX8_runs_106 : decode cX8_runs 106 = .ok (.goto 11, 3) := by decide +kernel
theorem dX8_runs_109 : decode cX8_runs 109 = .ok (.aload_n 0, 1) := by decide +kernel
theorem dX8_runs_110 : decode cX8_runs 110 = .ok (.getfield 35, 3) := by decide +kernel
theorem dX8_runs_113 : decode cX8_runs 113 = .ok (.iload_n 2, 1) := by decide +kernel
theorem dX8_runs_114 : decode cX8_runs 114 = .ok (.iload 9, 2) := by decide +kernel
theorem dX8_runs_116 : decode cX8_runs 116 = .ok (.iastore, 1) := by decide +kernel
theorem dX8_runs_117 : decode cX8_runs 117 = .ok (.iload 8, 2) := by decide +kernel
theorem dX8_runs_119 : decode cX8_runs 119 = .ok (.aload_n 0, 1) := by decide +kernel
theorem dX8_runs_120 : decode cX8_runs 120 = .ok (.iload_n 1, 1) := by decide +kernel
theorem dX8_runs_121 : decode cX8_runs 121 = .ok (.iload_n 3, 1) := by decide +kernel
theorem dX8_runs_122 : decode cX8_runs 122 = .ok (.iload_n 2, 1) := by decide +kernel
theorem dX8_runs_123 : decode cX8_runs 123 = .ok (.invokevirtual 287, 3) := by decide +kernel
theorem dX8_runs_126 : decode cX8_runs 126 = .ok (.ifCond .eq 7, 3) := by decide +kernel
theorem dX8_runs_129 : decode cX8_runs 129 = .ok (.iconst 1, 1) := by decide +kernel
theorem dX8_runs_130 : decode cX8_runs 130 = .ok (.goto 4, 3) := by decide +kernel
theorem dX8_runs_133 : decode cX8_runs 133 = .ok (.iconst 0, 1) := by decide +kernel
theorem dX8_runs_134 : decode cX8_runs 134 = .ok (.iload 9, 2) := by decide +kernel
theorem dX8_runs_136 : decode cX8_runs 136 = .ok (.ishl, 1) := by decide +kernel
theorem dX8_runs_137 : decode cX8_runs 137 = .ok (.ior, 1) := by decide +kernel
theorem dX8_runs_138 : decode cX8_runs 138 = .ok (.istore 8, 2) := by decide +kernel
theorem dX8_runs_140 : decode cX8_runs 140 = .ok (.iinc 9 1, 3) := by decide +kernel
theorem dX8_runs_143 : decode cX8_runs 143 = .ok (.goto (-70), 3) := by decide +kernel
theorem dX8_runs_146 : decode cX8_runs 146 = .ok (.aload_n 0, 1) := by decide +kernel
theorem dX8_runs_147 : decode cX8_runs 147 = .ok (.getfield 41, 3) := by decide +kernel
theorem dX8_runs_150 : decode cX8_runs 150 = .ok (.iload_n 2, 1) := by decide +kernel
theorem dX8_runs_151 : decode cX8_runs 151 = .ok (.iload 6, 2) := by decide +kernel
theorem dX8_runs_153 : decode cX8_runs 153 = .ok (.iastore, 1) := by decide +kernel
theorem dX8_runs_154 : decode cX8_runs 154 = .ok (.aload_n 0, 1) := by decide +kernel
theorem dX8_runs_155 : decode cX8_runs 155 = .ok (.getfield 35, 3) := by decide +kernel
theorem dX8_runs_158 : decode cX8_runs 158 = .ok (.iload_n 2, 1) := by decide +kernel
theorem dX8_runs_159 : decode cX8_runs 159 = .ok (.iload 7, 2) := by decide +kernel
theorem dX8_runs_161 : decode cX8_runs 161 = .ok (.iastore, 1) := by decide +kernel
theorem dX8_runs_162 : decode cX8_runs 162 = .ok (.iload 8, 2) := by decide +kernel
theorem dX8_runs_164 : decode cX8_runs 164 = .ok (.ireturn, 1) := by decide +kernel
theorem dX8_film_0 : decode cX8_film 0 = .ok (.iload_n 1, 1) := by decide +kernel
theorem dX8_film_1 : decode cX8_film 1 = .ok (.invokestatic 280, 3) := by decide +kernel
theorem dX8_film_4 : decode cX8_film 4 = .ok (.ifCond .eq 22, 3) := by decide +kernel
theorem dX8_film_7 : decode cX8_film 7 = .ok (.iload_n 2, 1) := by decide +kernel
theorem dX8_film_8 : decode cX8_film 8 = .ok (.invokestatic 108, 3) := by decide +kernel
theorem dX8_film_11 : decode cX8_film 11 = .ok (.ifCond .eq 15, 3) := by decide +kernel
theorem dX8_film_14 : decode cX8_film 14 = .ok (.iload_n 3, 1) := by decide +kernel
theorem dX8_film_15 : decode cX8_film 15 = .ok (.i2l, 1) := by decide +kernel
theorem dX8_film_16 : decode cX8_film 16 = .ok (.lconst 0, 1) := by decide +kernel
theorem dX8_film_17 : decode cX8_film 17 = .ok (.ldc2_w 372, 3) := by decide +kernel
theorem dX8_film_20 : decode cX8_film 20 = .ok (.invokestatic 100, 3) := by decide +kernel
theorem dX8_film_23 : decode cX8_film 23 = .ok (.ifCond .ne 6, 3) := by decide +kernel
theorem dX8_film_26 : decode cX8_film 26 = .ok (.bipush (-2), 2) := by decide +kernel
theorem dX8_film_28 : decode cX8_film 28 = .ok (.ireturn, 1) := by decide +kernel
theorem dX8_film_29 : decode cX8_film 29 = .ok (.aload_n 0, 1) := by decide +kernel
theorem dX8_film_30 : decode cX8_film 30 = .ok (.invokevirtual 374, 3) := by decide +kernel
theorem dX8_film_33 : decode cX8_film 33 = .ok (.iload_n 3, 1) := by decide +kernel
theorem dX8_film_34 : decode cX8_film 34 = .ok (.if_icmp .ge 10, 3) := by decide +kernel
theorem dX8_film_37 : decode cX8_film 37 = .ok (.aload_n 0, 1) := by decide +kernel
theorem dX8_film_38 : decode cX8_film 38 = .ok (.invokevirtual 374, 3) := by decide +kernel
theorem dX8_film_41 : decode cX8_film 41 = .ok (.goto 4, 3) := by decide +kernel
theorem dX8_film_44 : decode cX8_film 44 = .ok (.iload_n 3, 1) := by decide +kernel
theorem dX8_film_45 : decode cX8_film 45 = .ok (.istore 4, 2) := by decide +kernel
theorem dX8_film_47 : decode cX8_film 47 = .ok (.aload_n 0, 1) := by decide +kernel
theorem dX8_film_48 : decode cX8_film 48 = .ok (.iload_n 1, 1) := by decide +kernel
theorem dX8_film_49 : decode cX8_film 49 = .ok (.iconst 0, 1) := by decide +kernel
theorem dX8_film_50 : decode cX8_film 50 = .ok (.iconst 2, 1) := by decide +kernel
theorem dX8_film_51 : decode cX8_film 51 = .ok (.iload 4, 2) := by decide +kernel
theorem dX8_film_53 : decode cX8_film 53 = .ok (.imul, 1) := by decide +kernel
theorem dX8_film_54 : decode cX8_film 54 = .ok (.invokevirtual 377, 3) := by decide +kernel
theorem dX8_film_57 : decode cX8_film 57 = .ok (.pop, 1) := by decide +kernel
theorem dX8_film_58 : decode cX8_film 58 = .ok (.iconst 0, 1) := by decide +kernel
theorem dX8_film_59 : decode cX8_film 59 = .ok (.istore 5, 2) := by decide +kernel
theorem dX8_film_61 : decode cX8_film 61 = .ok (.iconst 0, 1) := by decide +kernel
theorem dX8_film_62 : decode cX8_film 62 = .ok (.istore 6, 2) := by decide +kernel
theorem dX8_film_64 : decode cX8_film 64 = .ok (.iload 6, 2) := by decide +kernel
theorem dX8_film_66 : decode cX8_film 66 = .ok (.bipush 20, 2) := by decide +kernel
theorem dX8_film_68 : decode cX8_film 68 = .ok (.aload_n 0, 1) := by decide +kernel
theorem dX8_film_69 : decode cX8_film 69 = .ok (.getfield 97, 3) := by decide +kernel
theorem dX8_film_72 : decode cX8_film 72 = .ok (.imul, 1) := by decide +kernel
theorem dX8_film_73 : decode cX8_film 73 = .ok (.if_icmp .ge 67, 3) := by decide +kernel
theorem dX8_film_76 : decode cX8_film 76 = .ok (.iload 5, 2) := by decide +kernel
theorem dX8_film_78 : decode cX8_film 78 = .ok (.iload 4, 2) := by decide +kernel
theorem dX8_film_80 : decode cX8_film 80 = .ok (.if_icmp .ge 60, 3) := by decide +kernel
theorem dX8_film_83 : decode cX8_film 83 = .ok (.aload_n 0, 1) := by decide +kernel
theorem dX8_film_84 : decode cX8_film 84 = .ok (.iload 6, 2) := by decide +kernel
theorem dX8_film_86 : decode cX8_film 86 = .ok (.invokevirtual 277, 3) := by decide +kernel
theorem dX8_film_89 : decode cX8_film 89 = .ok (.ifCond .eq 45, 3) := by decide +kernel
theorem dX8_film_92 : decode cX8_film 92 = .ok (.aload_n 0, 1) := by decide +kernel
theorem dX8_film_93 : decode cX8_film 93 = .ok (.getfield 87, 3) := by decide +kernel
theorem dX8_film_96 : decode cX8_film 96 = .ok (.bipush 40, 2) := by decide +kernel
theorem dX8_film_98 : decode cX8_film 98 = .ok (.iload_n 1, 1) := by decide +kernel
theorem dX8_film_99 : decode cX8_film 99 = .ok (.imul, 1) := by decide +kernel
theorem dX8_film_100 : decode cX8_film 100 = .ok (.iconst 2, 1) := by decide +kernel
theorem dX8_film_101 : decode cX8_film 101 = .ok (.iload 5, 2) := by decide +kernel
theorem dX8_film_103 : decode cX8_film 103 = .ok (.imul, 1) := by decide +kernel
theorem dX8_film_104 : decode cX8_film 104 = .ok (.iadd, 1) := by decide +kernel
theorem dX8_film_105 : decode cX8_film 105 = .ok (.iload 6, 2) := by decide +kernel
theorem dX8_film_107 : decode cX8_film 107 = .ok (.iastore, 1) := by decide +kernel
theorem dX8_film_108 : decode cX8_film 108 = .ok (.aload_n 0, 1) := by decide +kernel
theorem dX8_film_109 : decode cX8_film 109 = .ok (.getfield 87, 3) := by decide +kernel
theorem dX8_film_112 : decode cX8_film 112 = .ok (.bipush 40, 2) := by decide +kernel
theorem dX8_film_114 : decode cX8_film 114 = .ok (.iload_n 1, 1) := by decide +kernel
theorem dX8_film_115 : decode cX8_film 115 = .ok (.imul, 1) := by decide +kernel
theorem dX8_film_116 : decode cX8_film 116 = .ok (.iconst 2, 1) := by decide +kernel
theorem dX8_film_117 : decode cX8_film 117 = .ok (.iload 5, 2) := by decide +kernel
theorem dX8_film_119 : decode cX8_film 119 = .ok (.imul, 1) := by decide +kernel
theorem dX8_film_120 : decode cX8_film 120 = .ok (.iadd, 1) := by decide +kernel
theorem dX8_film_121 : decode cX8_film 121 = .ok (.iconst 1, 1) := by decide +kernel
theorem dX8_film_122 : decode cX8_film 122 = .ok (.iadd, 1) := by decide +kernel
theorem dX8_film_123 : decode cX8_film 123 = .ok (.aload_n 0, 1) := by decide +kernel
theorem dX8_film_124 : decode cX8_film 124 = .ok (.iload 6, 2) := by decide +kernel
theorem dX8_film_126 : decode cX8_film 126 = .ok (.iload_n 2, 1) := by decide +kernel
theorem dX8_film_127 : decode cX8_film 127 = .ok (.invokevirtual 148, 3) := by decide +kernel
theorem dX8_film_130 : decode cX8_film 130 = .ok (.iastore, 1) := by decide +kernel
theorem dX8_film_131 : decode cX8_film 131 = .ok (.iinc 5 1, 3) := by decide +kernel
theorem dX8_film_134 : decode cX8_film 134 = .ok (.iinc 6 1, 3) := by decide +kernel
theorem dX8_film_137 : decode cX8_film 137 = .ok (.goto (-73), 3) := by decide +kernel
theorem dX8_film_140 : decode cX8_film 140 = .ok (.iload 4, 2) := by decide +kernel
theorem dX8_film_142 : decode cX8_film 142 = .ok (.ireturn, 1) := by decide +kernel
theorem dX8_stockMany_0 : decode cX8_stockMany 0 = .ok (.iconst 0, 1) := by decide +kernel
theorem dX8_stockMany_1 : decode cX8_stockMany 1 = .ok (.istore_n 1, 1) := by decide +kernel
theorem dX8_stockMany_2 : decode cX8_stockMany 2 = .ok (.iconst 0, 1) := by decide +kernel
theorem dX8_stockMany_3 : decode cX8_stockMany 3 = .ok (.istore_n 2, 1) := by decide +kernel
theorem dX8_stockMany_4 : decode cX8_stockMany 4 = .ok (.iload_n 2, 1) := by decide +kernel
theorem dX8_stockMany_5 : decode cX8_stockMany 5 = .ok (.bipush 20, 2) := by decide +kernel
theorem dX8_stockMany_7 : decode cX8_stockMany 7 = .ok (.aload_n 0, 1) := by decide +kernel
theorem dX8_stockMany_8 : decode cX8_stockMany 8 = .ok (.getfield 97, 3) := by decide +kernel
theorem dX8_stockMany_11 : decode cX8_stockMany 11 = .ok (.imul, 1) := by decide +kernel
theorem dX8_stockMany_12 : decode cX8_stockMany 12 = .ok (.if_icmp .ge 25, 3) := by decide +kernel
theorem dX8_stockMany_15 : decode cX8_stockMany 15 = .ok (.iload_n 1, 1) := by decide +kernel
theorem dX8_stockMany_16 : decode cX8_stockMany 16 = .ok (.aload_n 0, 1) := by decide +kernel
theorem dX8_stockMany_17 : decode cX8_stockMany 17 = .ok (.iload_n 2, 1) := by decide +kernel
theorem dX8_stockMany_18 : decode cX8_stockMany 18 = .ok (.invokevirtual 277, 3) := by decide +kernel
theorem dX8_stockMany_21 : decode cX8_stockMany 21 = .ok (.ifCond .eq 7, 3) := by decide +kernel
theorem dX8_stockMany_24 : decode cX8_stockMany 24 = .ok (.iconst 1, 1) := by decide +kernel
theorem dX8_stockMany_25 : decode cX8_stockMany 25 = .ok (.goto 4, 3) := by decide +kernel
theorem dX8_stockMany_28 : decode cX8_stockMany 28 = .ok (.iconst 0, 1) := by decide +kernel
theorem dX8_stockMany_29 : decode cX8_stockMany 29 = .ok (.iadd, 1) := by decide +kernel
theorem dX8_stockMany_30 : decode cX8_stockMany 30 = .ok (.istore_n 1, 1) := by decide +kernel
theorem dX8_stockMany_31 : decode cX8_stockMany 31 = .ok (.iinc 2 1, 3) := by decide +kernel
theorem dX8_stockMany_34 : decode cX8_stockMany 34 = .ok (.goto (-30), 3) := by decide +kernel
theorem dX8_stockMany_37 : decode cX8_stockMany 37 = .ok (.iload_n 1, 1) := by decide +kernel
theorem dX8_stockMany_38 : decode cX8_stockMany 38 = .ok (.ireturn, 1) := by decide +kernel
theorem dX8_draws_0 : decode cX8_draws 0 = .ok (.iload_n 1, 1) := by decide +kernel
theorem dX8_draws_1 : decode cX8_draws 1 = .ok (.istore_n 2, 1) := by decide +kernel
theorem dX8_draws_2 : decode cX8_draws 2 = .ok (.iconst 0, 1) := by decide +kernel
theorem dX8_draws_3 : decode cX8_draws 3 = .ok (.istore_n 3, 1) := by decide +kernel
theorem dX8_draws_4 : decode cX8_draws 4 = .ok (.iload_n 3, 1) := by decide +kernel
theorem dX8_draws_5 : decode cX8_draws 5 = .ok (.bipush 100, 2) := by decide +kernel
theorem dX8_draws_7 : decode cX8_draws 7 = .ok (.if_icmp .ge 44, 3) := by decide +kernel
theorem dX8_draws_10 : decode cX8_draws 10 = .ok (.aload_n 0, 1) := by decide +kernel
theorem dX8_draws_11 : decode cX8_draws 11 = .ok (.getfield 66, 3) := by decide +kernel
theorem dX8_draws_14 : decode cX8_draws 14 = .ok (.iload_n 3, 1) := by decide +kernel
theorem dX8_draws_15 : decode cX8_draws 15 = .ok (.aload_n 0, 1) := by decide +kernel
theorem dX8_draws_16 : decode cX8_draws 16 = .ok (.getfield 32, 3) := by decide +kernel
theorem dX8_draws_19 : decode cX8_draws 19 = .ok (.iload_n 3, 1) := by decide +kernel
theorem dX8_draws_20 : decode cX8_draws 20 = .ok (.iaload, 1) := by decide +kernel
theorem dX8_draws_21 : decode cX8_draws 21 = .ok (.iastore, 1) := by decide +kernel
theorem dX8_draws_22 : decode cX8_draws 22 = .ok (.iload_n 2, 1) := by decide +kernel
theorem dX8_draws_23 : decode cX8_draws 23 = .ok (.ldc_w 380, 3) := by decide +kernel
theorem dX8_draws_26 : decode cX8_draws 26 = .ok (.imul, 1) := by decide +kernel
theorem dX8_draws_27 : decode cX8_draws 27 = .ok (.sipush 12345, 3) := by decide +kernel
theorem dX8_draws_30 : decode cX8_draws 30 = .ok (.iadd, 1) := by decide +kernel
theorem dX8_draws_31 : decode cX8_draws 31 = .ok (.istore_n 2, 1) := by decide +kernel
theorem dX8_draws_32 : decode cX8_draws 32 = .ok (.aload_n 0, 1) := by decide +kernel
theorem dX8_draws_33 : decode cX8_draws 33 = .ok (.getfield 32, 3) := by decide +kernel
theorem dX8_draws_36 : decode cX8_draws 36 = .ok (.iload_n 3, 1) := by decide +kernel
theorem dX8_draws_37 : decode cX8_draws 37 = .ok (.iload_n 2, 1) := by decide +kernel
theorem dX8_draws_38 : decode cX8_draws 38 = .ok (.bipush 9, 2) := by decide +kernel
theorem dX8_draws_40 : decode cX8_draws 40 = .ok (.iushr, 1) := by decide +kernel
theorem dX8_draws_41 : decode cX8_draws 41 = .ok (.bipush 10, 2) := by decide +kernel
theorem dX8_draws_43 : decode cX8_draws 43 = .ok (.irem, 1) := by decide +kernel
theorem dX8_draws_44 : decode cX8_draws 44 = .ok (.iastore, 1) := by decide +kernel
theorem dX8_draws_45 : decode cX8_draws 45 = .ok (.iinc 3 1, 3) := by decide +kernel
theorem dX8_draws_48 : decode cX8_draws 48 = .ok (.goto (-44), 3) := by decide +kernel
theorem dX8_draws_51 : decode cX8_draws 51 = .ok (.aload_n 0, 1) := by decide +kernel
theorem dX8_draws_52 : decode cX8_draws 52 = .ok (.invokevirtual 348, 3) := by decide +kernel
theorem dX8_draws_55 : decode cX8_draws 55 = .ok (.istore_n 3, 1) := by decide +kernel
theorem dX8_draws_56 : decode cX8_draws 56 = .ok (.aload_n 0, 1) := by decide +kernel
theorem dX8_draws_57 : decode cX8_draws 57 = .ok (.aload_n 0, 1) := by decide +kernel
theorem dX8_draws_58 : decode cX8_draws 58 = .ok (.invokevirtual 381, 3) := by decide +kernel
theorem dX8_draws_61 : decode cX8_draws 61 = .ok (.putfield 384, 3) := by decide +kernel
theorem dX8_draws_64 : decode cX8_draws 64 = .ok (.iconst 0, 1) := by decide +kernel
theorem dX8_draws_65 : decode cX8_draws 65 = .ok (.istore 4, 2) := by decide +kernel
theorem dX8_draws_67 : decode cX8_draws 67 = .ok (.iload 4, 2) := by decide +kernel
theorem dX8_draws_69 : decode cX8_draws 69 = .ok (.bipush 100, 2) := by decide +kernel
theorem dX8_draws_71 : decode cX8_draws 71 = .ok (.if_icmp .ge 23, 3) := by decide +kernel
theorem dX8_draws_74 : decode cX8_draws 74 = .ok (.aload_n 0, 1) := by decide +kernel
theorem dX8_draws_75 : decode cX8_draws 75 = .ok (.getfield 32, 3) := by decide +kernel
theorem dX8_draws_78 : decode cX8_draws 78 = .ok (.iload 4, 2) := by decide +kernel
theorem dX8_draws_80 : decode cX8_draws 80 = .ok (.aload_n 0, 1) := by decide +kernel
theorem dX8_draws_81 : decode cX8_draws 81 = .ok (.getfield 66, 3) := by decide +kernel
theorem dX8_draws_84 : decode cX8_draws 84 = .ok (.iload 4, 2) := by decide +kernel
theorem dX8_draws_86 : decode cX8_draws 86 = .ok (.iaload, 1) := by decide +kernel
theorem dX8_draws_87 : decode cX8_draws 87 = .ok (.iastore, 1) := by decide +kernel
theorem dX8_draws_88 : decode cX8_draws 88 = .ok (.iinc 4 1, 3) := by decide +kernel
theorem dX8_draws_91 : decode cX8_draws 91 = .ok (.goto (-24), 3) := by decide +kernel
theorem dX8_draws_94 : decode cX8_draws 94 = .ok (.iload_n 3, 1) := by decide +kernel
theorem dX8_draws_95 : decode cX8_draws 95 = .ok (.ireturn, 1) := by decide +kernel
theorem dX8_drawn_0 : decode cX8_drawn 0 = .ok (.aload_n 0, 1) := by decide +kernel
theorem dX8_drawn_1 : decode cX8_drawn 1 = .ok (.iload_n 1, 1) := by decide +kernel
theorem dX8_drawn_2 : decode cX8_drawn 2 = .ok (.invokevirtual 387, 3) := by decide +kernel
theorem dX8_drawn_5 : decode cX8_drawn 5 = .ok (.ireturn, 1) := by decide +kernel
theorem dX8_chance_0 : decode cX8_chance 0 = .ok (.iload_n 2, 1) := by decide +kernel
theorem dX8_chance_1 : decode cX8_chance 1 = .ok (.i2l, 1) := by decide +kernel
theorem dX8_chance_2 : decode cX8_chance 2 = .ok (.lconst 1, 1) := by decide +kernel
theorem dX8_chance_3 : decode cX8_chance 3 = .ok (.ldc2_w 372, 3) := by decide +kernel
theorem dX8_chance_6 : decode cX8_chance 6 = .ok (.invokestatic 100, 3) := by decide +kernel
theorem dX8_chance_9 : decode cX8_chance 9 = .ok (.ifCond .eq 13, 3) := by decide +kernel
theorem dX8_chance_12 : decode cX8_chance 12 = .ok (.iload_n 3, 1) := by decide +kernel
theorem dX8_chance_13 : decode cX8_chance 13 = .ok (.i2l, 1) := by decide +kernel
theorem dX8_chance_14 : decode cX8_chance 14 = .ok (.lconst 0, 1) := by decide +kernel
theorem dX8_chance_15 : decode cX8_chance 15 = .ok (.lconst 1, 1) := by decide +kernel
theorem dX8_chance_16 : decode cX8_chance 16 = .ok (.invokestatic 100, 3) := by decide +kernel
theorem dX8_chance_19 : decode cX8_chance 19 = .ok (.ifCond .ne 7, 3) := by decide +kernel
theorem dX8_chance_22 : decode cX8_chance 22 = .ok (.ldc2_w 390, 3) := by decide +kernel
theorem dX8_chance_25 : decode cX8_chance 25 = .ok (.lreturn, 1) := by decide +kernel
theorem dX8_chance_26 : decode cX8_chance 26 = .ok (.lconst 0, 1) := by decide +kernel
theorem dX8_chance_27 : decode cX8_chance 27 = .ok (.lstore 4, 2) := by decide +kernel
theorem dX8_chance_29 : decode cX8_chance 29 = .ok (.iconst 0, 1) := by decide +kernel
theorem dX8_chance_30 : decode cX8_chance 30 = .ok (.istore 6, 2) := by decide +kernel
theorem dX8_chance_32 : decode cX8_chance 32 = .ok (.iload 6, 2) := by decide +kernel
theorem dX8_chance_34 : decode cX8_chance 34 = .ok (.iload_n 2, 1) := by decide +kernel
theorem dX8_chance_35 : decode cX8_chance 35 = .ok (.if_icmp .ge 40, 3) := by decide +kernel
theorem dX8_chance_38 : decode cX8_chance 38 = .ok (.aload_n 0, 1) := by decide +kernel
theorem dX8_chance_39 : decode cX8_chance 39 = .ok (.iload_n 1, 1) := by decide +kernel
theorem dX8_chance_40 : decode cX8_chance 40 = .ok (.iload 6, 2) := by decide +kernel
theorem dX8_chance_42 : decode cX8_chance 42 = .ok (.iadd, 1) := by decide +kernel
theorem dX8_chance_43 : decode cX8_chance 43 = .ok (.invokevirtual 387, 3) := by decide +kernel
theorem dX8_chance_46 : decode cX8_chance 46 = .ok (.istore 7, 2) := by decide +kernel
theorem dX8_chance_48 : decode cX8_chance 48 = .ok (.lload 4, 2) := by decide +kernel
theorem dX8_chance_50 : decode cX8_chance 50 = .ok (.iconst 2, 1) := by decide +kernel
theorem dX8_chance_51 : decode cX8_chance 51 = .ok (.iload 7, 2) := by decide +kernel
theorem dX8_chance_53 : decode cX8_chance 53 = .ok (.imul, 1) := by decide +kernel
theorem dX8_chance_54 : decode cX8_chance 54 = .ok (.aload_n 0, 1) := by decide +kernel
theorem dX8_chance_55 : decode cX8_chance 55 = .ok (.getfield 384, 3) := by decide +kernel
theorem dX8_chance_58 : decode cX8_chance 58 = .ok (.if_icmp .lt 7, 3) := by decide +kernel
theorem dX8_chance_61 : decode cX8_chance 61 = .ok (.lconst 1, 1) := by decide +kernel
theorem dX8_chance_62 : decode cX8_chance 62 = .ok (.goto 4, 3) := by decide +kernel
theorem dX8_chance_65 : decode cX8_chance 65 = .ok (.lconst 0, 1) := by decide +kernel
theorem dX8_chance_66 : decode cX8_chance 66 = .ok (.ladd, 1) := by decide +kernel
theorem dX8_chance_67 : decode cX8_chance 67 = .ok (.lstore 4, 2) := by decide +kernel
theorem dX8_chance_69 : decode cX8_chance 69 = .ok (.iinc 6 1, 3) := by decide +kernel
theorem dX8_chance_72 : decode cX8_chance 72 = .ok (.goto (-40), 3) := by decide +kernel
theorem dX8_chance_75 : decode cX8_chance 75 = .ok (.lload 4, 2) := by decide +kernel
theorem dX8_chance_77 : decode cX8_chance 77 = .ok (.lstore 6, 2) := by decide +kernel
theorem dX8_chance_79 : decode cX8_chance 79 = .ok (.iload_n 2, 1) := by decide +kernel
theorem dX8_chance_80 : decode cX8_chance 80 = .ok (.i2l, 1) := by decide +kernel
theorem dX8_chance_81 : decode cX8_chance 81 = .ok (.lstore 8, 2) := by decide +kernel
theorem dX8_chance_83 : decode cX8_chance 83 = .ok (.lload 8, 2) := by decide +kernel
theorem dX8_chance_85 : decode cX8_chance 85 = .ok (.lconst 0, 1) := by decide +kernel
theorem dX8_chance_86 : decode cX8_chance 86 = .ok (.lcmp, 1) := by decide +kernel
theorem dX8_chance_87 : decode cX8_chance 87 = .ok (.ifCond .eq 21, 3) := by decide +kernel
theorem dX8_chance_90 : decode cX8_chance 90 = .ok (.lload 6, 2) := by decide +kernel
theorem dX8_chance_92 : decode cX8_chance 92 = .ok (.lload 8, 2) := by decide +kernel
theorem dX8_chance_94 : decode cX8_chance 94 = .ok (.lrem, 1) := by decide +kernel
theorem dX8_chance_95 : decode cX8_chance 95 = .ok (.lstore 10, 2) := by decide +kernel
theorem dX8_chance_97 : decode cX8_chance 97 = .ok (.lload 8, 2) := by decide +kernel
theorem dX8_chance_99 : decode cX8_chance 99 = .ok (.lstore 6, 2) := by decide +kernel
theorem dX8_chance_101 : decode cX8_chance 101 = .ok (.lload 10, 2) := by decide +kernel
theorem dX8_chance_103 : decode cX8_chance 103 = .ok (.lstore 8, 2) := by decide +kernel
theorem dX8_chance_105 : decode cX8_chance 105 = .ok (.goto (-22), 3) := by decide +kernel
theorem dX8_chance_108 : decode cX8_chance 108 = .ok (.iload_n 3, 1) := by decide +kernel
theorem dX8_chance_109 : decode cX8_chance 109 = .ok (.ifCond .ne 11, 3) := by decide +kernel
theorem dX8_chance_112 : decode cX8_chance 112 = .ok (.lload 4, 2) := by decide +kernel
theorem dX8_chance_114 : decode cX8_chance 114 = .ok (.lload 6, 2) := by decide +kernel
theorem dX8_chance_116 : decode cX8_chance 116 = .ok (.ldiv, 1) := by decide +kernel
theorem dX8_chance_117 : decode cX8_chance 117 = .ok (.goto 8, 3) := by decide +kernel
theorem dX8_chance_120 : decode cX8_chance 120 = .ok (.iload_n 2, 1) := by decide +kernel
theorem dX8_chance_121 : decode cX8_chance 121 = .ok (.i2l, 1) := by decide +kernel
theorem dX8_chance_122 : decode cX8_chance 122 = .ok (.lload 6, 2) := by decide +kernel
theorem dX8_chance_124 : decode cX8_chance 124 = .ok (.ldiv, 1) := by decide +kernel
theorem dX8_chance_125 : decode cX8_chance 125 = .ok (.lreturn, 1) := by decide +kernel
theorem dX8_image_0 : decode cX8_image 0 = .ok (.iconst 0, 1) := by decide +kernel
theorem dX8_image_1 : decode cX8_image 1 = .ok (.istore_n 1, 1) := by decide +kernel
theorem dX8_image_2 : decode cX8_image 2 = .ok (.iload_n 1, 1) := by decide +kernel
theorem dX8_image_3 : decode cX8_image 3 = .ok (.bipush 100, 2) := by decide +kernel
theorem dX8_image_5 : decode cX8_image 5 = .ok (.if_icmp .ge 21, 3) := by decide +kernel
theorem dX8_image_8 : decode cX8_image 8 = .ok (.aload_n 0, 1) := by decide +kernel
theorem dX8_image_9 : decode cX8_image 9 = .ok (.getfield 69, 3) := by decide +kernel
theorem dX8_image_12 : decode cX8_image 12 = .ok (.iload_n 1, 1) := by decide +kernel
theorem dX8_image_13 : decode cX8_image 13 = .ok (.aload_n 0, 1) := by decide +kernel
theorem dX8_image_14 : decode cX8_image 14 = .ok (.getfield 32, 3) := by decide +kernel
theorem dX8_image_17 : decode cX8_image 17 = .ok (.iload_n 1, 1) := by decide +kernel
theorem dX8_image_18 : decode cX8_image 18 = .ok (.iaload, 1) := by decide +kernel
theorem dX8_image_19 : decode cX8_image 19 = .ok (.iastore, 1) := by decide +kernel
theorem dX8_image_20 : decode cX8_image 20 = .ok (.iinc 1 1, 3) := by decide +kernel
theorem dX8_image_23 : decode cX8_image 23 = .ok (.goto (-21), 3) := by decide +kernel
theorem dX8_image_26 : decode cX8_image 26 = .ok (.iconst 0, 1) := by decide +kernel
theorem dX8_image_27 : decode cX8_image 27 = .ok (.istore_n 1, 1) := by decide +kernel
theorem dX8_image_28 : decode cX8_image 28 = .ok (.iload_n 1, 1) := by decide +kernel
theorem dX8_image_29 : decode cX8_image 29 = .ok (.iconst 5, 1) := by decide +kernel
theorem dX8_image_30 : decode cX8_image 30 = .ok (.if_icmp .ge 50, 3) := by decide +kernel
theorem dX8_image_33 : decode cX8_image 33 = .ok (.aload_n 0, 1) := by decide +kernel
theorem dX8_image_34 : decode cX8_image 34 = .ok (.getfield 72, 3) := by decide +kernel
theorem dX8_image_37 : decode cX8_image 37 = .ok (.iload_n 1, 1) := by decide +kernel
theorem dX8_image_38 : decode cX8_image 38 = .ok (.aload_n 0, 1) := by decide +kernel
theorem dX8_image_39 : decode cX8_image 39 = .ok (.getfield 38, 3) := by decide +kernel
theorem dX8_image_42 : decode cX8_image 42 = .ok (.iload_n 1, 1) := by decide +kernel
theorem dX8_image_43 : decode cX8_image 43 = .ok (.iaload, 1) := by decide +kernel
theorem dX8_image_44 : decode cX8_image 44 = .ok (.iastore, 1) := by decide +kernel
theorem dX8_image_45 : decode cX8_image 45 = .ok (.aload_n 0, 1) := by decide +kernel
theorem dX8_image_46 : decode cX8_image 46 = .ok (.getfield 72, 3) := by decide +kernel
theorem dX8_image_49 : decode cX8_image 49 = .ok (.iconst 5, 1) := by decide +kernel
theorem dX8_image_50 : decode cX8_image 50 = .ok (.iload_n 1, 1) := by decide +kernel
theorem dX8_image_51 : decode cX8_image 51 = .ok (.iadd, 1) := by decide +kernel
theorem dX8_image_52 : decode cX8_image 52 = .ok (.aload_n 0, 1) := by decide +kernel
theorem dX8_image_53 : decode cX8_image 53 = .ok (.getfield 41, 3) := by decide +kernel
theorem dX8_image_56 : decode cX8_image 56 = .ok (.iload_n 1, 1) := by decide +kernel
theorem dX8_image_57 : decode cX8_image 57 = .ok (.iaload, 1) := by decide +kernel
theorem dX8_image_58 : decode cX8_image 58 = .ok (.iastore, 1) := by decide +kernel
theorem dX8_image_59 : decode cX8_image 59 = .ok (.aload_n 0, 1) := by decide +kernel
theorem dX8_image_60 : decode cX8_image 60 = .ok (.getfield 72, 3) := by decide +kernel
theorem dX8_image_63 : decode cX8_image 63 = .ok (.bipush 10, 2) := by decide +kernel
theorem dX8_image_65 : decode cX8_image 65 = .ok (.iload_n 1, 1) := by decide +kernel
theorem dX8_image_66 : decode cX8_image 66 = .ok (.iadd, 1) := by decide +kernel
theorem dX8_image_67 : decode cX8_image 67 = .ok (.aload_n 0, 1) := by decide +kernel
theorem dX8_image_68 : decode cX8_image 68 = .ok (.getfield 44, 3) := by decide +kernel
theorem dX8_image_71 : decode cX8_image 71 = .ok (.iload_n 1, 1) := by decide +kernel
theorem dX8_image_72 : decode cX8_image 72 = .ok (.iaload, 1) := by decide +kernel
theorem dX8_image_73 : decode cX8_image 73 = .ok (.iastore, 1) := by decide +kernel
theorem dX8_image_74 : decode cX8_image 74 = .ok (.iinc 1 1, 3) := by decide +kernel
theorem dX8_image_77 : decode cX8_image 77 = .ok (.goto (-49), 3) := by decide +kernel
theorem dX8_image_80 : decode cX8_image 80 = .ok (.aload_n 0, 1) := by decide +kernel
theorem dX8_image_81 : decode cX8_image 81 = .ok (.aload_n 0, 1) := by decide +kernel
theorem dX8_image_82 : decode cX8_image 82 = .ok (.getfield 97, 3) := by decide +kernel
theorem dX8_image_85 : decode cX8_image 85 = .ok (.putfield 75, 3) := by decide +kernel
theorem dX8_image_88 : decode cX8_image 88 = .ok (.aload_n 0, 1) := by decide +kernel
theorem dX8_image_89 : decode cX8_image 89 = .ok (.aload_n 0, 1) := by decide +kernel
theorem dX8_image_90 : decode cX8_image 90 = .ok (.getfield 23, 3) := by decide +kernel
theorem dX8_image_93 : decode cX8_image 93 = .ok (.putfield 392, 3) := by decide +kernel
theorem dX8_image_96 : decode cX8_image 96 = .ok (.aload_n 0, 1) := by decide +kernel
theorem dX8_image_97 : decode cX8_image 97 = .ok (.aload_n 0, 1) := by decide +kernel
theorem dX8_image_98 : decode cX8_image 98 = .ok (.getfield 26, 3) := by decide +kernel
theorem dX8_image_101 : decode cX8_image 101 = .ok (.putfield 395, 3) := by decide +kernel
theorem dX8_image_104 : decode cX8_image 104 = .ok (.aload_n 0, 1) := by decide +kernel
theorem dX8_image_105 : decode cX8_image 105 = .ok (.aload_n 0, 1) := by decide +kernel
theorem dX8_image_106 : decode cX8_image 106 = .ok (.getfield 29, 3) := by decide +kernel
theorem dX8_image_109 : decode cX8_image 109 = .ok (.putfield 398, 3) := by decide +kernel
theorem dX8_image_112 : decode cX8_image 112 = .ok (.aload_n 0, 1) := by decide +kernel
theorem dX8_image_113 : decode cX8_image 113 = .ok (.aload_n 0, 1) := by decide +kernel
theorem dX8_image_114 : decode cX8_image 114 = .ok (.getfield 270, 3) := by decide +kernel
theorem dX8_image_117 : decode cX8_image 117 = .ok (.putfield 401, 3) := by decide +kernel
theorem dX8_image_120 : decode cX8_image 120 = .ok (.aload_n 0, 1) := by decide +kernel
theorem dX8_image_121 : decode cX8_image 121 = .ok (.getfield 97, 3) := by decide +kernel
theorem dX8_image_124 : decode cX8_image 124 = .ok (.ireturn, 1) := by decide +kernel
theorem dX8_back_0 : decode cX8_back 0 = .ok (.aload_n 0, 1) := by decide +kernel
theorem dX8_back_1 : decode cX8_back 1 = .ok (.getfield 75, 3) := by decide +kernel
theorem dX8_back_4 : decode cX8_back 4 = .ok (.iconst (-1), 1) := by decide +kernel
theorem dX8_back_5 : decode cX8_back 5 = .ok (.if_icmp .ne 6, 3) := by decide +kernel
theorem dX8_back_8 : decode cX8_back 8 = .ok (.bipush (-3), 2) := by decide +kernel
theorem dX8_back_10 : decode cX8_back 10 = .ok (.ireturn, 1) := by decide +kernel
theorem dX8_back_11 : decode cX8_back 11 = .ok (.iconst 0, 1) := by decide +kernel
theorem dX8_back_12 : decode cX8_back 12 = .ok (.istore_n 1, 1) := by decide +kernel
theorem dX8_back_13 : decode cX8_back 13 = .ok (.iload_n 1, 1) := by decide +kernel
theorem dX8_back_14 : decode cX8_back 14 = .ok (.bipush 100, 2) := by decide +kernel
theorem dX8_back_16 : decode cX8_back 16 = .ok (.if_icmp .ge 21, 3) := by decide +kernel
theorem dX8_back_19 : decode cX8_back 19 = .ok (.aload_n 0, 1) := by decide +kernel
theorem dX8_back_20 : decode cX8_back 20 = .ok (.getfield 32, 3) := by decide +kernel
theorem dX8_back_23 : decode cX8_back 23 = .ok (.iload_n 1, 1) := by decide +kernel
theorem dX8_back_24 : decode cX8_back 24 = .ok (.aload_n 0, 1) := by decide +kernel
theorem dX8_back_25 : decode cX8_back 25 = .ok (.getfield 69, 3) := by decide +kernel
theorem dX8_back_28 : decode cX8_back 28 = .ok (.iload_n 1, 1) := by decide +kernel
theorem dX8_back_29 : decode cX8_back 29 = .ok (.iaload, 1) := by decide +kernel
theorem dX8_back_30 : decode cX8_back 30 = .ok (.iastore, 1) := by decide +kernel
theorem dX8_back_31 : decode cX8_back 31 = .ok (.iinc 1 1, 3) := by decide +kernel
theorem dX8_back_34 : decode cX8_back 34 = .ok (.goto (-21), 3) := by decide +kernel
theorem dX8_back_37 : decode cX8_back 37 = .ok (.iconst 0, 1) := by decide +kernel
theorem dX8_back_38 : decode cX8_back 38 = .ok (.istore_n 1, 1) := by decide +kernel
theorem dX8_back_39 : decode cX8_back 39 = .ok (.iload_n 1, 1) := by decide +kernel
theorem dX8_back_40 : decode cX8_back 40 = .ok (.iconst 5, 1) := by decide +kernel
theorem dX8_back_41 : decode cX8_back 41 = .ok (.if_icmp .ge 50, 3) := by decide +kernel
theorem dX8_back_44 : decode cX8_back 44 = .ok (.aload_n 0, 1) := by decide +kernel
theorem dX8_back_45 : decode cX8_back 45 = .ok (.getfield 38, 3) := by decide +kernel
theorem dX8_back_48 : decode cX8_back 48 = .ok (.iload_n 1, 1) := by decide +kernel
theorem dX8_back_49 : decode cX8_back 49 = .ok (.aload_n 0, 1) := by decide +kernel
theorem dX8_back_50 : decode cX8_back 50 = .ok (.getfield 72, 3) := by decide +kernel
theorem dX8_back_53 : decode cX8_back 53 = .ok (.iload_n 1, 1) := by decide +kernel
theorem dX8_back_54 : decode cX8_back 54 = .ok (.iaload, 1) := by decide +kernel
theorem dX8_back_55 : decode cX8_back 55 = .ok (.iastore, 1) := by decide +kernel
theorem dX8_back_56 : decode cX8_back 56 = .ok (.aload_n 0, 1) := by decide +kernel
theorem dX8_back_57 : decode cX8_back 57 = .ok (.getfield 41, 3) := by decide +kernel
theorem dX8_back_60 : decode cX8_back 60 = .ok (.iload_n 1, 1) := by decide +kernel
theorem dX8_back_61 : decode cX8_back 61 = .ok (.aload_n 0, 1) := by decide +kernel
theorem dX8_back_62 : decode cX8_back 62 = .ok (.getfield 72, 3) := by decide +kernel
theorem dX8_back_65 : decode cX8_back 65 = .ok (.iconst 5, 1) := by decide +kernel
theorem dX8_back_66 : decode cX8_back 66 = .ok (.iload_n 1, 1) := by decide +kernel
theorem dX8_back_67 : decode cX8_back 67 = .ok (.iadd, 1) := by decide +kernel
theorem dX8_back_68 : decode cX8_back 68 = .ok (.iaload, 1) := by decide +kernel
theorem dX8_back_69 : decode cX8_back 69 = .ok (.iastore, 1) := by decide +kernel
theorem dX8_back_70 : decode cX8_back 70 = .ok (.aload_n 0, 1) := by decide +kernel
theorem dX8_back_71 : decode cX8_back 71 = .ok (.getfield 44, 3) := by decide +kernel
theorem dX8_back_74 : decode cX8_back 74 = .ok (.iload_n 1, 1) := by decide +kernel
theorem dX8_back_75 : decode cX8_back 75 = .ok (.aload_n 0, 1) := by decide +kernel
theorem dX8_back_76 : decode cX8_back 76 = .ok (.getfield 72, 3) := by decide +kernel
theorem dX8_back_79 : decode cX8_back 79 = .ok (.bipush 10, 2) := by decide +kernel
theorem dX8_back_81 : decode cX8_back 81 = .ok (.iload_n 1, 1) := by decide +kernel
theorem dX8_back_82 : decode cX8_back 82 = .ok (.iadd, 1) := by decide +kernel
theorem dX8_back_83 : decode cX8_back 83 = .ok (.iaload, 1) := by decide +kernel
theorem dX8_back_84 : decode cX8_back 84 = .ok (.iastore, 1) := by decide +kernel
theorem dX8_back_85 : decode cX8_back 85 = .ok (.iinc 1 1, 3) := by decide +kernel
theorem dX8_back_88 : decode cX8_back 88 = .ok (.goto (-49), 3) := by decide +kernel
theorem dX8_back_91 : decode cX8_back 91 = .ok (.aload_n 0, 1) := by decide +kernel
theorem dX8_back_92 : decode cX8_back 92 = .ok (.aload_n 0, 1) := by decide +kernel
theorem dX8_back_93 : decode cX8_back 93 = .ok (.getfield 75, 3) := by decide +kernel
theorem dX8_back_96 : decode cX8_back 96 = .ok (.putfield 97, 3) := by decide +kernel
theorem dX8_back_99 : decode cX8_back 99 = .ok (.aload_n 0, 1) := by decide +kernel
theorem dX8_back_100 : decode cX8_back 100 = .ok (.aload_n 0, 1) := by decide +kernel
theorem dX8_back_101 : decode cX8_back 101 = .ok (.getfield 392, 3) := by decide +kernel
theorem dX8_back_104 : decode cX8_back 104 = .ok (.putfield 23, 3) := by decide +kernel
theorem dX8_back_107 : decode cX8_back 107 = .ok (.aload_n 0, 1) := by decide +kernel
theorem dX8_back_108 : decode cX8_back 108 = .ok (.aload_n 0, 1) := by decide +kernel
theorem dX8_back_109 : decode cX8_back 109 = .ok (.getfield 395, 3) := by decide +kernel
theorem dX8_back_112 : decode cX8_back 112 = .ok (.putfield 26, 3) := by decide +kernel
theorem dX8_back_115 : decode cX8_back 115 = .ok (.aload_n 0, 1) := by decide +kernel
theorem dX8_back_116 : decode cX8_back 116 = .ok (.aload_n 0, 1) := by decide +kernel
theorem dX8_back_117 : decode cX8_back 117 = .ok (.getfield 398, 3) := by decide +kernel
theorem dX8_back_120 : decode cX8_back 120 = .ok (.putfield 29, 3) := by decide +kernel
theorem dX8_back_123 : decode cX8_back 123 = .ok (.aload_n 0, 1) := by decide +kernel
theorem dX8_back_124 : decode cX8_back 124 = .ok (.aload_n 0, 1) := by decide +kernel
theorem dX8_back_125 : decode cX8_back 125 = .ok (.getfield 401, 3) := by decide +kernel
theorem dX8_back_128 : decode cX8_back 128 = .ok (.putfield 270, 3) := by decide +kernel
theorem dX8_back_131 : decode cX8_back 131 = .ok (.aload_n 0, 1) := by decide +kernel
theorem dX8_back_132 : decode cX8_back 132 = .ok (.getfield 97, 3) := by decide +kernel
theorem dX8_back_135 : decode cX8_back 135 = .ok (.ireturn, 1) := by decide +kernel
theorem dX8_count_0 : decode cX8_count 0 = .ok (.iload_n 1, 1) := by decide +kernel
theorem dX8_count_1 : decode cX8_count 1 = .ok (.i2l, 1) := by decide +kernel
theorem dX8_count_2 : decode cX8_count 2 = .ok (.lconst 0, 1) := by decide +kernel
theorem dX8_count_3 : decode cX8_count 3 = .ok (.ldc2_w 127, 3) := by decide +kernel
theorem dX8_count_6 : decode cX8_count 6 = .ok (.invokestatic 100, 3) := by decide +kernel
theorem dX8_count_9 : decode cX8_count 9 = .ok (.ifCond .ne 6, 3) := by decide +kernel
theorem dX8_count_12 : decode cX8_count 12 = .ok (.bipush (-2), 2) := by decide +kernel
theorem dX8_count_14 : decode cX8_count 14 = .ok (.ireturn, 1) := by decide +kernel
theorem dX8_count_15 : decode cX8_count 15 = .ok (.iload_n 1, 1) := by decide +kernel
theorem dX8_count_16 : decode cX8_count 16 = .ok (.iconst 3, 1) := by decide +kernel
theorem dX8_count_17 : decode cX8_count 17 = .ok (.if_icmp .ge 31, 3) := by decide +kernel
theorem dX8_count_20 : decode cX8_count 20 = .ok (.iload_n 1, 1) := by decide +kernel
theorem dX8_count_21 : decode cX8_count 21 = .ok (.ifCond .ne 10, 3) := by decide +kernel
theorem dX8_count_24 : decode cX8_count 24 = .ok (.aload_n 0, 1) := by decide +kernel
theorem dX8_count_25 : decode cX8_count 25 = .ok (.getfield 97, 3) := by decide +kernel
theorem dX8_count_28 : decode cX8_count 28 = .ok (.goto 19, 3) := by decide +kernel
theorem dX8_count_31 : decode cX8_count 31 = .ok (.iload_n 1, 1) := by decide +kernel
theorem dX8_count_32 : decode cX8_count 32 = .ok (.iconst 1, 1) := by decide +kernel
theorem dX8_count_33 : decode cX8_count 33 = .ok (.if_icmp .ne 10, 3) := by decide +kernel
theorem dX8_count_36 : decode cX8_count 36 = .ok (.aload_n 0, 1) := by decide +kernel
theorem dX8_count_37 : decode cX8_count 37 = .ok (.invokevirtual 374, 3) := by decide +kernel
theorem dX8_count_40 : decode cX8_count 40 = .ok (.goto 7, 3) := by decide +kernel
theorem dX8_count_43 : decode cX8_count 43 = .ok (.aload_n 0, 1) := by decide +kernel
theorem dX8_count_44 : decode cX8_count 44 = .ok (.invokevirtual 381, 3) := by decide +kernel
theorem dX8_count_47 : decode cX8_count 47 = .ok (.ireturn, 1) := by decide +kernel
theorem dX8_count_48 : decode cX8_count 48 = .ok (.iload_n 1, 1) := by decide +kernel
theorem dX8_count_49 : decode cX8_count 49 = .ok (.iconst 3, 1) := by decide +kernel
theorem dX8_count_50 : decode cX8_count 50 = .ok (.if_icmp .ne 10, 3) := by decide +kernel
theorem dX8_count_53 : decode cX8_count 53 = .ok (.aload_n 0, 1) := by decide +kernel
theorem dX8_count_54 : decode cX8_count 54 = .ok (.getfield 94, 3) := by decide +kernel
theorem dX8_count_57 : decode cX8_count 57 = .ok (.goto 19, 3) := by decide +kernel
theorem dX8_count_60 : decode cX8_count 60 = .ok (.iload_n 1, 1) := by decide +kernel
theorem dX8_count_61 : decode cX8_count 61 = .ok (.iconst 4, 1) := by decide +kernel
theorem dX8_count_62 : decode cX8_count 62 = .ok (.if_icmp .ne 10, 3) := by decide +kernel
theorem dX8_count_65 : decode cX8_count 65 = .ok (.aload_n 0, 1) := by decide +kernel
theorem dX8_count_66 : decode cX8_count 66 = .ok (.getfield 153, 3) := by decide +kernel
theorem dX8_count_69 : decode cX8_count 69 = .ok (.goto 7, 3) := by decide +kernel
theorem dX8_count_72 : decode cX8_count 72 = .ok (.aload_n 0, 1) := by decide +kernel
theorem dX8_count_73 : decode cX8_count 73 = .ok (.getfield 270, 3) := by decide +kernel
theorem dX8_count_76 : decode cX8_count 76 = .ok (.ireturn, 1) := by decide +kernel
theorem dX8_isSheet_0 : decode cX8_isSheet 0 = .ok (.iload_n 0, 1) := by decide +kernel
theorem dX8_isSheet_1 : decode cX8_isSheet 1 = .ok (.i2l, 1) := by decide +kernel
theorem dX8_isSheet_2 : decode cX8_isSheet 2 = .ok (.lconst 0, 1) := by decide +kernel
theorem dX8_isSheet_3 : decode cX8_isSheet 3 = .ok (.ldc2_w 370, 3) := by decide +kernel
theorem dX8_isSheet_6 : decode cX8_isSheet 6 = .ok (.invokestatic 100, 3) := by decide +kernel
theorem dX8_isSheet_9 : decode cX8_isSheet 9 = .ok (.ireturn, 1) := by decide +kernel
theorem dX8_sheet_0 : decode cX8_sheet 0 = .ok (.iload_n 1, 1) := by decide +kernel
theorem dX8_sheet_1 : decode cX8_sheet 1 = .ok (.invokestatic 280, 3) := by decide +kernel
theorem dX8_sheet_4 : decode cX8_sheet 4 = .ok (.ifCond .eq 27, 3) := by decide +kernel
theorem dX8_sheet_7 : decode cX8_sheet 7 = .ok (.iload_n 2, 1) := by decide +kernel
theorem dX8_sheet_8 : decode cX8_sheet 8 = .ok (.i2l, 1) := by decide +kernel
theorem dX8_sheet_9 : decode cX8_sheet 9 = .ok (.ldc2_w 404, 3) := by decide +kernel
theorem dX8_sheet_12 : decode cX8_sheet 12 = .ok (.ldc2_w 285, 3) := by decide +kernel
theorem dX8_sheet_15 : decode cX8_sheet 15 = .ok (.invokestatic 100, 3) := by decide +kernel
theorem dX8_sheet_18 : decode cX8_sheet 18 = .ok (.ifCond .eq 13, 3) := by decide +kernel
theorem dX8_sheet_21 : decode cX8_sheet 21 = .ok (.iload_n 2, 1) := by decide +kernel
theorem dX8_sheet_22 : decode cX8_sheet 22 = .ok (.ifCond .lt 12, 3) := by decide +kernel
theorem dX8_sheet_25 : decode cX8_sheet 25 = .ok (.iload_n 3, 1) := by decide +kernel
theorem dX8_sheet_26 : decode cX8_sheet 26 = .ok (.bipush 40, 2) := by decide +kernel
theorem dX8_sheet_28 : decode cX8_sheet 28 = .ok (.if_icmp .le 6, 3) := by decide +kernel
theorem dX8_sheet_31 : decode cX8_sheet 31 = .ok (.bipush (-2), 2) := by decide +kernel
theorem dX8_sheet_33 : decode cX8_sheet 33 = .ok (.ireturn, 1) := by decide +kernel
theorem dX8_sheet_34 : decode cX8_sheet 34 = .ok (.iload_n 2, 1) := by decide +kernel
theorem dX8_sheet_35 : decode cX8_sheet 35 = .ok (.ifCond .lt 10, 3) := by decide +kernel
theorem dX8_sheet_38 : decode cX8_sheet 38 = .ok (.iload_n 3, 1) := by decide +kernel
theorem dX8_sheet_39 : decode cX8_sheet 39 = .ok (.ifCond .ge 6, 3) := by decide +kernel
theorem dX8_sheet_42 : decode cX8_sheet 42 = .ok (.bipush (-14), 2) := by decide +kernel
theorem dX8_sheet_44 : decode cX8_sheet 44 = .ok (.ireturn, 1) := by decide +kernel
theorem dX8_sheet_45 : decode cX8_sheet 45 = .ok (.aload_n 0, 1) := by decide +kernel
theorem dX8_sheet_46 : decode cX8_sheet 46 = .ok (.getfield 78, 3) := by decide +kernel
theorem dX8_sheet_49 : decode cX8_sheet 49 = .ok (.iload_n 1, 1) := by decide +kernel
theorem dX8_sheet_50 : decode cX8_sheet 50 = .ok (.iload_n 2, 1) := by decide +kernel
theorem dX8_sheet_51 : decode cX8_sheet 51 = .ok (.ifCond .lt 7, 3) := by decide +kernel
theorem dX8_sheet_54 : decode cX8_sheet 54 = .ok (.iconst 1, 1) := by decide +kernel
theorem dX8_sheet_55 : decode cX8_sheet 55 = .ok (.goto 4, 3) := by decide +kernel
theorem dX8_sheet_58 : decode cX8_sheet 58 = .ok (.iconst 0, 1) := by decide +kernel
theorem dX8_sheet_59 : decode cX8_sheet 59 = .ok (.bastore, 1) := by decide +kernel
theorem dX8_sheet_60 : decode cX8_sheet 60 = .ok (.aload_n 0, 1) := by decide +kernel
theorem dX8_sheet_61 : decode cX8_sheet 61 = .ok (.getfield 81, 3) := by decide +kernel
theorem dX8_sheet_64 : decode cX8_sheet 64 = .ok (.iload_n 1, 1) := by decide +kernel
theorem dX8_sheet_65 : decode cX8_sheet 65 = .ok (.iload_n 2, 1) := by decide +kernel
theorem dX8_sheet_66 : decode cX8_sheet 66 = .ok (.iastore, 1) := by decide +kernel
theorem dX8_sheet_67 : decode cX8_sheet 67 = .ok (.aload_n 0, 1) := by decide +kernel
theorem dX8_sheet_68 : decode cX8_sheet 68 = .ok (.getfield 84, 3) := by decide +kernel
theorem dX8_sheet_71 : decode cX8_sheet 71 = .ok (.iload_n 1, 1) := by decide +kernel
theorem dX8_sheet_72 : decode cX8_sheet 72 = .ok (.iload_n 3, 1) := by decide +kernel
theorem dX8_sheet_73 : decode cX8_sheet 73 = .ok (.iastore, 1) := by decide +kernel
theorem dX8_sheet_74 : decode cX8_sheet 74 = .ok (.iconst 0, 1) := by decide +kernel
theorem dX8_sheet_75 : decode cX8_sheet 75 = .ok (.istore 4, 2) := by decide +kernel
theorem dX8_sheet_77 : decode cX8_sheet 77 = .ok (.iload 4, 2) := by decide +kernel
theorem dX8_sheet_79 : decode cX8_sheet 79 = .ok (.iload_n 3, 1) := by decide +kernel
theorem dX8_sheet_80 : decode cX8_sheet 80 = .ok (.if_icmp .ge 26, 3) := by decide +kernel
theorem dX8_sheet_83 : decode cX8_sheet 83 = .ok (.iload_n 2, 1) := by decide +kernel
theorem dX8_sheet_84 : decode cX8_sheet 84 = .ok (.ifCond .lt 22, 3) := by decide +kernel
theorem dX8_sheet_87 : decode cX8_sheet 87 = .ok (.aload_n 0, 1) := by decide +kernel
theorem dX8_sheet_88 : decode cX8_sheet 88 = .ok (.getfield 87, 3) := by decide +kernel
theorem dX8_sheet_91 : decode cX8_sheet 91 = .ok (.bipush 40, 2) := by decide +kernel
theorem dX8_sheet_93 : decode cX8_sheet 93 = .ok (.iload_n 1, 1) := by decide +kernel
theorem dX8_sheet_94 : decode cX8_sheet 94 = .ok (.imul, 1) := by decide +kernel
theorem dX8_sheet_95 : decode cX8_sheet 95 = .ok (.iload 4, 2) := by decide +kernel
theorem dX8_sheet_97 : decode cX8_sheet 97 = .ok (.iadd, 1) := by decide +kernel
theorem dX8_sheet_98 : decode cX8_sheet 98 = .ok (.iconst 0, 1) := by decide +kernel
theorem dX8_sheet_99 : decode cX8_sheet 99 = .ok (.iastore, 1) := by decide +kernel
theorem dX8_sheet_100 : decode cX8_sheet 100 = .ok (.iinc 4 1, 3) := by decide +kernel
theorem dX8_sheet_103 : decode cX8_sheet 103 = .ok (.goto (-26), 3) := by decide +kernel
theorem dX8_sheet_106 : decode cX8_sheet 106 = .ok (.iconst 1, 1) := by decide +kernel
theorem dX8_sheet_107 : decode cX8_sheet 107 = .ok (.ireturn, 1) := by decide +kernel
theorem dX8_cell_0 : decode cX8_cell 0 = .ok (.iload_n 1, 1) := by decide +kernel
theorem dX8_cell_1 : decode cX8_cell 1 = .ok (.invokestatic 280, 3) := by decide +kernel
theorem dX8_cell_4 : decode cX8_cell 4 = .ok (.ifCond .ne 6, 3) := by decide +kernel
theorem dX8_cell_7 : decode cX8_cell 7 = .ok (.bipush (-2), 2) := by decide +kernel
theorem dX8_cell_9 : decode cX8_cell 9 = .ok (.ireturn, 1) := by decide +kernel
theorem dX8_cell_10 : decode cX8_cell 10 = .ok (.aload_n 0, 1) := by decide +kernel
theorem dX8_cell_11 : decode cX8_cell 11 = .ok (.getfield 78, 3) := by decide +kernel
theorem dX8_cell_14 : decode cX8_cell 14 = .ok (.iload_n 1, 1) := by decide +kernel
theorem dX8_cell_15 : decode cX8_cell 15 = .ok (.baload, 1) := by decide +kernel
theorem dX8_cell_16 : decode cX8_cell 16 = .ok (.ifCond .ne 6, 3) := by decide +kernel
theorem dX8_cell_19 : decode cX8_cell 19 = .ok (.bipush (-11), 2) := by decide +kernel
theorem dX8_cell_21 : decode cX8_cell 21 = .ok (.ireturn, 1) := by decide +kernel
theorem dX8_cell_22 : decode cX8_cell 22 = .ok (.iload_n 2, 1) := by decide +kernel
theorem dX8_cell_23 : decode cX8_cell 23 = .ok (.i2l, 1) := by decide +kernel
theorem dX8_cell_24 : decode cX8_cell 24 = .ok (.lconst 0, 1) := by decide +kernel
theorem dX8_cell_25 : decode cX8_cell 25 = .ok (.aload_n 0, 1) := by decide +kernel
theorem dX8_cell_26 : decode cX8_cell 26 = .ok (.getfield 84, 3) := by decide +kernel
theorem dX8_cell_29 : decode cX8_cell 29 = .ok (.iload_n 1, 1) := by decide +kernel
theorem dX8_cell_30 : decode cX8_cell 30 = .ok (.iaload, 1) := by decide +kernel
theorem dX8_cell_31 : decode cX8_cell 31 = .ok (.iconst 1, 1) := by decide +kernel
theorem dX8_cell_32 : decode cX8_cell 32 = .ok (.isub, 1) := by decide +kernel
theorem dX8_cell_33 : decode cX8_cell 33 = .ok (.i2l, 1) := by decide +kernel
theorem dX8_cell_34 : decode cX8_cell 34 = .ok (.invokestatic 100, 3) := by decide +kernel
theorem dX8_cell_37 : decode cX8_cell 37 = .ok (.ifCond .ne 6, 3) := by decide +kernel
theorem dX8_cell_40 : decode cX8_cell 40 = .ok (.bipush (-12), 2) := by decide +kernel
theorem dX8_cell_42 : decode cX8_cell 42 = .ok (.ireturn, 1) := by decide +kernel
theorem dX8_cell_43 : decode cX8_cell 43 = .ok (.aload_n 0, 1) := by decide +kernel
theorem dX8_cell_44 : decode cX8_cell 44 = .ok (.getfield 87, 3) := by decide +kernel
theorem dX8_cell_47 : decode cX8_cell 47 = .ok (.bipush 40, 2) := by decide +kernel
theorem dX8_cell_49 : decode cX8_cell 49 = .ok (.iload_n 1, 1) := by decide +kernel
theorem dX8_cell_50 : decode cX8_cell 50 = .ok (.imul, 1) := by decide +kernel
theorem dX8_cell_51 : decode cX8_cell 51 = .ok (.iload_n 2, 1) := by decide +kernel
theorem dX8_cell_52 : decode cX8_cell 52 = .ok (.iadd, 1) := by decide +kernel
theorem dX8_cell_53 : decode cX8_cell 53 = .ok (.aload_n 0, 1) := by decide +kernel
theorem dX8_cell_54 : decode cX8_cell 54 = .ok (.getfield 81, 3) := by decide +kernel
theorem dX8_cell_57 : decode cX8_cell 57 = .ok (.iload_n 1, 1) := by decide +kernel
theorem dX8_cell_58 : decode cX8_cell 58 = .ok (.iaload, 1) := by decide +kernel
theorem dX8_cell_59 : decode cX8_cell 59 = .ok (.ifCond .ne 8, 3) := by decide +kernel
theorem dX8_cell_62 : decode cX8_cell 62 = .ok (.iload_n 3, 1) := by decide +kernel
theorem dX8_cell_63 : decode cX8_cell 63 = .ok (.i2b, 1) := by decide +kernel
theorem dX8_cell_64 : decode cX8_cell 64 = .ok (.goto 19, 3) := by decide +kernel
theorem dX8_cell_67 : decode cX8_cell 67 = .ok (.aload_n 0, 1) := by decide +kernel
theorem dX8_cell_68 : decode cX8_cell 68 = .ok (.getfield 81, 3) := by decide +kernel
theorem dX8_cell_71 : decode cX8_cell 71 = .ok (.iload_n 1, 1) := by decide +kernel
theorem dX8_cell_72 : decode cX8_cell 72 = .ok (.iaload, 1) := by decide +kernel
theorem dX8_cell_73 : decode cX8_cell 73 = .ok (.iconst 1, 1) := by decide +kernel
theorem dX8_cell_74 : decode cX8_cell 74 = .ok (.if_icmp .ne 8, 3) := by decide +kernel
theorem dX8_cell_77 : decode cX8_cell 77 = .ok (.iload_n 3, 1) := by decide +kernel
theorem dX8_cell_78 : decode cX8_cell 78 = .ok (.i2s, 1) := by decide +kernel
theorem dX8_cell_79 : decode cX8_cell 79 = .ok (.goto 4, 3) := by decide +kernel
theorem dX8_cell_82 : decode cX8_cell 82 = .ok (.iload_n 3, 1) := by decide +kernel
theorem dX8_cell_83 : decode cX8_cell 83 = .ok (.iastore, 1) := by decide +kernel
theorem dX8_cell_84 : decode cX8_cell 84 = .ok (.iconst 1, 1) := by decide +kernel
theorem dX8_cell_85 : decode cX8_cell 85 = .ok (.ireturn, 1) := by decide +kernel
theorem dX8_copy_0 : decode cX8_copy 0 = .ok (.iload_n 1, 1) := by decide +kernel
theorem dX8_copy_1 : decode cX8_copy 1 = .ok (.invokestatic 280, 3) := by decide +kernel
theorem dX8_copy_4 : decode cX8_copy 4 = .ok (.ifCond .eq 10, 3) := by decide +kernel
theorem dX8_copy_7 : decode cX8_copy 7 = .ok (.iload_n 3, 1) := by decide +kernel
theorem dX8_copy_8 : decode cX8_copy 8 = .ok (.invokestatic 280, 3) := by decide +kernel
theorem dX8_copy_11 : decode cX8_copy 11 = .ok (.ifCond .ne 6, 3) := by decide +kernel
theorem dX8_copy_14 : decode cX8_copy 14 = .ok (.bipush (-2), 2) := by decide +kernel
theorem dX8_copy_16 : decode cX8_copy 16 = .ok (.ireturn, 1) := by decide +kernel
theorem dX8_copy_17 : decode cX8_copy 17 = .ok (.aload_n 0, 1) := by decide +kernel
theorem dX8_copy_18 : decode cX8_copy 18 = .ok (.getfield 78, 3) := by decide +kernel
theorem dX8_copy_21 : decode cX8_copy 21 = .ok (.iload_n 1, 1) := by decide +kernel
theorem dX8_copy_22 : decode cX8_copy 22 = .ok (.baload, 1) := by decide +kernel
theorem dX8_copy_23 : decode cX8_copy 23 = .ok (.ifCond .eq 12, 3) := by decide +kernel
theorem dX8_copy_26 : decode cX8_copy 26 = .ok (.aload_n 0, 1) := by decide +kernel
theorem dX8_copy_27 : decode cX8_copy 27 = .ok (.getfield 78, 3) := by decide +kernel
theorem dX8_copy_30 : decode cX8_copy 30 = .ok (.iload_n 3, 1) := by decide +kernel
theorem dX8_copy_31 : decode cX8_copy 31 = .ok (.baload, 1) := by decide +kernel
theorem dX8_copy_32 : decode cX8_copy 32 = .ok (.ifCond .ne 6, 3) := by decide +kernel
theorem dX8_copy_35 : decode cX8_copy 35 = .ok (.bipush (-11), 2) := by decide +kernel
theorem dX8_copy_37 : decode cX8_copy 37 = .ok (.ireturn, 1) := by decide +kernel
theorem dX8_copy_38 : decode cX8_copy 38 = .ok (.aload_n 0, 1) := by decide +kernel
theorem dX8_copy_39 : decode cX8_copy 39 = .ok (.getfield 81, 3) := by decide +kernel
theorem dX8_copy_42 : decode cX8_copy 42 = .ok (.iload_n 1, 1) := by decide +kernel
theorem dX8_copy_43 : decode cX8_copy 43 = .ok (.iaload, 1) := by decide +kernel
theorem dX8_copy_44 : decode cX8_copy 44 = .ok (.aload_n 0, 1) := by decide +kernel
theorem dX8_copy_45 : decode cX8_copy 45 = .ok (.getfield 81, 3) := by decide +kernel
theorem dX8_copy_48 : decode cX8_copy 48 = .ok (.iload_n 3, 1) := by decide +kernel
theorem dX8_copy_49 : decode cX8_copy 49 = .ok (.iaload, 1) := by decide +kernel
theorem dX8_copy_50 : decode cX8_copy 50 = .ok (.if_icmp .eq 6, 3) := by decide +kernel
theorem dX8_copy_53 : decode cX8_copy 53 = .ok (.bipush (-13), 2) := by decide +kernel
theorem dX8_copy_55 : decode cX8_copy 55 = .ok (.ireturn, 1) := by decide +kernel
theorem dX8_copy_56 : decode cX8_copy 56 = .ok (.iload 5, 2) := by decide +kernel
theorem dX8_copy_58 : decode cX8_copy 58 = .ok (.ifCond .lt 39, 3) := by decide +kernel
theorem dX8_copy_61 : decode cX8_copy 61 = .ok (.iload_n 2, 1) := by decide +kernel
theorem dX8_copy_62 : decode cX8_copy 62 = .ok (.ifCond .lt 35, 3) := by decide +kernel
theorem dX8_copy_65 : decode cX8_copy 65 = .ok (.iload 4, 2) := by decide +kernel
theorem dX8_copy_67 : decode cX8_copy 67 = .ok (.ifCond .lt 30, 3) := by decide +kernel
theorem dX8_copy_70 : decode cX8_copy 70 = .ok (.iload_n 2, 1) := by decide +kernel
theorem dX8_copy_71 : decode cX8_copy 71 = .ok (.aload_n 0, 1) := by decide +kernel
theorem dX8_copy_72 : decode cX8_copy 72 = .ok (.getfield 84, 3) := by decide +kernel
theorem dX8_copy_75 : decode cX8_copy 75 = .ok (.iload_n 1, 1) := by decide +kernel
theorem dX8_copy_76 : decode cX8_copy 76 = .ok (.iaload, 1) := by decide +kernel
theorem dX8_copy_77 : decode cX8_copy 77 = .ok (.iload 5, 2) := by decide +kernel
theorem dX8_copy_79 : decode cX8_copy 79 = .ok (.isub, 1) := by decide +kernel
theorem dX8_copy_80 : decode cX8_copy 80 = .ok (.if_icmp .gt 17, 3) := by decide +kernel
theorem dX8_copy_83 : decode cX8_copy 83 = .ok (.iload 4, 2) := by decide +kernel
theorem dX8_copy_85 : decode cX8_copy 85 = .ok (.aload_n 0, 1) := by decide +kernel
theorem dX8_copy_86 : decode cX8_copy 86 = .ok (.getfield 84, 3) := by decide +kernel
theorem dX8_copy_89 : decode cX8_copy 89 = .ok (.iload_n 3, 1) := by decide +kernel
theorem dX8_copy_90 : decode cX8_copy 90 = .ok (.iaload, 1) := by decide +kernel
theorem dX8_copy_91 : decode cX8_copy 91 = .ok (.iload 5, 2) := by decide +kernel
theorem dX8_copy_93 : decode cX8_copy 93 = .ok (.isub, 1) := by decide +kernel
theorem dX8_copy_94 : decode cX8_copy 94 = .ok (.if_icmp .le 6, 3) := by decide +kernel
theorem dX8_copy_97 : decode cX8_copy 97 = .ok (.bipush (-12), 2) := by decide +kernel
theorem dX8_copy_99 : decode cX8_copy 99 = .ok (.ireturn, 1) := by decide +kernel
theorem dX8_copy_100 : decode cX8_copy 100 = .ok (.iload_n 1, 1) := by decide +kernel
theorem dX8_copy_101 : decode cX8_copy 101 = .ok (.iload_n 3, 1) := by decide +kernel
theorem dX8_copy_102 : decode cX8_copy 102 = .ok (.if_icmp .ne 13, 3) := by decide +kernel
theorem dX8_copy_105 : decode cX8_copy 105 = .ok (.iload_n 2, 1) := by decide +kernel
theorem dX8_copy_106 : decode cX8_copy 106 = .ok (.iload 4, 2) := by decide +kernel
theorem dX8_copy_108 : decode cX8_copy 108 = .ok (.if_icmp .ge 7, 3) := by decide +kernel
theorem dX8_copy_111 : decode cX8_copy 111 = .ok (.iconst 1, 1) := by decide +kernel
theorem dX8_copy_112 : decode cX8_copy 112 = .ok (.goto 4, 3) := by decide +kernel
theorem dX8_copy_115 : decode cX8_copy 115 = .ok (.iconst 0, 1) := by decide +kernel
theorem dX8_copy_116 : decode cX8_copy 116 = .ok (.istore 6, 2) := by decide +kernel
theorem dX8_copy_118 : decode cX8_copy 118 = .ok (.iconst 0, 1) := by decide +kernel
theorem dX8_copy_119 : decode cX8_copy 119 = .ok (.istore 7, 2) := by decide +kernel
theorem dX8_copy_121 : decode cX8_copy 121 = .ok (.iload 7, 2) := by decide +kernel
theorem dX8_copy_123 : decode cX8_copy 123 = .ok (.iload 5, 2) := by decide +kernel
theorem dX8_copy_125 : decode cX8_copy 125 = .ok (.if_icmp .ge 57, 3) := by decide +kernel
theorem dX8_copy_128 : decode cX8_copy 128 = .ok (.iload 6, 2) := by decide +kernel
theorem dX8_copy_130 : decode cX8_copy 130 = .ok (.ifCond .eq 13, 3) := by decide +kernel
theorem dX8_copy_133 : decode cX8_copy 133 = .ok (.iload 5, 2) := by decide +kernel
theorem dX8_copy_135 : decode cX8_copy 135 = .ok (.iconst 1, 1) := by decide +kernel
theorem dX8_copy_136 : decode cX8_copy 136 = .ok (.isub, 1) := by decide +kernel
theorem dX8_copy_137 : decode cX8_copy 137 = .ok (.iload 7, 2) := by decide +kernel
theorem dX8_copy_139 : decode cX8_copy 139 = .ok (.isub, 1) := by decide +kernel
theorem dX8_copy_140 : decode cX8_copy 140 = .ok (.goto 5, 3) := by decide +kernel
theorem dX8_copy_143 : decode cX8_copy 143 = .ok (.iload 7, 2) := by decide +kernel
theorem dX8_copy_145 : decode cX8_copy 145 = .ok (.istore 8, 2) := by decide +kernel
theorem dX8_copy_147 : decode cX8_copy 147 = .ok (.aload_n 0, 1) := by decide +kernel
theorem dX8_copy_148 : decode cX8_copy 148 = .ok (.getfield 87, 3) := by decide +kernel
theorem dX8_copy_151 : decode cX8_copy 151 = .ok (.bipush 40, 2) := by decide +kernel
theorem dX8_copy_153 : decode cX8_copy 153 = .ok (.iload_n 3, 1) := by decide +kernel
theorem dX8_copy_154 : decode cX8_copy 154 = .ok (.imul, 1) := by decide +kernel
theorem dX8_copy_155 : decode cX8_copy 155 = .ok (.iload 4, 2) := by decide +kernel
theorem dX8_copy_157 : decode cX8_copy 157 = .ok (.iadd, 1) := by decide +kernel
theorem dX8_copy_158 : decode cX8_copy 158 = .ok (.iload 8, 2) := by decide +kernel
theorem dX8_copy_160 : decode cX8_copy 160 = .ok (.iadd, 1) := by decide +kernel
theorem dX8_copy_161 : decode cX8_copy 161 = .ok (.aload_n 0, 1) := by decide +kernel
theorem dX8_copy_162 : decode cX8_copy 162 = .ok (.getfield 87, 3) := by decide +kernel
theorem dX8_copy_165 : decode cX8_copy 165 = .ok (.bipush 40, 2) := by decide +kernel
theorem dX8_copy_167 : decode cX8_copy 167 = .ok (.iload_n 1, 1) := by decide +kernel
theorem dX8_copy_168 : decode cX8_copy 168 = .ok (.imul, 1) := by decide +kernel
theorem dX8_copy_169 : decode cX8_copy 169 = .ok (.iload_n 2, 1) := by decide +kernel
theorem dX8_copy_170 : decode cX8_copy 170 = .ok (.iadd, 1) := by decide +kernel
theorem dX8_copy_171 : decode cX8_copy 171 = .ok (.iload 8, 2) := by decide +kernel
theorem dX8_copy_173 : decode cX8_copy 173 = .ok (.iadd, 1) := by decide +kernel
theorem dX8_copy_174 : decode cX8_copy 174 = .ok (.iaload, 1) := by decide +kernel
theorem dX8_copy_175 : decode cX8_copy 175 = .ok (.iastore, 1) := by decide +kernel
theorem dX8_copy_176 : decode cX8_copy 176 = .ok (.iinc 7 1, 3) := by decide +kernel
theorem dX8_copy_179 : decode cX8_copy 179 = .ok (.goto (-58), 3) := by decide +kernel
theorem dX8_copy_182 : decode cX8_copy 182 = .ok (.iload 5, 2) := by decide +kernel
theorem dX8_copy_184 : decode cX8_copy 184 = .ok (.ireturn, 1) := by decide +kernel
theorem dX8_town_0 : decode cX8_town 0 = .ok (.iload_n 1, 1) := by decide +kernel
theorem dX8_town_1 : decode cX8_town 1 = .ok (.invokestatic 280, 3) := by decide +kernel
theorem dX8_town_4 : decode cX8_town 4 = .ok (.ifCond .eq 28, 3) := by decide +kernel
theorem dX8_town_7 : decode cX8_town 7 = .ok (.iload_n 2, 1) := by decide +kernel
theorem dX8_town_8 : decode cX8_town 8 = .ok (.i2l, 1) := by decide +kernel
theorem dX8_town_9 : decode cX8_town 9 = .ok (.lconst 0, 1) := by decide +kernel
theorem dX8_town_10 : decode cX8_town 10 = .ok (.ldc2_w 285, 3) := by decide +kernel
theorem dX8_town_13 : decode cX8_town 13 = .ok (.invokestatic 100, 3) := by decide +kernel
theorem dX8_town_16 : decode cX8_town 16 = .ok (.ifCond .eq 16, 3) := by decide +kernel
theorem dX8_town_19 : decode cX8_town 19 = .ok (.iload 4, 2) := by decide +kernel
theorem dX8_town_21 : decode cX8_town 21 = .ok (.i2l, 1) := by decide +kernel
theorem dX8_town_22 : decode cX8_town 22 = .ok (.lconst 0, 1) := by decide +kernel
theorem dX8_town_23 : decode cX8_town 23 = .ok (.ldc2_w 372, 3) := by decide +kernel
theorem dX8_town_26 : decode cX8_town 26 = .ok (.invokestatic 100, 3) := by decide +kernel
theorem dX8_town_29 : decode cX8_town 29 = .ok (.ifCond .ne 6, 3) := by decide +kernel
theorem dX8_town_32 : decode cX8_town 32 = .ok (.bipush (-2), 2) := by decide +kernel
theorem dX8_town_34 : decode cX8_town 34 = .ok (.ireturn, 1) := by decide +kernel
theorem dX8_town_35 : decode cX8_town 35 = .ok (.aload_n 0, 1) := by decide +kernel
theorem dX8_town_36 : decode cX8_town 36 = .ok (.getfield 78, 3) := by decide +kernel
theorem dX8_town_39 : decode cX8_town 39 = .ok (.iload_n 1, 1) := by decide +kernel
theorem dX8_town_40 : decode cX8_town 40 = .ok (.baload, 1) := by decide +kernel
theorem dX8_town_41 : decode cX8_town 41 = .ok (.ifCond .eq 16, 3) := by decide +kernel
theorem dX8_town_44 : decode cX8_town 44 = .ok (.aload_n 0, 1) := by decide +kernel
theorem dX8_town_45 : decode cX8_town 45 = .ok (.getfield 81, 3) := by decide +kernel
theorem dX8_town_48 : decode cX8_town 48 = .ok (.iload_n 1, 1) := by decide +kernel
theorem dX8_town_49 : decode cX8_town 49 = .ok (.iaload, 1) := by decide +kernel
theorem dX8_town_50 : decode cX8_town 50 = .ok (.iload_n 2, 1) := by decide +kernel
theorem dX8_town_51 : decode cX8_town 51 = .ok (.if_icmp .eq 6, 3) := by decide +kernel
theorem dX8_town_54 : decode cX8_town 54 = .ok (.bipush (-13), 2) := by decide +kernel
theorem dX8_town_56 : decode cX8_town 56 = .ok (.ireturn, 1) := by decide +kernel
theorem dX8_town_57 : decode cX8_town 57 = .ok (.aload_n 0, 1) := by decide +kernel
theorem dX8_town_58 : decode cX8_town 58 = .ok (.getfield 78, 3) := by decide +kernel
theorem dX8_town_61 : decode cX8_town 61 = .ok (.iload_n 1, 1) := by decide +kernel
theorem dX8_town_62 : decode cX8_town 62 = .ok (.baload, 1) := by decide +kernel
theorem dX8_town_63 : decode cX8_town 63 = .ok (.ifCond .ne 6, 3) := by decide +kernel
theorem dX8_town_66 : decode cX8_town 66 = .ok (.bipush (-11), 2) := by decide +kernel
theorem dX8_town_68 : decode cX8_town 68 = .ok (.ireturn, 1) := by decide +kernel
theorem dX8_town_69 : decode cX8_town 69 = .ok (.iconst 0, 1) := by decide +kernel
theorem dX8_town_70 : decode cX8_town 70 = .ok (.istore 5, 2) := by decide +kernel
theorem dX8_town_72 : decode cX8_town 72 = .ok (.iconst 0, 1) := by decide +kernel
theorem dX8_town_73 : decode cX8_town 73 = .ok (.istore 6, 2) := by decide +kernel
theorem dX8_town_75 : decode cX8_town 75 = .ok (.iload 6, 2) := by decide +kernel
theorem dX8_town_77 : decode cX8_town 77 = .ok (.iload 4, 2) := by decide +kernel
theorem dX8_town_79 : decode cX8_town 79 = .ok (.if_icmp .ge 80, 3) := by decide +kernel
theorem dX8_town_82 : decode cX8_town 82 = .ok (.iload_n 3, 1) := by decide +kernel
theorem dX8_town_83 : decode cX8_town 83 = .ok (.ifCond .lt 20, 3) := by decide +kernel
theorem dX8_town_86 : decode cX8_town 86 = .ok (.iload_n 3, 1) := by decide +kernel
theorem dX8_town_87 : decode cX8_town 87 = .ok (.aload_n 0, 1) := by decide +kernel
theorem dX8_town_88 : decode cX8_town 88 = .ok (.getfield 84, 3) := by decide +kernel
theorem dX8_town_91 : decode cX8_town 91 = .ok (.iload_n 1, 1) := by decide +kernel
theorem dX8_town_92 : decode cX8_town 92 = .ok (.iaload, 1) := by decide +kernel
theorem dX8_town_93 : decode cX8_town 93 = .ok (.iconst 2, 1) := by decide +kernel
theorem dX8_town_94 : decode cX8_town 94 = .ok (.iload 6, 2) := by decide +kernel
theorem dX8_town_96 : decode cX8_town 96 = .ok (.imul, 1) := by decide +kernel
theorem dX8_town_97 : decode cX8_town 97 = .ok (.isub, 1) := by decide +kernel
theorem dX8_town_98 : decode cX8_town 98 = .ok (.iconst 2, 1) := by decide +kernel
theorem dX8_town_99 : decode cX8_town 99 = .ok (.isub, 1) := by decide +kernel
theorem dX8_town_100 : decode cX8_town 100 = .ok (.if_icmp .le 6, 3) := by decide +kernel
theorem dX8_town_103 : decode cX8_town 103 = .ok (.bipush (-12), 2) := by decide +kernel
theorem dX8_town_105 : decode cX8_town 105 = .ok (.ireturn, 1) := by decide +kernel
theorem dX8_town_106 : decode cX8_town 106 = .ok (.bipush 40, 2) := by decide +kernel
theorem dX8_town_108 : decode cX8_town 108 = .ok (.iload_n 1, 1) := by decide +kernel
theorem dX8_town_109 : decode cX8_town 109 = .ok (.imul, 1) := by decide +kernel
theorem dX8_town_110 : decode cX8_town 110 = .ok (.iload_n 3, 1) := by decide +kernel
theorem dX8_town_111 : decode cX8_town 111 = .ok (.iadd, 1) := by decide +kernel
theorem dX8_town_112 : decode cX8_town 112 = .ok (.iconst 2, 1) := by decide +kernel
theorem dX8_town_113 : decode cX8_town 113 = .ok (.iload 6, 2) := by decide +kernel
theorem dX8_town_115 : decode cX8_town 115 = .ok (.imul, 1) := by decide +kernel
theorem dX8_town_116 : decode cX8_town 116 = .ok (.iadd, 1) := by decide +kernel
theorem dX8_town_117 : decode cX8_town 117 = .ok (.istore 7, 2) := by decide +kernel
theorem dX8_town_119 : decode cX8_town 119 = .ok (.iload 5, 2) := by decide +kernel
theorem dX8_town_121 : decode cX8_town 121 = .ok (.aload_n 0, 1) := by decide +kernel
theorem dX8_town_122 : decode cX8_town 122 = .ok (.iconst 3, 1) := by decide +kernel
theorem dX8_town_123 : decode cX8_town 123 = .ok (.aload_n 0, 1) := by decide +kernel
theorem dX8_town_124 : decode cX8_town 124 = .ok (.getfield 87, 3) := by decide +kernel
theorem dX8_town_127 : decode cX8_town 127 = .ok (.iload 7, 2) := by decide +kernel
theorem dX8_town_129 : decode cX8_town 129 = .ok (.iaload, 1) := by decide +kernel
theorem dX8_town_130 : decode cX8_town 130 = .ok (.aload_n 0, 1) := by decide +kernel
theorem dX8_town_131 : decode cX8_town 131 = .ok (.getfield 87, 3) := by decide +kernel
theorem dX8_town_134 : decode cX8_town 134 = .ok (.iload 7, 2) := by decide +kernel
theorem dX8_town_136 : decode cX8_town 136 = .ok (.iconst 1, 1) := by decide +kernel
theorem dX8_town_137 : decode cX8_town 137 = .ok (.iadd, 1) := by decide +kernel
theorem dX8_town_138 : decode cX8_town 138 = .ok (.iaload, 1) := by decide +kernel
theorem dX8_town_139 : decode cX8_town 139 = .ok (.invokevirtual 406, 3) := by decide +kernel
theorem dX8_town_142 : decode cX8_town 142 = .ok (.ifCond .lt 7, 3) := by decide +kernel
theorem dX8_town_145 : decode cX8_town 145 = .ok (.iconst 1, 1) := by decide +kernel
theorem dX8_town_146 : decode cX8_town 146 = .ok (.goto 4, 3) := by decide +kernel
theorem dX8_town_149 : decode cX8_town 149 = .ok (.iconst 0, 1) := by decide +kernel
theorem dX8_town_150 : decode cX8_town 150 = .ok (.iadd, 1) := by decide +kernel
theorem dX8_town_151 : decode cX8_town 151 = .ok (.istore 5, 2) := by decide +kernel
theorem dX8_town_153 : decode cX8_town 153 = .ok (.iinc 6 1, 3) := by decide +kernel
theorem dX8_town_156 : decode cX8_town 156 = .ok (.goto (-81), 3) := by decide +kernel
theorem dX8_town_159 : decode cX8_town 159 = .ok (.iload 5, 2) := by decide +kernel
theorem dX8_town_161 : decode cX8_town 161 = .ok (.ireturn, 1) := by decide +kernel
theorem dX8_over_0 : decode cX8_over 0 = .ok (.iload_n 0, 1) := by decide +kernel
theorem dX8_over_1 : decode cX8_over 1 = .ok (.ifCond .ne 7, 3) := by decide +kernel
theorem dX8_over_4 : decode cX8_over 4 = .ok (.iconst (-1), 1) := by decide +kernel
theorem dX8_over_5 : decode cX8_over 5 = .ok (.goto 22, 3) := by decide +kernel
theorem dX8_over_8 : decode cX8_over 8 = .ok (.iload_n 0, 1) := by decide +kernel
theorem dX8_over_9 : decode cX8_over 9 = .ok (.iconst 3, 1) := by decide +kernel
theorem dX8_over_10 : decode cX8_over 10 = .ok (.if_icmp .ne 7, 3) := by decide +kernel
theorem dX8_over_13 : decode cX8_over 13 = .ok (.iconst 1, 1) := by decide +kernel
theorem dX8_over_14 : decode cX8_over 14 = .ok (.goto 13, 3) := by decide +kernel
theorem dX8_over_17 : decode cX8_over 17 = .ok (.iload_n 0, 1) := by decide +kernel
theorem dX8_over_18 : decode cX8_over 18 = .ok (.iconst 4, 1) := by decide +kernel
theorem dX8_over_19 : decode cX8_over 19 = .ok (.if_icmp .ne 7, 3) := by decide +kernel
theorem dX8_over_22 : decode cX8_over 22 = .ok (.iconst 2, 1) := by decide +kernel
theorem dX8_over_23 : decode cX8_over 23 = .ok (.goto 4, 3) := by decide +kernel
theorem dX8_over_26 : decode cX8_over 26 = .ok (.iconst 0, 1) := by decide +kernel
theorem dX8_over_27 : decode cX8_over 27 = .ok (.ireturn, 1) := by decide +kernel
theorem dX8_taken_0 : decode cX8_taken 0 = .ok (.iload_n 2, 1) := by decide +kernel
theorem dX8_taken_1 : decode cX8_taken 1 = .ok (.i2l, 1) := by decide +kernel
theorem dX8_taken_2 : decode cX8_taken 2 = .ok (.lconst 0, 1) := by decide +kernel
theorem dX8_taken_3 : decode cX8_taken 3 = .ok (.ldc2_w 127, 3) := by decide +kernel
theorem dX8_taken_6 : decode cX8_taken 6 = .ok (.invokestatic 100, 3) := by decide +kernel
theorem dX8_taken_9 : decode cX8_taken 9 = .ok (.ifCond .ne 6, 3) := by decide +kernel
theorem dX8_taken_12 : decode cX8_taken 12 = .ok (.bipush (-2), 2) := by decide +kernel
theorem dX8_taken_14 : decode cX8_taken 14 = .ok (.ireturn, 1) := by decide +kernel
theorem dX8_taken_15 : decode cX8_taken 15 = .ok (.aload_n 0, 1) := by decide +kernel
theorem dX8_taken_16 : decode cX8_taken 16 = .ok (.iload_n 1, 1) := by decide +kernel
theorem dX8_taken_17 : decode cX8_taken 17 = .ok (.invokevirtual 112, 3) := by decide +kernel
theorem dX8_taken_20 : decode cX8_taken 20 = .ok (.ifCond .ne 6, 3) := by decide +kernel
theorem dX8_taken_23 : decode cX8_taken 23 = .ok (.bipush (-11), 2) := by decide +kernel
theorem dX8_taken_25 : decode cX8_taken 25 = .ok (.ireturn, 1) := by decide +kernel
theorem dX8_taken_26 : decode cX8_taken 26 = .ok (.aload_n 0, 1) := by decide +kernel
theorem dX8_taken_27 : decode cX8_taken 27 = .ok (.getfield 35, 3) := by decide +kernel
theorem dX8_taken_30 : decode cX8_taken 30 = .ok (.iload_n 1, 1) := by decide +kernel
theorem dX8_taken_31 : decode cX8_taken 31 = .ok (.iaload, 1) := by decide +kernel
theorem dX8_taken_32 : decode cX8_taken 32 = .ok (.istore_n 3, 1) := by decide +kernel
theorem dX8_taken_33 : decode cX8_taken 33 = .ok (.iload_n 3, 1) := by decide +kernel
theorem dX8_taken_34 : decode cX8_taken 34 = .ok (.iconst (-1), 1) := by decide +kernel
theorem dX8_taken_35 : decode cX8_taken 35 = .ok (.if_icmp .eq 16, 3) := by decide +kernel
theorem dX8_taken_38 : decode cX8_taken 38 = .ok (.iload_n 3, 1) := by decide +kernel
theorem dX8_taken_39 : decode cX8_taken 39 = .ok (.iload_n 2, 1) := by decide +kernel
theorem dX8_taken_40 : decode cX8_taken 40 = .ok (.if_icmp .eq 11, 3) := by decide +kernel
theorem dX8_taken_43 : decode cX8_taken 43 = .ok (.iload_n 3, 1) := by decide +kernel
theorem dX8_taken_44 : decode cX8_taken 44 = .ok (.invokestatic 409, 3) := by decide +kernel
theorem dX8_taken_47 : decode cX8_taken 47 = .ok (.istore_n 3, 1) := by decide +kernel
theorem dX8_taken_48 : decode cX8_taken 48 = .ok (.goto (-15), 3) := by decide +kernel
theorem dX8_taken_51 : decode cX8_taken 51 = .ok (.iload_n 3, 1) := by decide +kernel
theorem dX8_taken_52 : decode cX8_taken 52 = .ok (.iload_n 2, 1) := by decide +kernel
theorem dX8_taken_53 : decode cX8_taken 53 = .ok (.if_icmp .ne 12, 3) := by decide +kernel
theorem dX8_taken_56 : decode cX8_taken 56 = .ok (.aload_n 0, 1) := by decide +kernel
theorem dX8_taken_57 : decode cX8_taken 57 = .ok (.getfield 38, 3) := by decide +kernel
theorem dX8_taken_60 : decode cX8_taken 60 = .ok (.iload_n 1, 1) := by decide +kernel
theorem dX8_taken_61 : decode cX8_taken 61 = .ok (.iaload, 1) := by decide +kernel
theorem dX8_taken_62 : decode cX8_taken 62 = .ok (.goto 5, 3) := by decide +kernel
theorem dX8_taken_65 : decode cX8_taken 65 = .ok (.bipush (-13), 2) := by decide +kernel
theorem dX8_taken_67 : decode cX8_taken 67 = .ok (.ireturn, 1) := by decide +kernel
theorem dJ11_isValidCodePoint_9a6ad_0 : decode cJ11_isValidCodePoint_9a6ad 0 = .ok (.iload_n 0, 1) := by decide +kernel
theorem dJ11_isValidCodePoint_9a6ad_1 : decode cJ11_isValidCodePoint_9a6ad 1 = .ok (.bipush 16, 2) := by decide +kernel
theorem dJ11_isValidCodePoint_9a6ad_3 : decode cJ11_isValidCodePoint_9a6ad 3 = .ok (.iushr, 1) := by decide +kernel
theorem dJ11_isValidCodePoint_9a6ad_4 : decode cJ11_isValidCodePoint_9a6ad 4 = .ok (.istore_n 1, 1) := by decide +kernel
theorem dJ11_isValidCodePoint_9a6ad_5 : decode cJ11_isValidCodePoint_9a6ad 5 = .ok (.iload_n 1, 1) := by decide +kernel
theorem dJ11_isValidCodePoint_9a6ad_6 : decode cJ11_isValidCodePoint_9a6ad 6 = .ok (.bipush 17, 2) := by decide +kernel
theorem dJ11_isValidCodePoint_9a6ad_8 : decode cJ11_isValidCodePoint_9a6ad 8 = .ok (.if_icmp .ge 7, 3) := by decide +kernel
theorem dJ11_isValidCodePoint_9a6ad_11 : decode cJ11_isValidCodePoint_9a6ad 11 = .ok (.iconst 1, 1) := by decide +kernel
theorem dJ11_isValidCodePoint_9a6ad_12 : decode cJ11_isValidCodePoint_9a6ad 12 = .ok (.goto 4, 3) := by decide +kernel
theorem dJ11_isValidCodePoint_9a6ad_15 : decode cJ11_isValidCodePoint_9a6ad 15 = .ok (.iconst 0, 1) := by decide +kernel
theorem dJ11_isValidCodePoint_9a6ad_16 : decode cJ11_isValidCodePoint_9a6ad 16 = .ok (.ireturn, 1) := by decide +kernel
theorem dJ11_highSurrogate_5068e_0 : decode cJ11_highSurrogate_5068e 0 = .ok (.iload_n 0, 1) := by decide +kernel
theorem dJ11_highSurrogate_5068e_1 : decode cJ11_highSurrogate_5068e 1 = .ok (.bipush 10, 2) := by decide +kernel
theorem dJ11_highSurrogate_5068e_3 : decode cJ11_highSurrogate_5068e 3 = .ok (.iushr, 1) := by decide +kernel
theorem dJ11_highSurrogate_5068e_4 : decode cJ11_highSurrogate_5068e 4 = .ok (.ldc 110, 2) := by decide +kernel
theorem dJ11_highSurrogate_5068e_6 : decode cJ11_highSurrogate_5068e 6 = .ok (.iadd, 1) := by decide +kernel
theorem dJ11_highSurrogate_5068e_7 : decode cJ11_highSurrogate_5068e 7 = .ok (.i2c, 1) := by decide +kernel
theorem dJ11_highSurrogate_5068e_8 : decode cJ11_highSurrogate_5068e 8 = .ok (.ireturn, 1) := by decide +kernel
theorem dJ11_lowSurrogate_5068e_0 : decode cJ11_lowSurrogate_5068e 0 = .ok (.iload_n 0, 1) := by decide +kernel
theorem dJ11_lowSurrogate_5068e_1 : decode cJ11_lowSurrogate_5068e 1 = .ok (.sipush 1023, 3) := by decide +kernel
theorem dJ11_lowSurrogate_5068e_4 : decode cJ11_lowSurrogate_5068e 4 = .ok (.iand, 1) := by decide +kernel
theorem dJ11_lowSurrogate_5068e_5 : decode cJ11_lowSurrogate_5068e 5 = .ok (.ldc 76, 2) := by decide +kernel
theorem dJ11_lowSurrogate_5068e_7 : decode cJ11_lowSurrogate_5068e 7 = .ok (.iadd, 1) := by decide +kernel
theorem dJ11_lowSurrogate_5068e_8 : decode cJ11_lowSurrogate_5068e 8 = .ok (.i2c, 1) := by decide +kernel
theorem dJ11_lowSurrogate_5068e_9 : decode cJ11_lowSurrogate_5068e 9 = .ok (.ireturn, 1) := by decide +kernel
theorem dJ6_numberOfTrailingZeros_0f7a4_0 : decode cJ6_numberOfTrailingZeros_0f7a4 0 = .ok (.iload_n 0, 1) := by decide +kernel
theorem dJ6_numberOfTrailingZeros_0f7a4_1 : decode cJ6_numberOfTrailingZeros_0f7a4 1 = .ok (.iconst (-1), 1) := by decide +kernel
theorem dJ6_numberOfTrailingZeros_0f7a4_2 : decode cJ6_numberOfTrailingZeros_0f7a4 2 = .ok (.ixor, 1) := by decide +kernel
theorem dJ6_numberOfTrailingZeros_0f7a4_3 : decode cJ6_numberOfTrailingZeros_0f7a4 3 = .ok (.iload_n 0, 1) := by decide +kernel
theorem dJ6_numberOfTrailingZeros_0f7a4_4 : decode cJ6_numberOfTrailingZeros_0f7a4 4 = .ok (.iconst 1, 1) := by decide +kernel
theorem dJ6_numberOfTrailingZeros_0f7a4_5 : decode cJ6_numberOfTrailingZeros_0f7a4 5 = .ok (.isub, 1) := by decide +kernel
theorem dJ6_numberOfTrailingZeros_0f7a4_6 : decode cJ6_numberOfTrailingZeros_0f7a4 6 = .ok (.iand, 1) := by decide +kernel
theorem dJ6_numberOfTrailingZeros_0f7a4_7 : decode cJ6_numberOfTrailingZeros_0f7a4 7 = .ok (.istore_n 0, 1) := by decide +kernel
theorem dJ6_numberOfTrailingZeros_0f7a4_8 : decode cJ6_numberOfTrailingZeros_0f7a4 8 = .ok (.iload_n 0, 1) := by decide +kernel
theorem dJ6_numberOfTrailingZeros_0f7a4_9 : decode cJ6_numberOfTrailingZeros_0f7a4 9 = .ok (.ifCond .gt 8, 3) := by decide +kernel
theorem dJ6_numberOfTrailingZeros_0f7a4_12 : decode cJ6_numberOfTrailingZeros_0f7a4 12 = .ok (.iload_n 0, 1) := by decide +kernel
theorem dJ6_numberOfTrailingZeros_0f7a4_13 : decode cJ6_numberOfTrailingZeros_0f7a4 13 = .ok (.bipush 32, 2) := by decide +kernel
theorem dJ6_numberOfTrailingZeros_0f7a4_15 : decode cJ6_numberOfTrailingZeros_0f7a4 15 = .ok (.iand, 1) := by decide +kernel
theorem dJ6_numberOfTrailingZeros_0f7a4_16 : decode cJ6_numberOfTrailingZeros_0f7a4 16 = .ok (.ireturn, 1) := by decide +kernel
theorem dJ6_numberOfTrailingZeros_0f7a4_17 : decode cJ6_numberOfTrailingZeros_0f7a4 17 = .ok (.iconst 1, 1) := by decide +kernel
theorem dJ6_numberOfTrailingZeros_0f7a4_18 : decode cJ6_numberOfTrailingZeros_0f7a4 18 = .ok (.istore_n 1, 1) := by decide +kernel
theorem dJ6_numberOfTrailingZeros_0f7a4_19 : decode cJ6_numberOfTrailingZeros_0f7a4 19 = .ok (.iload_n 0, 1) := by decide +kernel
theorem dJ6_numberOfTrailingZeros_0f7a4_20 : decode cJ6_numberOfTrailingZeros_0f7a4 20 = .ok (.ldc_w 264, 3) := by decide +kernel
theorem dJ6_numberOfTrailingZeros_0f7a4_23 : decode cJ6_numberOfTrailingZeros_0f7a4 23 = .ok (.if_icmp .le 11, 3) := by decide +kernel
theorem dJ6_numberOfTrailingZeros_0f7a4_26 : decode cJ6_numberOfTrailingZeros_0f7a4 26 = .ok (.iinc 1 16, 3) := by decide +kernel
theorem dJ6_numberOfTrailingZeros_0f7a4_29 : decode cJ6_numberOfTrailingZeros_0f7a4 29 = .ok (.iload_n 0, 1) := by decide +kernel
theorem dJ6_numberOfTrailingZeros_0f7a4_30 : decode cJ6_numberOfTrailingZeros_0f7a4 30 = .ok (.bipush 16, 2) := by decide +kernel
theorem dJ6_numberOfTrailingZeros_0f7a4_32 : decode cJ6_numberOfTrailingZeros_0f7a4 32 = .ok (.iushr, 1) := by decide +kernel
theorem dJ6_numberOfTrailingZeros_0f7a4_33 : decode cJ6_numberOfTrailingZeros_0f7a4 33 = .ok (.istore_n 0, 1) := by decide +kernel
theorem dJ6_numberOfTrailingZeros_0f7a4_34 : decode cJ6_numberOfTrailingZeros_0f7a4 34 = .ok (.iload_n 0, 1) := by decide +kernel
theorem dJ6_numberOfTrailingZeros_0f7a4_35 : decode cJ6_numberOfTrailingZeros_0f7a4 35 = .ok (.sipush 256, 3) := by decide +kernel
theorem dJ6_numberOfTrailingZeros_0f7a4_38 : decode cJ6_numberOfTrailingZeros_0f7a4 38 = .ok (.if_icmp .le 11, 3) := by decide +kernel
theorem dJ6_numberOfTrailingZeros_0f7a4_41 : decode cJ6_numberOfTrailingZeros_0f7a4 41 = .ok (.iinc 1 8, 3) := by decide +kernel
theorem dJ6_numberOfTrailingZeros_0f7a4_44 : decode cJ6_numberOfTrailingZeros_0f7a4 44 = .ok (.iload_n 0, 1) := by decide +kernel
theorem dJ6_numberOfTrailingZeros_0f7a4_45 : decode cJ6_numberOfTrailingZeros_0f7a4 45 = .ok (.bipush 8, 2) := by decide +kernel
theorem dJ6_numberOfTrailingZeros_0f7a4_47 : decode cJ6_numberOfTrailingZeros_0f7a4 47 = .ok (.iushr, 1) := by decide +kernel
theorem dJ6_numberOfTrailingZeros_0f7a4_48 : decode cJ6_numberOfTrailingZeros_0f7a4 48 = .ok (.istore_n 0, 1) := by decide +kernel
theorem dJ6_numberOfTrailingZeros_0f7a4_49 : decode cJ6_numberOfTrailingZeros_0f7a4 49 = .ok (.iload_n 0, 1) := by decide +kernel
theorem dJ6_numberOfTrailingZeros_0f7a4_50 : decode cJ6_numberOfTrailingZeros_0f7a4 50 = .ok (.bipush 16, 2) := by decide +kernel
theorem dJ6_numberOfTrailingZeros_0f7a4_52 : decode cJ6_numberOfTrailingZeros_0f7a4 52 = .ok (.if_icmp .le 10, 3) := by decide +kernel
theorem dJ6_numberOfTrailingZeros_0f7a4_55 : decode cJ6_numberOfTrailingZeros_0f7a4 55 = .ok (.iinc 1 4, 3) := by decide +kernel
theorem dJ6_numberOfTrailingZeros_0f7a4_58 : decode cJ6_numberOfTrailingZeros_0f7a4 58 = .ok (.iload_n 0, 1) := by decide +kernel
theorem dJ6_numberOfTrailingZeros_0f7a4_59 : decode cJ6_numberOfTrailingZeros_0f7a4 59 = .ok (.iconst 4, 1) := by decide +kernel
theorem dJ6_numberOfTrailingZeros_0f7a4_60 : decode cJ6_numberOfTrailingZeros_0f7a4 60 = .ok (.iushr, 1) := by decide +kernel
theorem dJ6_numberOfTrailingZeros_0f7a4_61 : decode cJ6_numberOfTrailingZeros_0f7a4 61 = .ok (.istore_n 0, 1) := by decide +kernel
theorem dJ6_numberOfTrailingZeros_0f7a4_62 : decode cJ6_numberOfTrailingZeros_0f7a4 62 = .ok (.iload_n 0, 1) := by decide +kernel
theorem dJ6_numberOfTrailingZeros_0f7a4_63 : decode cJ6_numberOfTrailingZeros_0f7a4 63 = .ok (.iconst 4, 1) := by decide +kernel
theorem dJ6_numberOfTrailingZeros_0f7a4_64 : decode cJ6_numberOfTrailingZeros_0f7a4 64 = .ok (.if_icmp .le 10, 3) := by decide +kernel
theorem dJ6_numberOfTrailingZeros_0f7a4_67 : decode cJ6_numberOfTrailingZeros_0f7a4 67 = .ok (.iinc 1 2, 3) := by decide +kernel
theorem dJ6_numberOfTrailingZeros_0f7a4_70 : decode cJ6_numberOfTrailingZeros_0f7a4 70 = .ok (.iload_n 0, 1) := by decide +kernel
theorem dJ6_numberOfTrailingZeros_0f7a4_71 : decode cJ6_numberOfTrailingZeros_0f7a4 71 = .ok (.iconst 2, 1) := by decide +kernel
theorem dJ6_numberOfTrailingZeros_0f7a4_72 : decode cJ6_numberOfTrailingZeros_0f7a4 72 = .ok (.iushr, 1) := by decide +kernel
theorem dJ6_numberOfTrailingZeros_0f7a4_73 : decode cJ6_numberOfTrailingZeros_0f7a4 73 = .ok (.istore_n 0, 1) := by decide +kernel
theorem dJ6_numberOfTrailingZeros_0f7a4_74 : decode cJ6_numberOfTrailingZeros_0f7a4 74 = .ok (.iload_n 1, 1) := by decide +kernel
theorem dJ6_numberOfTrailingZeros_0f7a4_75 : decode cJ6_numberOfTrailingZeros_0f7a4 75 = .ok (.iload_n 0, 1) := by decide +kernel
theorem dJ6_numberOfTrailingZeros_0f7a4_76 : decode cJ6_numberOfTrailingZeros_0f7a4 76 = .ok (.iconst 1, 1) := by decide +kernel
theorem dJ6_numberOfTrailingZeros_0f7a4_77 : decode cJ6_numberOfTrailingZeros_0f7a4 77 = .ok (.iushr, 1) := by decide +kernel
theorem dJ6_numberOfTrailingZeros_0f7a4_78 : decode cJ6_numberOfTrailingZeros_0f7a4 78 = .ok (.iadd, 1) := by decide +kernel
theorem dJ6_numberOfTrailingZeros_0f7a4_79 : decode cJ6_numberOfTrailingZeros_0f7a4 79 = .ok (.ireturn, 1) := by decide +kernel
theorem dJ6_bitCount_0f7a4_0 : decode cJ6_bitCount_0f7a4 0 = .ok (.iload_n 0, 1) := by decide +kernel
theorem dJ6_bitCount_0f7a4_1 : decode cJ6_bitCount_0f7a4 1 = .ok (.iload_n 0, 1) := by decide +kernel
theorem dJ6_bitCount_0f7a4_2 : decode cJ6_bitCount_0f7a4 2 = .ok (.iconst 1, 1) := by decide +kernel
theorem dJ6_bitCount_0f7a4_3 : decode cJ6_bitCount_0f7a4 3 = .ok (.iushr, 1) := by decide +kernel
theorem dJ6_bitCount_0f7a4_4 : decode cJ6_bitCount_0f7a4 4 = .ok (.ldc_w 265, 3) := by decide +kernel
theorem dJ6_bitCount_0f7a4_7 : decode cJ6_bitCount_0f7a4 7 = .ok (.iand, 1) := by decide +kernel
theorem dJ6_bitCount_0f7a4_8 : decode cJ6_bitCount_0f7a4 8 = .ok (.isub, 1) := by decide +kernel
theorem dJ6_bitCount_0f7a4_9 : decode cJ6_bitCount_0f7a4 9 = .ok (.istore_n 0, 1) := by decide +kernel
theorem dJ6_bitCount_0f7a4_10 : decode cJ6_bitCount_0f7a4 10 = .ok (.iload_n 0, 1) := by decide +kernel
theorem dJ6_bitCount_0f7a4_11 : decode cJ6_bitCount_0f7a4 11 = .ok (.ldc_w 266, 3) := by decide +kernel
theorem dJ6_bitCount_0f7a4_14 : decode cJ6_bitCount_0f7a4 14 = .ok (.iand, 1) := by decide +kernel
theorem dJ6_bitCount_0f7a4_15 : decode cJ6_bitCount_0f7a4 15 = .ok (.iload_n 0, 1) := by decide +kernel
theorem dJ6_bitCount_0f7a4_16 : decode cJ6_bitCount_0f7a4 16 = .ok (.iconst 2, 1) := by decide +kernel
theorem dJ6_bitCount_0f7a4_17 : decode cJ6_bitCount_0f7a4 17 = .ok (.iushr, 1) := by decide +kernel
theorem dJ6_bitCount_0f7a4_18 : decode cJ6_bitCount_0f7a4 18 = .ok (.ldc_w 266, 3) := by decide +kernel
theorem dJ6_bitCount_0f7a4_21 : decode cJ6_bitCount_0f7a4 21 = .ok (.iand, 1) := by decide +kernel
theorem dJ6_bitCount_0f7a4_22 : decode cJ6_bitCount_0f7a4 22 = .ok (.iadd, 1) := by decide +kernel
theorem dJ6_bitCount_0f7a4_23 : decode cJ6_bitCount_0f7a4 23 = .ok (.istore_n 0, 1) := by decide +kernel
theorem dJ6_bitCount_0f7a4_24 : decode cJ6_bitCount_0f7a4 24 = .ok (.iload_n 0, 1) := by decide +kernel
theorem dJ6_bitCount_0f7a4_25 : decode cJ6_bitCount_0f7a4 25 = .ok (.iload_n 0, 1) := by decide +kernel
theorem dJ6_bitCount_0f7a4_26 : decode cJ6_bitCount_0f7a4 26 = .ok (.iconst 4, 1) := by decide +kernel
theorem dJ6_bitCount_0f7a4_27 : decode cJ6_bitCount_0f7a4 27 = .ok (.iushr, 1) := by decide +kernel
theorem dJ6_bitCount_0f7a4_28 : decode cJ6_bitCount_0f7a4 28 = .ok (.iadd, 1) := by decide +kernel
theorem dJ6_bitCount_0f7a4_29 : decode cJ6_bitCount_0f7a4 29 = .ok (.ldc_w 267, 3) := by decide +kernel
theorem dJ6_bitCount_0f7a4_32 : decode cJ6_bitCount_0f7a4 32 = .ok (.iand, 1) := by decide +kernel
theorem dJ6_bitCount_0f7a4_33 : decode cJ6_bitCount_0f7a4 33 = .ok (.istore_n 0, 1) := by decide +kernel
theorem dJ6_bitCount_0f7a4_34 : decode cJ6_bitCount_0f7a4 34 = .ok (.iload_n 0, 1) := by decide +kernel
theorem dJ6_bitCount_0f7a4_35 : decode cJ6_bitCount_0f7a4 35 = .ok (.iload_n 0, 1) := by decide +kernel
theorem dJ6_bitCount_0f7a4_36 : decode cJ6_bitCount_0f7a4 36 = .ok (.bipush 8, 2) := by decide +kernel
theorem dJ6_bitCount_0f7a4_38 : decode cJ6_bitCount_0f7a4 38 = .ok (.iushr, 1) := by decide +kernel
theorem dJ6_bitCount_0f7a4_39 : decode cJ6_bitCount_0f7a4 39 = .ok (.iadd, 1) := by decide +kernel
theorem dJ6_bitCount_0f7a4_40 : decode cJ6_bitCount_0f7a4 40 = .ok (.istore_n 0, 1) := by decide +kernel
theorem dJ6_bitCount_0f7a4_41 : decode cJ6_bitCount_0f7a4 41 = .ok (.iload_n 0, 1) := by decide +kernel
theorem dJ6_bitCount_0f7a4_42 : decode cJ6_bitCount_0f7a4 42 = .ok (.iload_n 0, 1) := by decide +kernel
theorem dJ6_bitCount_0f7a4_43 : decode cJ6_bitCount_0f7a4 43 = .ok (.bipush 16, 2) := by decide +kernel
theorem dJ6_bitCount_0f7a4_45 : decode cJ6_bitCount_0f7a4 45 = .ok (.iushr, 1) := by decide +kernel
theorem dJ6_bitCount_0f7a4_46 : decode cJ6_bitCount_0f7a4 46 = .ok (.iadd, 1) := by decide +kernel
theorem dJ6_bitCount_0f7a4_47 : decode cJ6_bitCount_0f7a4 47 = .ok (.istore_n 0, 1) := by decide +kernel
theorem dJ6_bitCount_0f7a4_48 : decode cJ6_bitCount_0f7a4 48 = .ok (.iload_n 0, 1) := by decide +kernel
theorem dJ6_bitCount_0f7a4_49 : decode cJ6_bitCount_0f7a4 49 = .ok (.bipush 63, 2) := by decide +kernel
theorem dJ6_bitCount_0f7a4_51 : decode cJ6_bitCount_0f7a4 51 = .ok (.iand, 1) := by decide +kernel
theorem dJ6_bitCount_0f7a4_52 : decode cJ6_bitCount_0f7a4 52 = .ok (.ireturn, 1) := by decide +kernel
theorem dJ9_abs_0f7a4_0 : decode cJ9_abs_0f7a4 0 = .ok (.iload_n 0, 1) := by decide +kernel
theorem dJ9_abs_0f7a4_1 : decode cJ9_abs_0f7a4 1 = .ok (.ifCond .ge 8, 3) := by decide +kernel
theorem dJ9_abs_0f7a4_4 : decode cJ9_abs_0f7a4 4 = .ok (.iload_n 0, 1) := by decide +kernel
theorem dJ9_abs_0f7a4_5 : decode cJ9_abs_0f7a4 5 = .ok (.ineg, 1) := by decide +kernel
theorem dJ9_abs_0f7a4_6 : decode cJ9_abs_0f7a4 6 = .ok (.goto 4, 3) := by decide +kernel
theorem dJ9_abs_0f7a4_9 : decode cJ9_abs_0f7a4 9 = .ok (.iload_n 0, 1) := by decide +kernel
theorem dJ9_abs_0f7a4_10 : decode cJ9_abs_0f7a4 10 = .ok (.ireturn, 1) := by decide +kernel
theorem dJ9_max_7cf53_0 : decode cJ9_max_7cf53 0 = .ok (.iload_n 0, 1) := by decide +kernel
theorem dJ9_max_7cf53_1 : decode cJ9_max_7cf53 1 = .ok (.iload_n 1, 1) := by decide +kernel
theorem dJ9_max_7cf53_2 : decode cJ9_max_7cf53 2 = .ok (.if_icmp .lt 7, 3) := by decide +kernel
theorem dJ9_max_7cf53_5 : decode cJ9_max_7cf53 5 = .ok (.iload_n 0, 1) := by decide +kernel
theorem dJ9_max_7cf53_6 : decode cJ9_max_7cf53 6 = .ok (.goto 4, 3) := by decide +kernel
theorem dJ9_max_7cf53_9 : decode cJ9_max_7cf53 9 = .ok (.iload_n 1, 1) := by decide +kernel
theorem dJ9_max_7cf53_10 : decode cJ9_max_7cf53 10 = .ok (.ireturn, 1) := by decide +kernel
theorem dJ9_min_7cf53_0 : decode cJ9_min_7cf53 0 = .ok (.iload_n 0, 1) := by decide +kernel
theorem dJ9_min_7cf53_1 : decode cJ9_min_7cf53 1 = .ok (.iload_n 1, 1) := by decide +kernel
theorem dJ9_min_7cf53_2 : decode cJ9_min_7cf53 2 = .ok (.if_icmp .gt 7, 3) := by decide +kernel
theorem dJ9_min_7cf53_5 : decode cJ9_min_7cf53 5 = .ok (.iload_n 0, 1) := by decide +kernel
theorem dJ9_min_7cf53_6 : decode cJ9_min_7cf53 6 = .ok (.goto 4, 3) := by decide +kernel
theorem dJ9_min_7cf53_9 : decode cJ9_min_7cf53 9 = .ok (.iload_n 1, 1) := by decide +kernel
theorem dJ9_min_7cf53_10 : decode cJ9_min_7cf53 10 = .ok (.ireturn, 1) := by decide +kernel
theorem dJ0_length_8abf5_0 : decode cJ0_length_8abf5 0 = .ok (.aload_n 0, 1) := by decide +kernel
theorem dJ0_length_8abf5_1 : decode cJ0_length_8abf5 1 = .ok (.getfield 9, 3) := by decide +kernel
theorem dJ0_length_8abf5_4 : decode cJ0_length_8abf5 4 = .ok (.arraylength, 1) := by decide +kernel
theorem dJ0_length_8abf5_5 : decode cJ0_length_8abf5 5 = .ok (.aload_n 0, 1) := by decide +kernel
theorem dJ0_length_8abf5_6 : decode cJ0_length_8abf5 6 = .ok (.invokevirtual 335, 3) := by decide +kernel
theorem dJ0_length_8abf5_9 : decode cJ0_length_8abf5 9 = .ok (.ishr, 1) := by decide +kernel
theorem dJ0_length_8abf5_10 : decode cJ0_length_8abf5 10 = .ok (.ireturn, 1) := by decide +kernel
theorem dJ0_charAt_5068e_0 : decode cJ0_charAt_5068e 0 = .ok (.aload_n 0, 1) := by decide +kernel
theorem dJ0_charAt_5068e_1 : decode cJ0_charAt_5068e 1 = .ok (.invokevirtual 492, 3) := by decide +kernel
theorem dJ0_charAt_5068e_4 : decode cJ0_charAt_5068e 4 = .ok (.ifCond .eq 12, 3) := by decide +kernel
theorem dJ0_charAt_5068e_7 : decode cJ0_charAt_5068e 7 = .ok (.aload_n 0, 1) := by decide +kernel
theorem dJ0_charAt_5068e_8 : decode cJ0_charAt_5068e 8 = .ok (.getfield 9, 3) := by decide +kernel
theorem dJ0_charAt_5068e_11 : decode cJ0_charAt_5068e 11 = .ok (.iload_n 1, 1) := by decide +kernel
theorem dJ0_charAt_5068e_12 : decode cJ0_charAt_5068e 12 = .ok (.invokestatic 495, 3) := by decide +kernel
theorem dJ0_charAt_5068e_15 : decode cJ0_charAt_5068e 15 = .ok (.ireturn, 1) := by decide +kernel
theorem dJ0_charAt_5068e_16 : decode cJ0_charAt_5068e 16 = .ok (.aload_n 0, 1) := by decide +kernel
theorem dJ0_charAt_5068e_17 : decode cJ0_charAt_5068e 17 = .ok (.getfield 9, 3) := by decide +kernel
theorem dJ0_charAt_5068e_20 : decode cJ0_charAt_5068e 20 = .ok (.iload_n 1, 1) := by decide +kernel
theorem dJ0_charAt_5068e_21 : decode cJ0_charAt_5068e 21 = .ok (.invokestatic 498, 3) := by decide +kernel
theorem dJ0_charAt_5068e_24 : decode cJ0_charAt_5068e 24 = .ok (.ireturn, 1) := by decide +kernel
theorem dJ0_indexOf_0f7a4_0 : decode cJ0_indexOf_0f7a4 0 = .ok (.aload_n 0, 1) := by decide +kernel
theorem dJ0_indexOf_0f7a4_1 : decode cJ0_indexOf_0f7a4 1 = .ok (.iload_n 1, 1) := by decide +kernel
theorem dJ0_indexOf_0f7a4_2 : decode cJ0_indexOf_0f7a4 2 = .ok (.iconst 0, 1) := by decide +kernel
theorem dJ0_indexOf_0f7a4_3 : decode cJ0_indexOf_0f7a4 3 = .ok (.invokevirtual 633, 3) := by decide +kernel
theorem dJ0_indexOf_0f7a4_6 : decode cJ0_indexOf_0f7a4 6 = .ok (.ireturn, 1) := by decide +kernel
theorem dJ0_indexOf_7cf53_0 : decode cJ0_indexOf_7cf53 0 = .ok (.aload_n 0, 1) := by decide +kernel
theorem dJ0_indexOf_7cf53_1 : decode cJ0_indexOf_7cf53 1 = .ok (.invokevirtual 492, 3) := by decide +kernel
theorem dJ0_indexOf_7cf53_4 : decode cJ0_indexOf_7cf53 4 = .ok (.ifCond .eq 19, 3) := by decide +kernel
theorem dJ0_indexOf_7cf53_7 : decode cJ0_indexOf_7cf53 7 = .ok (.aload_n 0, 1) := by decide +kernel
theorem dJ0_indexOf_7cf53_8 : decode cJ0_indexOf_7cf53 8 = .ok (.getfield 9, 3) := by decide +kernel
theorem dJ0_indexOf_7cf53_11 : decode cJ0_indexOf_7cf53 11 = .ok (.iload_n 1, 1) := by decide +kernel
theorem dJ0_indexOf_7cf53_12 : decode cJ0_indexOf_7cf53 12 = .ok (.iload_n 2, 1) := by decide +kernel
theorem dJ0_indexOf_7cf53_13 : decode cJ0_indexOf_7cf53 13 = .ok (.aload_n 0, 1) := by decide +kernel
theorem dJ0_indexOf_7cf53_14 : decode cJ0_indexOf_7cf53 14 = .ok (.invokevirtual 505, 3) := by decide +kernel
theorem dJ0_indexOf_7cf53_17 : decode cJ0_indexOf_7cf53 17 = .ok (.invokestatic 637, 3) := by decide +kernel
theorem dJ0_indexOf_7cf53_20 : decode cJ0_indexOf_7cf53 20 = .ok (.goto 16, 3) := by decide +kernel
theorem dJ0_indexOf_7cf53_23 : decode cJ0_indexOf_7cf53 23 = .ok (.aload_n 0, 1) := by decide +kernel
theorem dJ0_indexOf_7cf53_24 : decode cJ0_indexOf_7cf53 24 = .ok (.getfield 9, 3) := by decide +kernel
theorem dJ0_indexOf_7cf53_27 : decode cJ0_indexOf_7cf53 27 = .ok (.iload_n 1, 1) := by decide +kernel
theorem dJ0_indexOf_7cf53_28 : decode cJ0_indexOf_7cf53 28 = .ok (.iload_n 2, 1) := by decide +kernel
theorem dJ0_indexOf_7cf53_29 : decode cJ0_indexOf_7cf53 29 = .ok (.aload_n 0, 1) := by decide +kernel
theorem dJ0_indexOf_7cf53_30 : decode cJ0_indexOf_7cf53 30 = .ok (.invokevirtual 505, 3) := by decide +kernel
theorem dJ0_indexOf_7cf53_33 : decode cJ0_indexOf_7cf53 33 = .ok (.invokestatic 640, 3) := by decide +kernel
theorem dJ0_indexOf_7cf53_36 : decode cJ0_indexOf_7cf53 36 = .ok (.ireturn, 1) := by decide +kernel
theorem dJ0_coder_7d493_0 : decode cJ0_coder_7d493 0 = .ok (.getstatic 38, 3) := by decide +kernel
theorem dJ0_coder_7d493_3 : decode cJ0_coder_7d493 3 = .ok (.ifCond .eq 10, 3) := by decide +kernel
theorem dJ0_coder_7d493_6 : decode cJ0_coder_7d493 6 = .ok (.aload_n 0, 1) := by decide +kernel
theorem dJ0_coder_7d493_7 : decode cJ0_coder_7d493 7 = .ok (.getfield 15, 3) := by decide +kernel
theorem dJ0_coder_7d493_10 : decode cJ0_coder_7d493 10 = .ok (.goto 4, 3) := by decide +kernel
theorem dJ0_coder_7d493_13 : decode cJ0_coder_7d493 13 = .ok (.iconst 1, 1) := by decide +kernel
theorem dJ0_coder_7d493_14 : decode cJ0_coder_7d493 14 = .ok (.ireturn, 1) := by decide +kernel
theorem dJ0_isLatin1_aae02_0 : decode cJ0_isLatin1_aae02 0 = .ok (.getstatic 38, 3) := by decide +kernel
theorem dJ0_isLatin1_aae02_3 : decode cJ0_isLatin1_aae02 3 = .ok (.ifCond .eq 14, 3) := by decide +kernel
theorem dJ0_isLatin1_aae02_6 : decode cJ0_isLatin1_aae02 6 = .ok (.aload_n 0, 1) := by decide +kernel
theorem dJ0_isLatin1_aae02_7 : decode cJ0_isLatin1_aae02 7 = .ok (.getfield 15, 3) := by decide +kernel
theorem dJ0_isLatin1_aae02_10 : decode cJ0_isLatin1_aae02 10 = .ok (.ifCond .ne 7, 3) := by decide +kernel
theorem dJ0_isLatin1_aae02_13 : decode cJ0_isLatin1_aae02 13 = .ok (.iconst 1, 1) := by decide +kernel
theorem dJ0_isLatin1_aae02_14 : decode cJ0_isLatin1_aae02 14 = .ok (.goto 4, 3) := by decide +kernel
theorem dJ0_isLatin1_aae02_17 : decode cJ0_isLatin1_aae02 17 = .ok (.iconst 0, 1) := by decide +kernel
theorem dJ0_isLatin1_aae02_18 : decode cJ0_isLatin1_aae02 18 = .ok (.ireturn, 1) := by decide +kernel
theorem dJ0_checkIndex_df160_0 : decode cJ0_checkIndex_df160 0 = .ok (.iload_n 0, 1) := by decide +kernel
theorem dJ0_checkIndex_df160_1 : decode cJ0_checkIndex_df160 1 = .ok (.iload_n 1, 1) := by decide +kernel
theorem dJ0_checkIndex_df160_2 : decode cJ0_checkIndex_df160 2 = .ok (.getstatic 1053, 3) := by decide +kernel
theorem dJ0_checkIndex_df160_5 : decode cJ0_checkIndex_df160 5 = .ok (.invokestatic 1059, 3) := by decide +kernel
theorem dJ0_checkIndex_df160_8 : decode cJ0_checkIndex_df160 8 = .ok (.pop, 1) := by decide +kernel
theorem dJ0_checkIndex_df160_9 : decode cJ0_checkIndex_df160 9 = .ok (.return_, 1) := by decide +kernel
theorem dJ0_checkBoundsBeginEnd_23922_0 : decode cJ0_checkBoundsBeginEnd_23922 0 = .ok (.iload_n 0, 1) := by decide +kernel
theorem dJ0_checkBoundsBeginEnd_23922_1 : decode cJ0_checkBoundsBeginEnd_23922 1 = .ok (.iload_n 1, 1) := by decide +kernel
theorem dJ0_checkBoundsBeginEnd_23922_2 : decode cJ0_checkBoundsBeginEnd_23922 2 = .ok (.iload_n 2, 1) := by decide +kernel
theorem dJ0_checkBoundsBeginEnd_23922_3 : decode cJ0_checkBoundsBeginEnd_23922 3 = .ok (.getstatic 1053, 3) := by decide +kernel
theorem dJ0_checkBoundsBeginEnd_23922_6 : decode cJ0_checkBoundsBeginEnd_23922 6 = .ok (.invokestatic 1062, 3) := by decide +kernel
theorem dJ0_checkBoundsBeginEnd_23922_9 : decode cJ0_checkBoundsBeginEnd_23922 9 = .ok (.pop, 1) := by decide +kernel
theorem dJ0_checkBoundsBeginEnd_23922_10 : decode cJ0_checkBoundsBeginEnd_23922 10 = .ok (.return_, 1) := by decide +kernel
theorem dJ1_charAt_3b067_0 : decode cJ1_charAt_3b067 0 = .ok (.iload_n 1, 1) := by decide +kernel
theorem dJ1_charAt_3b067_1 : decode cJ1_charAt_3b067 1 = .ok (.aload_n 0, 1) := by decide +kernel
theorem dJ1_charAt_3b067_2 : decode cJ1_charAt_3b067 2 = .ok (.arraylength, 1) := by decide +kernel
theorem dJ1_charAt_3b067_3 : decode cJ1_charAt_3b067 3 = .ok (.invokestatic 9, 3) := by decide +kernel
theorem dJ1_charAt_3b067_6 : decode cJ1_charAt_3b067 6 = .ok (.aload_n 0, 1) := by decide +kernel
theorem dJ1_charAt_3b067_7 : decode cJ1_charAt_3b067 7 = .ok (.iload_n 1, 1) := by decide +kernel
theorem dJ1_charAt_3b067_8 : decode cJ1_charAt_3b067 8 = .ok (.baload, 1) := by decide +kernel
theorem dJ1_charAt_3b067_9 : decode cJ1_charAt_3b067 9 = .ok (.sipush 255, 3) := by decide +kernel
theorem dJ1_charAt_3b067_12 : decode cJ1_charAt_3b067 12 = .ok (.iand, 1) := by decide +kernel
theorem dJ1_charAt_3b067_13 : decode cJ1_charAt_3b067 13 = .ok (.i2c, 1) := by decide +kernel
theorem dJ1_charAt_3b067_14 : decode cJ1_charAt_3b067 14 = .ok (.ireturn, 1) := by decide +kernel
theorem dJ1_canEncode_9a6ad_0 : decode cJ1_canEncode_9a6ad 0 = .ok (.iload_n 0, 1) := by decide +kernel
theorem dJ1_canEncode_9a6ad_1 : decode cJ1_canEncode_9a6ad 1 = .ok (.ifCond .lt 14, 3) := by decide +kernel
theorem dJ1_canEncode_9a6ad_4 : decode cJ1_canEncode_9a6ad 4 = .ok (.iload_n 0, 1) := by decide +kernel
theorem dJ1_canEncode_9a6ad_5 : decode cJ1_canEncode_9a6ad 5 = .ok (.sipush 255, 3) := by decide +kernel
theorem dJ1_canEncode_9a6ad_8 : decode cJ1_canEncode_9a6ad 8 = .ok (.if_icmp .gt 7, 3) := by decide +kernel
theorem dJ1_canEncode_9a6ad_11 : decode cJ1_canEncode_9a6ad 11 = .ok (.iconst 1, 1) := by decide +kernel
theorem dJ1_canEncode_9a6ad_12 : decode cJ1_canEncode_9a6ad 12 = .ok (.goto 4, 3) := by decide +kernel
theorem dJ1_canEncode_9a6ad_15 : decode cJ1_canEncode_9a6ad 15 = .ok (.iconst 0, 1) := by decide +kernel
theorem dJ1_canEncode_9a6ad_16 : decode cJ1_canEncode_9a6ad 16 = .ok (.ireturn, 1) := by decide +kernel
theorem dJ1_indexOf_4cfef_0 : decode cJ1_indexOf_4cfef 0 = .ok (.iload_n 1, 1) := by decide +kernel
theorem dJ1_indexOf_4cfef_1 : decode cJ1_indexOf_4cfef 1 = .ok (.invokestatic 88, 3) := by decide +kernel
theorem dJ1_indexOf_4cfef_4 : decode cJ1_indexOf_4cfef 4 = .ok (.ifCond .ne 5, 3) := by decide +kernel
theorem dJ1_indexOf_4cfef_7 : decode cJ1_indexOf_4cfef 7 = .ok (.iconst (-1), 1) := by decide +kernel
theorem dJ1_indexOf_4cfef_8 : decode cJ1_indexOf_4cfef 8 = .ok (.ireturn, 1) := by decide +kernel
theorem dJ1_indexOf_4cfef_9 : decode cJ1_indexOf_4cfef 9 = .ok (.iload_n 2, 1) := by decide +kernel
theorem dJ1_indexOf_4cfef_10 : decode cJ1_indexOf_4cfef 10 = .ok (.iconst 0, 1) := by decide +kernel
theorem dJ1_indexOf_4cfef_11 : decode cJ1_indexOf_4cfef 11 = .ok (.invokestatic 92, 3) := by decide +kernel
theorem dJ1_indexOf_4cfef_14 : decode cJ1_indexOf_4cfef 14 = .ok (.istore_n 2, 1) := by decide +kernel
theorem dJ1_indexOf_4cfef_15 : decode cJ1_indexOf_4cfef 15 = .ok (.iload_n 3, 1) := by decide +kernel
theorem dJ1_indexOf_4cfef_16 : decode cJ1_indexOf_4cfef 16 = .ok (.aload_n 0, 1) := by decide +kernel
theorem dJ1_indexOf_4cfef_17 : decode cJ1_indexOf_4cfef 17 = .ok (.arraylength, 1) := by decide +kernel
theorem dJ1_indexOf_4cfef_18 : decode cJ1_indexOf_4cfef 18 = .ok (.invokestatic 38, 3) := by decide +kernel
theorem dJ1_indexOf_4cfef_21 : decode cJ1_indexOf_4cfef 21 = .ok (.istore_n 3, 1) := by decide +kernel
theorem dJ1_indexOf_4cfef_22 : decode cJ1_indexOf_4cfef 22 = .ok (.iload_n 2, 1) := by decide +kernel
theorem dJ1_indexOf_4cfef_23 : decode cJ1_indexOf_4cfef 23 = .ok (.iload_n 3, 1) := by decide +kernel
theorem dJ1_indexOf_4cfef_24 : decode cJ1_indexOf_4cfef 24 = .ok (.if_icmp .lt 5, 3) := by decide +kernel
theorem dJ1_indexOf_4cfef_27 : decode cJ1_indexOf_4cfef 27 = .ok (.iconst (-1), 1) := by decide +kernel
theorem dJ1_indexOf_4cfef_28 : decode cJ1_indexOf_4cfef 28 = .ok (.ireturn, 1) := by decide +kernel
theorem dJ1_indexOf_4cfef_29 : decode cJ1_indexOf_4cfef 29 = .ok (.aload_n 0, 1) := by decide +kernel
theorem dJ1_indexOf_4cfef_30 : decode cJ1_indexOf_4cfef 30 = .ok (.iload_n 1, 1) := by decide +kernel
theorem dJ1_indexOf_4cfef_31 : decode cJ1_indexOf_4cfef 31 = .ok (.iload_n 2, 1) := by decide +kernel
theorem dJ1_indexOf_4cfef_32 : decode cJ1_indexOf_4cfef 32 = .ok (.iload_n 3, 1) := by decide +kernel
theorem dJ1_indexOf_4cfef_33 : decode cJ1_indexOf_4cfef 33 = .ok (.invokestatic 95, 3) := by decide +kernel
theorem dJ1_indexOf_4cfef_36 : decode cJ1_indexOf_4cfef 36 = .ok (.ireturn, 1) := by decide +kernel
theorem dJ1_indexOfChar_4cfef_0 : decode cJ1_indexOfChar_4cfef 0 = .ok (.iload_n 1, 1) := by decide +kernel
theorem dJ1_indexOfChar_4cfef_1 : decode cJ1_indexOfChar_4cfef 1 = .ok (.i2b, 1) := by decide +kernel
theorem dJ1_indexOfChar_4cfef_2 : decode cJ1_indexOfChar_4cfef 2 = .ok (.istore 4, 2) := by decide +kernel
theorem dJ1_indexOfChar_4cfef_4 : decode cJ1_indexOfChar_4cfef 4 = .ok (.iload_n 2, 1) := by decide +kernel
theorem dJ1_indexOfChar_4cfef_5 : decode cJ1_indexOfChar_4cfef 5 = .ok (.istore 5, 2) := by decide +kernel
theorem dJ1_indexOfChar_4cfef_7 : decode cJ1_indexOfChar_4cfef 7 = .ok (.iload 5, 2) := by decide +kernel
theorem dJ1_indexOfChar_4cfef_9 : decode cJ1_indexOfChar_4cfef 9 = .ok (.iload_n 3, 1) := by decide +kernel
theorem dJ1_indexOfChar_4cfef_10 : decode cJ1_indexOfChar_4cfef 10 = .ok (.if_icmp .ge 21, 3) := by decide +kernel
theorem dJ1_indexOfChar_4cfef_13 : decode cJ1_indexOfChar_4cfef 13 = .ok (.aload_n 0, 1) := by decide +kernel
theorem dJ1_indexOfChar_4cfef_14 : decode cJ1_indexOfChar_4cfef 14 = .ok (.iload 5, 2) := by decide +kernel
theorem dJ1_indexOfChar_4cfef_16 : decode cJ1_indexOfChar_4cfef 16 = .ok (.baload, 1) := by decide +kernel
theorem dJ1_indexOfChar_4cfef_17 : decode cJ1_indexOfChar_4cfef 17 = .ok (.iload 4, 2) := by decide +kernel
theorem dJ1_indexOfChar_4cfef_19 : decode cJ1_indexOfChar_4cfef 19 = .ok (.if_icmp .ne 6, 3) := by decide +kernel
theorem dJ1_indexOfChar_4cfef_22 : decode cJ1_indexOfChar_4cfef 22 = .ok (.iload 5, 2) := by decide +kernel
theorem dJ1_indexOfChar_4cfef_24 : decode cJ1_indexOfChar_4cfef 24 = .ok (.ireturn, 1) := by decide +kernel
theorem dJ1_indexOfChar_4cfef_25 : decode cJ1_indexOfChar_4cfef 25 = .ok (.iinc 5 1, 3) := by decide +kernel
theorem dJ1_indexOfChar_4cfef_28 : decode cJ1_indexOfChar_4cfef 28 = .ok (.goto (-21), 3) := by decide +kernel
theorem dJ1_indexOfChar_4cfef_31 : decode cJ1_indexOfChar_4cfef 31 = .ok (.iconst (-1), 1) := by decide +kernel
theorem dJ1_indexOfChar_4cfef_32 : decode cJ1_indexOfChar_4cfef 32 = .ok (.ireturn, 1) := by decide +kernel
theorem dJ2_getChar_3b067_0 : decode cJ2_getChar_3b067 0 = .ok (.getstatic 44, 3) := by decide +kernel
theorem dJ2_getChar_3b067_3 : decode cJ2_getChar_3b067 3 = .ok (.ifCond .ne 25, 3) := by decide +kernel
theorem dJ2_getChar_3b067_6 : decode cJ2_getChar_3b067 6 = .ok (.iload_n 1, 1) := by decide +kernel
theorem dJ2_getChar_3b067_7 : decode cJ2_getChar_3b067 7 = .ok (.ifCond .lt 11, 3) := by decide +kernel
theorem dJ2_getChar_3b067_10 : decode cJ2_getChar_3b067 10 = .ok (.iload_n 1, 1) := by decide +kernel
theorem dJ2_getChar_3b067_11 : decode cJ2_getChar_3b067 11 = .ok (.aload_n 0, 1) := by decide +kernel
theorem dJ2_getChar_3b067_12 : decode cJ2_getChar_3b067 12 = .ok (.invokestatic 48, 3) := by decide +kernel
theorem dJ2_getChar_3b067_15 : decode cJ2_getChar_3b067 15 = .ok (.if_icmp .lt 13, 3) := by decide +kernel
theorem dJ2_getChar_3b067_18 : decode cJ2_getChar_3b067 18 = .ok (.new 52, 3) := by decide +kernel
theorem dJ2_getChar_3b067_21 : decode cJ2_getChar_3b067 21 = .ok (.dup, 1) := by decide +kernel
theorem dJ2_getChar_3b067_22 : decode cJ2_getChar_3b067 22 = .ok (.ldc 54, 2) := by decide +kernel
theorem dJ2_getChar_3b067_24 : decode cJ2_getChar_3b067 24 = .ok (.invokespecial 56, 3) := by decide +kernel
theorem dJ2_getChar_3b067_27 : decode cJ2_getChar_3b067 27 = .ok (.athrow, 1) := by decide +kernel
theorem dJ2_getChar_3b067_28 : decode cJ2_getChar_3b067 28 = .ok (.iload_n 1, 1) := by decide +kernel
theorem dJ2_getChar_3b067_29 : decode cJ2_getChar_3b067 29 = .ok (.iconst 1, 1) := by decide +kernel
theorem dJ2_getChar_3b067_30 : decode cJ2_getChar_3b067 30 = .ok (.ishl, 1) := by decide +kernel
theorem dJ2_getChar_3b067_31 : decode cJ2_getChar_3b067 31 = .ok (.istore_n 1, 1) := by decide +kernel
theorem dJ2_getChar_3b067_32 : decode cJ2_getChar_3b067 32 = .ok (.aload_n 0, 1) := by decide +kernel
theorem dJ2_getChar_3b067_33 : decode cJ2_getChar_3b067 33 = .ok (.iload_n 1, 1) := by decide +kernel
theorem dJ2_getChar_3b067_34 : decode cJ2_getChar_3b067 34 = .ok (.iinc 1 1, 3) := by decide +kernel
theorem dJ2_getChar_3b067_37 : decode cJ2_getChar_3b067 37 = .ok (.baload, 1) := by decide +kernel
theorem dJ2_getChar_3b067_38 : decode cJ2_getChar_3b067 38 = .ok (.sipush 255, 3) := by decide +kernel
theorem dJ2_getChar_3b067_41 : decode cJ2_getChar_3b067 41 = .ok (.iand, 1) := by decide +kernel
theorem dJ2_getChar_3b067_42 : decode cJ2_getChar_3b067 42 = .ok (.getstatic 59, 3) := by decide +kernel
theorem dJ2_getChar_3b067_45 : decode cJ2_getChar_3b067 45 = .ok (.ishl, 1) := by decide +kernel
theorem dJ2_getChar_3b067_46 : decode cJ2_getChar_3b067 46 = .ok (.aload_n 0, 1) := by decide +kernel
theorem dJ2_getChar_3b067_47 : decode cJ2_getChar_3b067 47 = .ok (.iload_n 1, 1) := by decide +kernel
theorem dJ2_getChar_3b067_48 : decode cJ2_getChar_3b067 48 = .ok (.baload, 1) := by decide +kernel
theorem dJ2_getChar_3b067_49 : decode cJ2_getChar_3b067 49 = .ok (.sipush 255, 3) := by decide +kernel
theorem dJ2_getChar_3b067_52 : decode cJ2_getChar_3b067 52 = .ok (.iand, 1) := by decide +kernel
theorem dJ2_getChar_3b067_53 : decode cJ2_getChar_3b067 53 = .ok (.getstatic 63, 3) := by decide +kernel
theorem dJ2_getChar_3b067_56 : decode cJ2_getChar_3b067 56 = .ok (.ishl, 1) := by decide +kernel
theorem dJ2_getChar_3b067_57 : decode cJ2_getChar_3b067 57 = .ok (.ior, 1) := by decide +kernel
theorem dJ2_getChar_3b067_58 : decode cJ2_getChar_3b067 58 = .ok (.i2c, 1) := by decide +kernel
theorem dJ2_getChar_3b067_59 : decode cJ2_getChar_3b067 59 = .ok (.ireturn, 1) := by decide +kernel
theorem dJ2_length_9d52b_0 : decode cJ2_length_9d52b 0 = .ok (.aload_n 0, 1) := by decide +kernel
theorem dJ2_length_9d52b_1 : decode cJ2_length_9d52b 1 = .ok (.arraylength, 1) := by decide +kernel
theorem dJ2_length_9d52b_2 : decode cJ2_length_9d52b 2 = .ok (.iconst 1, 1) := by decide +kernel
theorem dJ2_length_9d52b_3 : decode cJ2_length_9d52b 3 = .ok (.ishr, 1) := by decide +kernel
theorem dJ2_length_9d52b_4 : decode cJ2_length_9d52b 4 = .ok (.ireturn, 1) := by decide +kernel
theorem dJ2_indexOf_4cfef_0 : decode cJ2_indexOf_4cfef 0 = .ok (.iload_n 2, 1) := by decide +kernel
theorem dJ2_indexOf_4cfef_1 : decode cJ2_indexOf_4cfef 1 = .ok (.iconst 0, 1) := by decide +kernel
theorem dJ2_indexOf_4cfef_2 : decode cJ2_indexOf_4cfef 2 = .ok (.invokestatic 224, 3) := by decide +kernel
theorem dJ2_indexOf_4cfef_5 : decode cJ2_indexOf_4cfef 5 = .ok (.istore_n 2, 1) := by decide +kernel
theorem dJ2_indexOf_4cfef_6 : decode cJ2_indexOf_4cfef 6 = .ok (.iload_n 3, 1) := by decide +kernel
theorem dJ2_indexOf_4cfef_7 : decode cJ2_indexOf_4cfef 7 = .ok (.aload_n 0, 1) := by decide +kernel
theorem dJ2_indexOf_4cfef_8 : decode cJ2_indexOf_4cfef 8 = .ok (.arraylength, 1) := by decide +kernel
theorem dJ2_indexOf_4cfef_9 : decode cJ2_indexOf_4cfef 9 = .ok (.iconst 1, 1) := by decide +kernel
theorem dJ2_indexOf_4cfef_10 : decode cJ2_indexOf_4cfef 10 = .ok (.ishr, 1) := by decide +kernel
theorem dJ2_indexOf_4cfef_11 : decode cJ2_indexOf_4cfef 11 = .ok (.invokestatic 183, 3) := by decide +kernel
theorem dJ2_indexOf_4cfef_14 : decode cJ2_indexOf_4cfef 14 = .ok (.istore_n 3, 1) := by decide +kernel
theorem dJ2_indexOf_4cfef_15 : decode cJ2_indexOf_4cfef 15 = .ok (.iload_n 2, 1) := by decide +kernel
theorem dJ2_indexOf_4cfef_16 : decode cJ2_indexOf_4cfef 16 = .ok (.iload_n 3, 1) := by decide +kernel
theorem dJ2_indexOf_4cfef_17 : decode cJ2_indexOf_4cfef 17 = .ok (.if_icmp .lt 5, 3) := by decide +kernel
theorem dJ2_indexOf_4cfef_20 : decode cJ2_indexOf_4cfef 20 = .ok (.iconst (-1), 1) := by decide +kernel
theorem dJ2_indexOf_4cfef_21 : decode cJ2_indexOf_4cfef 21 = .ok (.ireturn, 1) := by decide +kernel
theorem dJ2_indexOf_4cfef_22 : decode cJ2_indexOf_4cfef 22 = .ok (.iload_n 1, 1) := by decide +kernel
theorem dJ2_indexOf_4cfef_23 : decode cJ2_indexOf_4cfef 23 = .ok (.ldc 227, 2) := by decide +kernel
theorem dJ2_indexOf_4cfef_25 : decode cJ2_indexOf_4cfef 25 = .ok (.if_icmp .ge 11, 3) := by decide +kernel
theorem dJ2_indexOf_4cfef_28 : decode cJ2_indexOf_4cfef 28 = .ok (.aload_n 0, 1) := by decide +kernel
theorem dJ2_indexOf_4cfef_29 : decode cJ2_indexOf_4cfef 29 = .ok (.iload_n 1, 1) := by decide +kernel
theorem dJ2_indexOf_4cfef_30 : decode cJ2_indexOf_4cfef 30 = .ok (.iload_n 2, 1) := by decide +kernel
theorem dJ2_indexOf_4cfef_31 : decode cJ2_indexOf_4cfef 31 = .ok (.iload_n 3, 1) := by decide +kernel
theorem dJ2_indexOf_4cfef_32 : decode cJ2_indexOf_4cfef 32 = .ok (.invokestatic 228, 3) := by decide +kernel
theorem dJ2_indexOf_4cfef_35 : decode cJ2_indexOf_4cfef 35 = .ok (.ireturn, 1) := by decide +kernel
theorem dJ2_indexOf_4cfef_36 : decode cJ2_indexOf_4cfef 36 = .ok (.aload_n 0, 1) := by decide +kernel
theorem dJ2_indexOf_4cfef_37 : decode cJ2_indexOf_4cfef 37 = .ok (.iload_n 1, 1) := by decide +kernel
theorem dJ2_indexOf_4cfef_38 : decode cJ2_indexOf_4cfef 38 = .ok (.iload_n 2, 1) := by decide +kernel
theorem dJ2_indexOf_4cfef_39 : decode cJ2_indexOf_4cfef 39 = .ok (.iload_n 3, 1) := by decide +kernel
theorem dJ2_indexOf_4cfef_40 : decode cJ2_indexOf_4cfef 40 = .ok (.invokestatic 232, 3) := by decide +kernel
theorem dJ2_indexOf_4cfef_43 : decode cJ2_indexOf_4cfef 43 = .ok (.ireturn, 1) := by decide +kernel
theorem dJ2_indexOfChar_4cfef_0 : decode cJ2_indexOfChar_4cfef 0 = .ok (.iload_n 2, 1) := by decide +kernel
theorem dJ2_indexOfChar_4cfef_1 : decode cJ2_indexOfChar_4cfef 1 = .ok (.iload_n 3, 1) := by decide +kernel
theorem dJ2_indexOfChar_4cfef_2 : decode cJ2_indexOfChar_4cfef 2 = .ok (.aload_n 0, 1) := by decide +kernel
theorem dJ2_indexOfChar_4cfef_3 : decode cJ2_indexOfChar_4cfef 3 = .ok (.invokestatic 96, 3) := by decide +kernel
theorem dJ2_indexOfChar_4cfef_6 : decode cJ2_indexOfChar_4cfef 6 = .ok (.aload_n 0, 1) := by decide +kernel
theorem dJ2_indexOfChar_4cfef_7 : decode cJ2_indexOfChar_4cfef 7 = .ok (.iload_n 1, 1) := by decide +kernel
theorem dJ2_indexOfChar_4cfef_8 : decode cJ2_indexOfChar_4cfef 8 = .ok (.iload_n 2, 1) := by decide +kernel
theorem dJ2_indexOfChar_4cfef_9 : decode cJ2_indexOfChar_4cfef 9 = .ok (.iload_n 3, 1) := by decide +kernel
theorem dJ2_indexOfChar_4cfef_10 : decode cJ2_indexOfChar_4cfef 10 = .ok (.invokestatic 244, 3) := by decide +kernel
theorem dJ2_indexOfChar_4cfef_13 : decode cJ2_indexOfChar_4cfef 13 = .ok (.ireturn, 1) := by decide +kernel
theorem dJ2_indexOfCharUnsafe_4cfef_0 : decode cJ2_indexOfCharUnsafe_4cfef 0 = .ok (.iload_n 2, 1) := by decide +kernel
theorem dJ2_indexOfCharUnsafe_4cfef_1 : decode cJ2_indexOfCharUnsafe_4cfef 1 = .ok (.istore 4, 2) := by decide +kernel
theorem dJ2_indexOfCharUnsafe_4cfef_3 : decode cJ2_indexOfCharUnsafe_4cfef 3 = .ok (.iload 4, 2) := by decide +kernel
theorem dJ2_indexOfCharUnsafe_4cfef_5 : decode cJ2_indexOfCharUnsafe_4cfef 5 = .ok (.iload_n 3, 1) := by decide +kernel
theorem dJ2_indexOfCharUnsafe_4cfef_6 : decode cJ2_indexOfCharUnsafe_4cfef 6 = .ok (.if_icmp .ge 22, 3) := by decide +kernel
theorem dJ2_indexOfCharUnsafe_4cfef_9 : decode cJ2_indexOfCharUnsafe_4cfef 9 = .ok (.aload_n 0, 1) := by decide +kernel
theorem dJ2_indexOfCharUnsafe_4cfef_10 : decode cJ2_indexOfCharUnsafe_4cfef 10 = .ok (.iload 4, 2) := by decide +kernel
theorem dJ2_indexOfCharUnsafe_4cfef_12 : decode cJ2_indexOfCharUnsafe_4cfef 12 = .ok (.invokestatic 71, 3) := by decide +kernel
theorem dJ2_indexOfCharUnsafe_4cfef_15 : decode cJ2_indexOfCharUnsafe_4cfef 15 = .ok (.iload_n 1, 1) := by decide +kernel
theorem dJ2_indexOfCharUnsafe_4cfef_16 : decode cJ2_indexOfCharUnsafe_4cfef 16 = .ok (.if_icmp .ne 6, 3) := by decide +kernel
theorem dJ2_indexOfCharUnsafe_4cfef_19 : decode cJ2_indexOfCharUnsafe_4cfef 19 = .ok (.iload 4, 2) := by decide +kernel
theorem dJ2_indexOfCharUnsafe_4cfef_21 : decode cJ2_indexOfCharUnsafe_4cfef 21 = .ok (.ireturn, 1) := by decide +kernel
theorem dJ2_indexOfCharUnsafe_4cfef_22 : decode cJ2_indexOfCharUnsafe_4cfef 22 = .ok (.iinc 4 1, 3) := by decide +kernel
theorem dJ2_indexOfCharUnsafe_4cfef_25 : decode cJ2_indexOfCharUnsafe_4cfef 25 = .ok (.goto (-22), 3) := by decide +kernel
theorem dJ2_indexOfCharUnsafe_4cfef_28 : decode cJ2_indexOfCharUnsafe_4cfef 28 = .ok (.iconst (-1), 1) := by decide +kernel
theorem dJ2_indexOfCharUnsafe_4cfef_29 : decode cJ2_indexOfCharUnsafe_4cfef 29 = .ok (.ireturn, 1) := by decide +kernel
theorem dJ2_indexOfSupplementary_4cfef_0 : decode cJ2_indexOfSupplementary_4cfef 0 = .ok (.iload_n 1, 1) := by decide +kernel
theorem dJ2_indexOfSupplementary_4cfef_1 : decode cJ2_indexOfSupplementary_4cfef 1 = .ok (.invokestatic 164, 3) := by decide +kernel
theorem dJ2_indexOfSupplementary_4cfef_4 : decode cJ2_indexOfSupplementary_4cfef 4 = .ok (.ifCond .eq 65, 3) := by decide +kernel
theorem dJ2_indexOfSupplementary_4cfef_7 : decode cJ2_indexOfSupplementary_4cfef 7 = .ok (.iload_n 1, 1) := by decide +kernel
theorem dJ2_indexOfSupplementary_4cfef_8 : decode cJ2_indexOfSupplementary_4cfef 8 = .ok (.invokestatic 157, 3) := by decide +kernel
theorem dJ2_indexOfSupplementary_4cfef_11 : decode cJ2_indexOfSupplementary_4cfef 11 = .ok (.istore 4, 2) := by decide +kernel
theorem dJ2_indexOfSupplementary_4cfef_13 : decode cJ2_indexOfSupplementary_4cfef 13 = .ok (.iload_n 1, 1) := by decide +kernel
theorem dJ2_indexOfSupplementary_4cfef_14 : decode cJ2_indexOfSupplementary_4cfef 14 = .ok (.invokestatic 161, 3) := by decide +kernel
theorem dJ2_indexOfSupplementary_4cfef_17 : decode cJ2_indexOfSupplementary_4cfef 17 = .ok (.istore 5, 2) := by decide +kernel
theorem dJ2_indexOfSupplementary_4cfef_19 : decode cJ2_indexOfSupplementary_4cfef 19 = .ok (.iload_n 2, 1) := by decide +kernel
theorem dJ2_indexOfSupplementary_4cfef_20 : decode cJ2_indexOfSupplementary_4cfef 20 = .ok (.iload_n 3, 1) := by decide +kernel
theorem dJ2_indexOfSupplementary_4cfef_21 : decode cJ2_indexOfSupplementary_4cfef 21 = .ok (.aload_n 0, 1) := by decide +kernel
theorem dJ2_indexOfSupplementary_4cfef_22 : decode cJ2_indexOfSupplementary_4cfef 22 = .ok (.invokestatic 96, 3) := by decide +kernel
theorem dJ2_indexOfSupplementary_4cfef_25 : decode cJ2_indexOfSupplementary_4cfef 25 = .ok (.iload_n 2, 1) := by decide +kernel
theorem dJ2_indexOfSupplementary_4cfef_26 : decode cJ2_indexOfSupplementary_4cfef 26 = .ok (.istore 6, 2) := by decide +kernel
theorem dJ2_indexOfSupplementary_4cfef_28 : decode cJ2_indexOfSupplementary_4cfef 28 = .ok (.iload 6, 2) := by decide +kernel
theorem dJ2_indexOfSupplementary_4cfef_30 : decode cJ2_indexOfSupplementary_4cfef 30 = .ok (.iload_n 3, 1) := by decide +kernel
theorem dJ2_indexOfSupplementary_4cfef_31 : decode cJ2_indexOfSupplementary_4cfef 31 = .ok (.iconst 1, 1) := by decide +kernel
theorem dJ2_indexOfSupplementary_4cfef_32 : decode cJ2_indexOfSupplementary_4cfef 32 = .ok (.isub, 1) := by decide +kernel
theorem dJ2_indexOfSupplementary_4cfef_33 : decode cJ2_indexOfSupplementary_4cfef 33 = .ok (.if_icmp .ge 36, 3) := by decide +kernel
theorem dJ2_indexOfSupplementary_4cfef_36 : decode cJ2_indexOfSupplementary_4cfef 36 = .ok (.aload_n 0, 1) := by decide +kernel
theorem dJ2_indexOfSupplementary_4cfef_37 : decode cJ2_indexOfSupplementary_4cfef 37 = .ok (.iload 6, 2) := by decide +kernel
theorem dJ2_indexOfSupplementary_4cfef_39 : decode cJ2_indexOfSupplementary_4cfef 39 = .ok (.invokestatic 71, 3) := by decide +kernel
theorem dJ2_indexOfSupplementary_4cfef_42 : decode cJ2_indexOfSupplementary_4cfef 42 = .ok (.iload 4, 2) := by decide +kernel
theorem dJ2_indexOfSupplementary_4cfef_44 : decode cJ2_indexOfSupplementary_4cfef 44 = .ok (.if_icmp .ne 19, 3) := by decide +kernel
theorem dJ2_indexOfSupplementary_4cfef_47 : decode cJ2_indexOfSupplementary_4cfef 47 = .ok (.aload_n 0, 1) := by decide +kernel
theorem dJ2_indexOfSupplementary_4cfef_48 : decode cJ2_indexOfSupplementary_4cfef 48 = .ok (.iload 6, 2) := by decide +kernel
theorem dJ2_indexOfSupplementary_4cfef_50 : decode cJ2_indexOfSupplementary_4cfef 50 = .ok (.iconst 1, 1) := by decide +kernel
theorem dJ2_indexOfSupplementary_4cfef_51 : decode cJ2_indexOfSupplementary_4cfef 51 = .ok (.iadd, 1) := by decide +kernel
theorem dJ2_indexOfSupplementary_4cfef_52 : decode cJ2_indexOfSupplementary_4cfef 52 = .ok (.invokestatic 71, 3) := by decide +kernel
theorem dJ2_indexOfSupplementary_4cfef_55 : decode cJ2_indexOfSupplementary_4cfef 55 = .ok (.iload 5, 2) := by decide +kernel
theorem dJ2_indexOfSupplementary_4cfef_57 : decode cJ2_indexOfSupplementary_4cfef 57 = .ok (.if_icmp .ne 6, 3) := by decide +kernel
theorem dJ2_indexOfSupplementary_4cfef_60 : decode cJ2_indexOfSupplementary_4cfef 60 = .ok (.iload 6, 2) := by decide +kernel
theorem dJ2_indexOfSupplementary_4cfef_62 : decode cJ2_indexOfSupplementary_4cfef 62 = .ok (.ireturn, 1) := by decide +kernel
theorem dJ2_indexOfSupplementary_4cfef_63 : decode cJ2_indexOfSupplementary_4cfef 63 = .ok (.iinc 6 1, 3) := by decide +kernel
theorem dJ2_indexOfSupplementary_4cfef_66 : decode cJ2_indexOfSupplementary_4cfef 66 = .ok (.goto (-38), 3) := by decide +kernel
theorem dJ2_indexOfSupplementary_4cfef_69 : decode cJ2_indexOfSupplementary_4cfef 69 = .ok (.iconst (-1), 1) := by decide +kernel
theorem dJ2_indexOfSupplementary_4cfef_70 : decode cJ2_indexOfSupplementary_4cfef 70 = .ok (.ireturn, 1) := by decide +kernel
theorem dJ2_charAt_3b067_0 : decode cJ2_charAt_3b067 0 = .ok (.iload_n 1, 1) := by decide +kernel
theorem dJ2_charAt_3b067_1 : decode cJ2_charAt_3b067 1 = .ok (.aload_n 0, 1) := by decide +kernel
theorem dJ2_charAt_3b067_2 : decode cJ2_charAt_3b067 2 = .ok (.invokestatic 67, 3) := by decide +kernel
theorem dJ2_charAt_3b067_5 : decode cJ2_charAt_3b067 5 = .ok (.aload_n 0, 1) := by decide +kernel
theorem dJ2_charAt_3b067_6 : decode cJ2_charAt_3b067 6 = .ok (.iload_n 1, 1) := by decide +kernel
theorem dJ2_charAt_3b067_7 : decode cJ2_charAt_3b067 7 = .ok (.invokestatic 71, 3) := by decide +kernel
theorem dJ2_charAt_3b067_10 : decode cJ2_charAt_3b067 10 = .ok (.ireturn, 1) := by decide +kernel
theorem dJ2_checkIndex_2214a_0 : decode cJ2_checkIndex_2214a 0 = .ok (.iload_n 0, 1) := by decide +kernel
theorem dJ2_checkIndex_2214a_1 : decode cJ2_checkIndex_2214a 1 = .ok (.aload_n 1, 1) := by decide +kernel
theorem dJ2_checkIndex_2214a_2 : decode cJ2_checkIndex_2214a 2 = .ok (.invokestatic 48, 3) := by decide +kernel
theorem dJ2_checkIndex_2214a_5 : decode cJ2_checkIndex_2214a 5 = .ok (.invokestatic 414, 3) := by decide +kernel
theorem dJ2_checkIndex_2214a_8 : decode cJ2_checkIndex_2214a 8 = .ok (.return_, 1) := by decide +kernel
theorem dJ2_checkBoundsBeginEnd_d044e_0 : decode cJ2_checkBoundsBeginEnd_d044e 0 = .ok (.iload_n 0, 1) := by decide +kernel
theorem dJ2_checkBoundsBeginEnd_d044e_1 : decode cJ2_checkBoundsBeginEnd_d044e 1 = .ok (.iload_n 1, 1) := by decide +kernel
theorem dJ2_checkBoundsBeginEnd_d044e_2 : decode cJ2_checkBoundsBeginEnd_d044e 2 = .ok (.aload_n 2, 1) := by decide +kernel
theorem dJ2_checkBoundsBeginEnd_d044e_3 : decode cJ2_checkBoundsBeginEnd_d044e 3 = .ok (.invokestatic 48, 3) := by decide +kernel
theorem dJ2_checkBoundsBeginEnd_d044e_6 : decode cJ2_checkBoundsBeginEnd_d044e 6 = .ok (.invokestatic 241, 3) := by decide +kernel
theorem dJ2_checkBoundsBeginEnd_d044e_9 : decode cJ2_checkBoundsBeginEnd_d044e 9 = .ok (.return_, 1) := by decide +kernel
theorem dJ7_fill_53178_0 : decode cJ7_fill_53178 0 = .ok (.iconst 0, 1) := by decide +kernel
theorem dJ7_fill_53178_1 : decode cJ7_fill_53178 1 = .ok (.istore_n 2, 1) := by decide +kernel
theorem dJ7_fill_53178_2 : decode cJ7_fill_53178 2 = .ok (.aload_n 0, 1) := by decide +kernel
theorem dJ7_fill_53178_3 : decode cJ7_fill_53178 3 = .ok (.arraylength, 1) := by decide +kernel
theorem dJ7_fill_53178_4 : decode cJ7_fill_53178 4 = .ok (.istore_n 3, 1) := by decide +kernel
theorem dJ7_fill_53178_5 : decode cJ7_fill_53178 5 = .ok (.iload_n 2, 1) := by decide +kernel
theorem dJ7_fill_53178_6 : decode cJ7_fill_53178 6 = .ok (.iload_n 3, 1) := by decide +kernel
theorem dJ7_fill_53178_7 : decode cJ7_fill_53178 7 = .ok (.if_icmp .ge 13, 3) := by decide +kernel
theorem dJ7_fill_53178_10 : decode cJ7_fill_53178 10 = .ok (.aload_n 0, 1) := by decide +kernel
theorem dJ7_fill_53178_11 : decode cJ7_fill_53178 11 = .ok (.iload_n 2, 1) := by decide +kernel
theorem dJ7_fill_53178_12 : decode cJ7_fill_53178 12 = .ok (.iload_n 1, 1) := by decide +kernel
theorem dJ7_fill_53178_13 : decode cJ7_fill_53178 13 = .ok (.iastore, 1) := by decide +kernel
theorem dJ7_fill_53178_14 : decode cJ7_fill_53178 14 = .ok (.iinc 2 1, 3) := by decide +kernel
theorem dJ7_fill_53178_17 : decode cJ7_fill_53178 17 = .ok (.goto (-12), 3) := by decide +kernel
theorem dJ7_fill_53178_20 : decode cJ7_fill_53178 20 = .ok (.return_, 1) := by decide +kernel
theorem dJ3_checkIndex_8e157_0 : decode cJ3_checkIndex_8e157 0 = .ok (.iload_n 0, 1) := by decide +kernel
theorem dJ3_checkIndex_8e157_1 : decode cJ3_checkIndex_8e157 1 = .ok (.ifCond .lt 8, 3) := by decide +kernel
theorem dJ3_checkIndex_8e157_4 : decode cJ3_checkIndex_8e157 4 = .ok (.iload_n 0, 1) := by decide +kernel
theorem dJ3_checkIndex_8e157_5 : decode cJ3_checkIndex_8e157 5 = .ok (.iload_n 1, 1) := by decide +kernel
theorem dJ3_checkIndex_8e157_6 : decode cJ3_checkIndex_8e157 6 = .ok (.if_icmp .lt 10, 3) := by decide +kernel
theorem dJ3_checkIndex_8e157_9 : decode cJ3_checkIndex_8e157 9 = .ok (.aload_n 2, 1) := by decide +kernel
theorem dJ3_checkIndex_8e157_10 : decode cJ3_checkIndex_8e157 10 = .ok (.iload_n 0, 1) := by decide +kernel
theorem dJ3_checkIndex_8e157_11 : decode cJ3_checkIndex_8e157 11 = .ok (.iload_n 1, 1) := by decide +kernel
theorem dJ3_checkIndex_8e157_12 : decode cJ3_checkIndex_8e157 12 = .ok (.invokestatic 95, 3) := by decide +kernel
theorem dJ3_checkIndex_8e157_15 : decode cJ3_checkIndex_8e157 15 = .ok (.athrow, 1) := by decide +kernel
theorem dJ3_checkIndex_8e157_16 : decode cJ3_checkIndex_8e157 16 = .ok (.iload_n 0, 1) := by decide +kernel
theorem dJ3_checkIndex_8e157_17 : decode cJ3_checkIndex_8e157 17 = .ok (.ireturn, 1) := by decide +kernel
theorem dJ3_checkFromToIndex_8c36e_0 : decode cJ3_checkFromToIndex_8c36e 0 = .ok (.iload_n 0, 1) := by decide +kernel
theorem dJ3_checkFromToIndex_8c36e_1 : decode cJ3_checkFromToIndex_8c36e 1 = .ok (.ifCond .lt 13, 3) := by decide +kernel
theorem dJ3_checkFromToIndex_8c36e_4 : decode cJ3_checkFromToIndex_8c36e 4 = .ok (.iload_n 0, 1) := by decide +kernel
theorem dJ3_checkFromToIndex_8c36e_5 : decode cJ3_checkFromToIndex_8c36e 5 = .ok (.iload_n 1, 1) := by decide +kernel
theorem dJ3_checkFromToIndex_8c36e_6 : decode cJ3_checkFromToIndex_8c36e 6 = .ok (.if_icmp .gt 8, 3) := by decide +kernel
theorem dJ3_checkFromToIndex_8c36e_9 : decode cJ3_checkFromToIndex_8c36e 9 = .ok (.iload_n 1, 1) := by decide +kernel
theorem dJ3_checkFromToIndex_8c36e_10 : decode cJ3_checkFromToIndex_8c36e 10 = .ok (.iload_n 2, 1) := by decide +kernel
theorem dJ3_checkFromToIndex_8c36e_11 : decode cJ3_checkFromToIndex_8c36e 11 = .ok (.if_icmp .le 11, 3) := by decide +kernel
theorem dJ3_checkFromToIndex_8c36e_14 : decode cJ3_checkFromToIndex_8c36e 14 = .ok (.aload_n 3, 1) := by decide +kernel
theorem dJ3_checkFromToIndex_8c36e_15 : decode cJ3_checkFromToIndex_8c36e 15 = .ok (.iload_n 0, 1) := by decide +kernel
theorem dJ3_checkFromToIndex_8c36e_16 : decode cJ3_checkFromToIndex_8c36e 16 = .ok (.iload_n 1, 1) := by decide +kernel
theorem dJ3_checkFromToIndex_8c36e_17 : decode cJ3_checkFromToIndex_8c36e 17 = .ok (.iload_n 2, 1) := by decide +kernel
theorem dJ3_checkFromToIndex_8c36e_18 : decode cJ3_checkFromToIndex_8c36e 18 = .ok (.invokestatic 99, 3) := by decide +kernel
theorem dJ3_checkFromToIndex_8c36e_21 : decode cJ3_checkFromToIndex_8c36e 21 = .ok (.athrow, 1) := by decide +kernel
theorem dJ3_checkFromToIndex_8c36e_22 : decode cJ3_checkFromToIndex_8c36e 22 = .ok (.iload_n 0, 1) := by decide +kernel
theorem dJ3_checkFromToIndex_8c36e_23 : decode cJ3_checkFromToIndex_8c36e 23 = .ok (.ireturn, 1) := by decide +kernel
theorem dL_law_0 : decode cL_law 0 = .ok (.new 7, 3) := by decide +kernel
theorem dL_law_3 : decode cL_law 3 = .ok (.dup, 1) := by decide +kernel
theorem dL_law_4 : decode cL_law 4 = .ok (.invokespecial 9, 3) := by decide +kernel
theorem dL_law_7 : decode cL_law 7 = .ok (.astore_n 1, 1) := by decide +kernel
theorem dL_law_8 : decode cL_law 8 = .ok (.new 10, 3) := by decide +kernel
theorem dL_law_11 : decode cL_law 11 = .ok (.dup, 1) := by decide +kernel
theorem dL_law_12 : decode cL_law 12 = .ok (.invokespecial 12, 3) := by decide +kernel
theorem dL_law_15 : decode cL_law 15 = .ok (.astore_n 2, 1) := by decide +kernel
theorem dL_law_16 : decode cL_law 16 = .ok (.iconst 0, 1) := by decide +kernel
theorem dL_law_17 : decode cL_law 17 = .ok (.istore_n 3, 1) := by decide +kernel
theorem dL_law_18 : decode cL_law 18 = .ok (.iload_n 3, 1) := by decide +kernel
theorem dL_law_19 : decode cL_law 19 = .ok (.aload_n 0, 1) := by decide +kernel
theorem dL_law_20 : decode cL_law 20 = .ok (.arraylength, 1) := by decide +kernel
theorem dL_law_21 : decode cL_law 21 = .ok (.bipush 6, 2) := by decide +kernel
theorem dL_law_23 : decode cL_law 23 = .ok (.isub, 1) := by decide +kernel
theorem dL_law_24 : decode cL_law 24 = .ok (.if_icmp .gt 1047, 3) := by decide +kernel
theorem dL_law_27 : decode cL_law 27 = .ok (.aload_n 0, 1) := by decide +kernel
theorem dL_law_28 : decode cL_law 28 = .ok (.iload_n 3, 1) := by decide +kernel
theorem dL_law_29 : decode cL_law 29 = .ok (.iaload, 1) := by decide +kernel
theorem dL_law_30 : decode cL_law 30 = .ok (.bipush 31, 2) := by decide +kernel
theorem dL_law_32 : decode cL_law 32 = .ok (.iand, 1) := by decide +kernel
theorem dL_law_33 : decode cL_law 33 = .ok (.tableswitch 1032 0 27 #[127, 170, 213, 246, 279, 302, 315, 338, 371, 404, 427, 450, 473, 496, 539, 562, 585, 638, 681, 704, 748, 761, 774, 797, 840, 883, 946, 999], 127) := by decide +kernel
theorem dL_law_160 : decode cL_law 160 = .ok (.aload_n 1, 1) := by decide +kernel
theorem dL_law_161 : decode cL_law 161 = .ok (.aload_n 0, 1) := by decide +kernel
theorem dL_law_162 : decode cL_law 162 = .ok (.iload_n 3, 1) := by decide +kernel
theorem dL_law_163 : decode cL_law 163 = .ok (.iconst 1, 1) := by decide +kernel
theorem dL_law_164 : decode cL_law 164 = .ok (.iadd, 1) := by decide +kernel
theorem dL_law_165 : decode cL_law 165 = .ok (.iaload, 1) := by decide +kernel
theorem dL_law_166 : decode cL_law 166 = .ok (.aload_n 0, 1) := by decide +kernel
theorem dL_law_167 : decode cL_law 167 = .ok (.iload_n 3, 1) := by decide +kernel
theorem dL_law_168 : decode cL_law 168 = .ok (.iconst 2, 1) := by decide +kernel
theorem dL_law_169 : decode cL_law 169 = .ok (.iadd, 1) := by decide +kernel
theorem dL_law_170 : decode cL_law 170 = .ok (.iaload, 1) := by decide +kernel
theorem dL_law_171 : decode cL_law 171 = .ok (.aload_n 0, 1) := by decide +kernel
theorem dL_law_172 : decode cL_law 172 = .ok (.iload_n 3, 1) := by decide +kernel
theorem dL_law_173 : decode cL_law 173 = .ok (.iconst 3, 1) := by decide +kernel
theorem dL_law_174 : decode cL_law 174 = .ok (.iadd, 1) := by decide +kernel
theorem dL_law_175 : decode cL_law 175 = .ok (.iaload, 1) := by decide +kernel
theorem dL_law_176 : decode cL_law 176 = .ok (.invokevirtual 13, 3) := by decide +kernel
theorem dL_law_179 : decode cL_law 179 = .ok (.aload_n 2, 1) := by decide +kernel
theorem dL_law_180 : decode cL_law 180 = .ok (.aload_n 0, 1) := by decide +kernel
theorem dL_law_181 : decode cL_law 181 = .ok (.iload_n 3, 1) := by decide +kernel
theorem dL_law_182 : decode cL_law 182 = .ok (.iconst 1, 1) := by decide +kernel
theorem dL_law_183 : decode cL_law 183 = .ok (.iadd, 1) := by decide +kernel
theorem dL_law_184 : decode cL_law 184 = .ok (.iaload, 1) := by decide +kernel
theorem dL_law_185 : decode cL_law 185 = .ok (.aload_n 0, 1) := by decide +kernel
theorem dL_law_186 : decode cL_law 186 = .ok (.iload_n 3, 1) := by decide +kernel
theorem dL_law_187 : decode cL_law 187 = .ok (.iconst 2, 1) := by decide +kernel
theorem dL_law_188 : decode cL_law 188 = .ok (.iadd, 1) := by decide +kernel
theorem dL_law_189 : decode cL_law 189 = .ok (.iaload, 1) := by decide +kernel
theorem dL_law_190 : decode cL_law 190 = .ok (.aload_n 0, 1) := by decide +kernel
theorem dL_law_191 : decode cL_law 191 = .ok (.iload_n 3, 1) := by decide +kernel
theorem dL_law_192 : decode cL_law 192 = .ok (.iconst 3, 1) := by decide +kernel
theorem dL_law_193 : decode cL_law 193 = .ok (.iadd, 1) := by decide +kernel
theorem dL_law_194 : decode cL_law 194 = .ok (.iaload, 1) := by decide +kernel
theorem dL_law_195 : decode cL_law 195 = .ok (.invokevirtual 17, 3) := by decide +kernel
theorem dL_law_198 : decode cL_law 198 = .ok (.if_icmp .eq 867, 3) := by decide +kernel
theorem dL_law_201 : decode cL_law 201 = .ok (.iconst 0, 1) := by decide +kernel
theorem dL_law_202 : decode cL_law 202 = .ok (.ireturn, 1) := by decide +kernel
theorem dL_law_203 : decode cL_law 203 = .ok (.aload_n 1, 1) := by decide +kernel
theorem dL_law_204 : decode cL_law 204 = .ok (.aload_n 0, 1) := by decide +kernel
theorem dL_law_205 : decode cL_law 205 = .ok (.iload_n 3, 1) := by decide +kernel
theorem dL_law_206 : decode cL_law 206 = .ok (.iconst 1, 1) := by decide +kernel
theorem dL_law_207 : decode cL_law 207 = .ok (.iadd, 1) := by decide +kernel
theorem dL_law_208 : decode cL_law 208 = .ok (.iaload, 1) := by decide +kernel
theorem dL_law_209 : decode cL_law 209 = .ok (.aload_n 0, 1) := by decide +kernel
theorem dL_law_210 : decode cL_law 210 = .ok (.iload_n 3, 1) := by decide +kernel
theorem dL_law_211 : decode cL_law 211 = .ok (.iconst 2, 1) := by decide +kernel
theorem dL_law_212 : decode cL_law 212 = .ok (.iadd, 1) := by decide +kernel
theorem dL_law_213 : decode cL_law 213 = .ok (.iaload, 1) := by decide +kernel
theorem dL_law_214 : decode cL_law 214 = .ok (.aload_n 0, 1) := by decide +kernel
theorem dL_law_215 : decode cL_law 215 = .ok (.iload_n 3, 1) := by decide +kernel
theorem dL_law_216 : decode cL_law 216 = .ok (.iconst 3, 1) := by decide +kernel
theorem dL_law_217 : decode cL_law 217 = .ok (.iadd, 1) := by decide +kernel
theorem dL_law_218 : decode cL_law 218 = .ok (.iaload, 1) := by decide +kernel
theorem dL_law_219 : decode cL_law 219 = .ok (.invokevirtual 18, 3) := by decide +kernel
theorem dL_law_222 : decode cL_law 222 = .ok (.aload_n 2, 1) := by decide +kernel
theorem dL_law_223 : decode cL_law 223 = .ok (.aload_n 0, 1) := by decide +kernel
theorem dL_law_224 : decode cL_law 224 = .ok (.iload_n 3, 1) := by decide +kernel
theorem dL_law_225 : decode cL_law 225 = .ok (.iconst 1, 1) := by decide +kernel
theorem dL_law_226 : decode cL_law 226 = .ok (.iadd, 1) := by decide +kernel
theorem dL_law_227 : decode cL_law 227 = .ok (.iaload, 1) := by decide +kernel
theorem dL_law_228 : decode cL_law 228 = .ok (.aload_n 0, 1) := by decide +kernel
theorem dL_law_229 : decode cL_law 229 = .ok (.iload_n 3, 1) := by decide +kernel
theorem dL_law_230 : decode cL_law 230 = .ok (.iconst 2, 1) := by decide +kernel
theorem dL_law_231 : decode cL_law 231 = .ok (.iadd, 1) := by decide +kernel
theorem dL_law_232 : decode cL_law 232 = .ok (.iaload, 1) := by decide +kernel
theorem dL_law_233 : decode cL_law 233 = .ok (.aload_n 0, 1) := by decide +kernel
theorem dL_law_234 : decode cL_law 234 = .ok (.iload_n 3, 1) := by decide +kernel
theorem dL_law_235 : decode cL_law 235 = .ok (.iconst 3, 1) := by decide +kernel
theorem dL_law_236 : decode cL_law 236 = .ok (.iadd, 1) := by decide +kernel
theorem dL_law_237 : decode cL_law 237 = .ok (.iaload, 1) := by decide +kernel
theorem dL_law_238 : decode cL_law 238 = .ok (.invokevirtual 21, 3) := by decide +kernel
theorem dL_law_241 : decode cL_law 241 = .ok (.if_icmp .eq 824, 3) := by decide +kernel
theorem dL_law_244 : decode cL_law 244 = .ok (.iconst 0, 1) := by decide +kernel
theorem dL_law_245 : decode cL_law 245 = .ok (.ireturn, 1) := by decide +kernel
theorem dL_law_246 : decode cL_law 246 = .ok (.aload_n 1, 1) := by decide +kernel
theorem dL_law_247 : decode cL_law 247 = .ok (.aload_n 0, 1) := by decide +kernel
theorem dL_law_248 : decode cL_law 248 = .ok (.iload_n 3, 1) := by decide +kernel
theorem dL_law_249 : decode cL_law 249 = .ok (.iconst 1, 1) := by decide +kernel
theorem dL_law_250 : decode cL_law 250 = .ok (.iadd, 1) := by decide +kernel
theorem dL_law_251 : decode cL_law 251 = .ok (.iaload, 1) := by decide +kernel
theorem dL_law_252 : decode cL_law 252 = .ok (.aload_n 0, 1) := by decide +kernel
theorem dL_law_253 : decode cL_law 253 = .ok (.iload_n 3, 1) := by decide +kernel
theorem dL_law_254 : decode cL_law 254 = .ok (.iconst 2, 1) := by decide +kernel
theorem dL_law_255 : decode cL_law 255 = .ok (.iadd, 1) := by decide +kernel
theorem dL_law_256 : decode cL_law 256 = .ok (.iaload, 1) := by decide +kernel
theorem dL_law_257 : decode cL_law 257 = .ok (.invokevirtual 22, 3) := by decide +kernel
theorem dL_law_260 : decode cL_law 260 = .ok (.aload_n 2, 1) := by decide +kernel
theorem dL_law_261 : decode cL_law 261 = .ok (.aload_n 0, 1) := by decide +kernel
theorem dL_law_262 : decode cL_law 262 = .ok (.iload_n 3, 1) := by decide +kernel
theorem dL_law_263 : decode cL_law 263 = .ok (.iconst 1, 1) := by decide +kernel
theorem dL_law_264 : decode cL_law 264 = .ok (.iadd, 1) := by decide +kernel
theorem dL_law_265 : decode cL_law 265 = .ok (.iaload, 1) := by decide +kernel
theorem dL_law_266 : decode cL_law 266 = .ok (.aload_n 0, 1) := by decide +kernel
theorem dL_law_267 : decode cL_law 267 = .ok (.iload_n 3, 1) := by decide +kernel
theorem dL_law_268 : decode cL_law 268 = .ok (.iconst 2, 1) := by decide +kernel
theorem dL_law_269 : decode cL_law 269 = .ok (.iadd, 1) := by decide +kernel
theorem dL_law_270 : decode cL_law 270 = .ok (.iaload, 1) := by decide +kernel
theorem dL_law_271 : decode cL_law 271 = .ok (.invokevirtual 26, 3) := by decide +kernel
theorem dL_law_274 : decode cL_law 274 = .ok (.if_icmp .eq 791, 3) := by decide +kernel
theorem dL_law_277 : decode cL_law 277 = .ok (.iconst 0, 1) := by decide +kernel
theorem dL_law_278 : decode cL_law 278 = .ok (.ireturn, 1) := by decide +kernel
theorem dL_law_279 : decode cL_law 279 = .ok (.aload_n 1, 1) := by decide +kernel
theorem dL_law_280 : decode cL_law 280 = .ok (.aload_n 0, 1) := by decide +kernel
theorem dL_law_281 : decode cL_law 281 = .ok (.iload_n 3, 1) := by decide +kernel
theorem dL_law_282 : decode cL_law 282 = .ok (.iconst 1, 1) := by decide +kernel
theorem dL_law_283 : decode cL_law 283 = .ok (.iadd, 1) := by decide +kernel
theorem dL_law_284 : decode cL_law 284 = .ok (.iaload, 1) := by decide +kernel
theorem dL_law_285 : decode cL_law 285 = .ok (.aload_n 0, 1) := by decide +kernel
theorem dL_law_286 : decode cL_law 286 = .ok (.iload_n 3, 1) := by decide +kernel
theorem dL_law_287 : decode cL_law 287 = .ok (.iconst 2, 1) := by decide +kernel
theorem dL_law_288 : decode cL_law 288 = .ok (.iadd, 1) := by decide +kernel
theorem dL_law_289 : decode cL_law 289 = .ok (.iaload, 1) := by decide +kernel
theorem dL_law_290 : decode cL_law 290 = .ok (.invokevirtual 27, 3) := by decide +kernel
theorem dL_law_293 : decode cL_law 293 = .ok (.aload_n 2, 1) := by decide +kernel
theorem dL_law_294 : decode cL_law 294 = .ok (.aload_n 0, 1) := by decide +kernel
theorem dL_law_295 : decode cL_law 295 = .ok (.iload_n 3, 1) := by decide +kernel
theorem dL_law_296 : decode cL_law 296 = .ok (.iconst 1, 1) := by decide +kernel
theorem dL_law_297 : decode cL_law 297 = .ok (.iadd, 1) := by decide +kernel
theorem dL_law_298 : decode cL_law 298 = .ok (.iaload, 1) := by decide +kernel
theorem dL_law_299 : decode cL_law 299 = .ok (.aload_n 0, 1) := by decide +kernel
theorem dL_law_300 : decode cL_law 300 = .ok (.iload_n 3, 1) := by decide +kernel
theorem dL_law_301 : decode cL_law 301 = .ok (.iconst 2, 1) := by decide +kernel
theorem dL_law_302 : decode cL_law 302 = .ok (.iadd, 1) := by decide +kernel
theorem dL_law_303 : decode cL_law 303 = .ok (.iaload, 1) := by decide +kernel
theorem dL_law_304 : decode cL_law 304 = .ok (.invokevirtual 30, 3) := by decide +kernel
theorem dL_law_307 : decode cL_law 307 = .ok (.if_icmp .eq 758, 3) := by decide +kernel
theorem dL_law_310 : decode cL_law 310 = .ok (.iconst 0, 1) := by decide +kernel
theorem dL_law_311 : decode cL_law 311 = .ok (.ireturn, 1) := by decide +kernel
theorem dL_law_312 : decode cL_law 312 = .ok (.aload_n 1, 1) := by decide +kernel
theorem dL_law_313 : decode cL_law 313 = .ok (.aload_n 0, 1) := by decide +kernel
theorem dL_law_314 : decode cL_law 314 = .ok (.iload_n 3, 1) := by decide +kernel
theorem dL_law_315 : decode cL_law 315 = .ok (.iconst 1, 1) := by decide +kernel
theorem dL_law_316 : decode cL_law 316 = .ok (.iadd, 1) := by decide +kernel
theorem dL_law_317 : decode cL_law 317 = .ok (.iaload, 1) := by decide +kernel
theorem dL_law_318 : decode cL_law 318 = .ok (.invokevirtual 31, 3) := by decide +kernel
theorem dL_law_321 : decode cL_law 321 = .ok (.aload_n 2, 1) := by decide +kernel
theorem dL_law_322 : decode cL_law 322 = .ok (.aload_n 0, 1) := by decide +kernel
theorem dL_law_323 : decode cL_law 323 = .ok (.iload_n 3, 1) := by decide +kernel
theorem dL_law_324 : decode cL_law 324 = .ok (.iconst 1, 1) := by decide +kernel
theorem dL_law_325 : decode cL_law 325 = .ok (.iadd, 1) := by decide +kernel
theorem dL_law_326 : decode cL_law 326 = .ok (.iaload, 1) := by decide +kernel
theorem dL_law_327 : decode cL_law 327 = .ok (.invokevirtual 35, 3) := by decide +kernel
theorem dL_law_330 : decode cL_law 330 = .ok (.if_icmp .eq 735, 3) := by decide +kernel
theorem dL_law_333 : decode cL_law 333 = .ok (.iconst 0, 1) := by decide +kernel
theorem dL_law_334 : decode cL_law 334 = .ok (.ireturn, 1) := by decide +kernel
theorem dL_law_335 : decode cL_law 335 = .ok (.aload_n 1, 1) := by decide +kernel
theorem dL_law_336 : decode cL_law 336 = .ok (.invokevirtual 36, 3) := by decide +kernel
theorem dL_law_339 : decode cL_law 339 = .ok (.aload_n 2, 1) := by decide +kernel
theorem dL_law_340 : decode cL_law 340 = .ok (.invokevirtual 40, 3) := by decide +kernel
theorem dL_law_343 : decode cL_law 343 = .ok (.if_icmp .eq 722, 3) := by decide +kernel
theorem dL_law_346 : decode cL_law 346 = .ok (.iconst 0, 1) := by decide +kernel
theorem dL_law_347 : decode cL_law 347 = .ok (.ireturn, 1) := by decide +kernel
theorem dL_law_348 : decode cL_law 348 = .ok (.aload_n 1, 1) := by decide +kernel
theorem dL_law_349 : decode cL_law 349 = .ok (.aload_n 0, 1) := by decide +kernel
theorem dL_law_350 : decode cL_law 350 = .ok (.iload_n 3, 1) := by decide +kernel
theorem dL_law_351 : decode cL_law 351 = .ok (.iconst 1, 1) := by decide +kernel
theorem dL_law_352 : decode cL_law 352 = .ok (.iadd, 1) := by decide +kernel
theorem dL_law_353 : decode cL_law 353 = .ok (.iaload, 1) := by decide +kernel
theorem dL_law_354 : decode cL_law 354 = .ok (.invokevirtual 41, 3) := by decide +kernel
theorem dL_law_357 : decode cL_law 357 = .ok (.aload_n 2, 1) := by decide +kernel
theorem dL_law_358 : decode cL_law 358 = .ok (.aload_n 0, 1) := by decide +kernel
theorem dL_law_359 : decode cL_law 359 = .ok (.iload_n 3, 1) := by decide +kernel
theorem dL_law_360 : decode cL_law 360 = .ok (.iconst 1, 1) := by decide +kernel
theorem dL_law_361 : decode cL_law 361 = .ok (.iadd, 1) := by decide +kernel
theorem dL_law_362 : decode cL_law 362 = .ok (.iaload, 1) := by decide +kernel
theorem dL_law_363 : decode cL_law 363 = .ok (.invokevirtual 44, 3) := by decide +kernel
theorem dL_law_366 : decode cL_law 366 = .ok (.if_icmp .eq 699, 3) := by decide +kernel
theorem dL_law_369 : decode cL_law 369 = .ok (.iconst 0, 1) := by decide +kernel
theorem dL_law_370 : decode cL_law 370 = .ok (.ireturn, 1) := by decide +kernel
theorem dL_law_371 : decode cL_law 371 = .ok (.aload_n 1, 1) := by decide +kernel
theorem dL_law_372 : decode cL_law 372 = .ok (.aload_n 0, 1) := by decide +kernel
theorem dL_law_373 : decode cL_law 373 = .ok (.iload_n 3, 1) := by decide +kernel
theorem dL_law_374 : decode cL_law 374 = .ok (.iconst 1, 1) := by decide +kernel
theorem dL_law_375 : decode cL_law 375 = .ok (.iadd, 1) := by decide +kernel
theorem dL_law_376 : decode cL_law 376 = .ok (.iaload, 1) := by decide +kernel
theorem dL_law_377 : decode cL_law 377 = .ok (.aload_n 0, 1) := by decide +kernel
theorem dL_law_378 : decode cL_law 378 = .ok (.iload_n 3, 1) := by decide +kernel
theorem dL_law_379 : decode cL_law 379 = .ok (.iconst 2, 1) := by decide +kernel
theorem dL_law_380 : decode cL_law 380 = .ok (.iadd, 1) := by decide +kernel
theorem dL_law_381 : decode cL_law 381 = .ok (.iaload, 1) := by decide +kernel
theorem dL_law_382 : decode cL_law 382 = .ok (.invokevirtual 45, 3) := by decide +kernel
theorem dL_law_385 : decode cL_law 385 = .ok (.aload_n 2, 1) := by decide +kernel
theorem dL_law_386 : decode cL_law 386 = .ok (.aload_n 0, 1) := by decide +kernel
theorem dL_law_387 : decode cL_law 387 = .ok (.iload_n 3, 1) := by decide +kernel
theorem dL_law_388 : decode cL_law 388 = .ok (.iconst 1, 1) := by decide +kernel
theorem dL_law_389 : decode cL_law 389 = .ok (.iadd, 1) := by decide +kernel
theorem dL_law_390 : decode cL_law 390 = .ok (.iaload, 1) := by decide +kernel
theorem dL_law_391 : decode cL_law 391 = .ok (.aload_n 0, 1) := by decide +kernel
theorem dL_law_392 : decode cL_law 392 = .ok (.iload_n 3, 1) := by decide +kernel
theorem dL_law_393 : decode cL_law 393 = .ok (.iconst 2, 1) := by decide +kernel
theorem dL_law_394 : decode cL_law 394 = .ok (.iadd, 1) := by decide +kernel
theorem dL_law_395 : decode cL_law 395 = .ok (.iaload, 1) := by decide +kernel
theorem dL_law_396 : decode cL_law 396 = .ok (.invokevirtual 48, 3) := by decide +kernel
theorem dL_law_399 : decode cL_law 399 = .ok (.if_icmp .eq 666, 3) := by decide +kernel
theorem dL_law_402 : decode cL_law 402 = .ok (.iconst 0, 1) := by decide +kernel
theorem dL_law_403 : decode cL_law 403 = .ok (.ireturn, 1) := by decide +kernel
theorem dL_law_404 : decode cL_law 404 = .ok (.aload_n 1, 1) := by decide +kernel
theorem dL_law_405 : decode cL_law 405 = .ok (.aload_n 0, 1) := by decide +kernel
theorem dL_law_406 : decode cL_law 406 = .ok (.iload_n 3, 1) := by decide +kernel
