theorem dX7_fetch_0 : decode cX7_fetch 0 = .ok (.iload_n 1, 1) := by decide +kernel
theorem dX7_fetch_1 : decode cX7_fetch 1 = .ok (.invokestatic 173, 3) := by decide +kernel
theorem dX7_fetch_4 : decode cX7_fetch 4 = .ok (.ifCond .eq 12, 3) := by decide +kernel
theorem dX7_fetch_7 : decode cX7_fetch 7 = .ok (.iload_n 2, 1) := by decide +kernel
theorem dX7_fetch_8 : decode cX7_fetch 8 = .ok (.ifCond .lt 8, 3) := by decide +kernel
theorem dX7_fetch_11 : decode cX7_fetch 11 = .ok (.iload_n 2, 1) := by decide +kernel
theorem dX7_fetch_12 : decode cX7_fetch 12 = .ok (.iconst 1, 1) := by decide +kernel
theorem dX7_fetch_13 : decode cX7_fetch 13 = .ok (.if_icmp .le 6, 3) := by decide +kernel
theorem dX7_fetch_16 : decode cX7_fetch 16 = .ok (.bipush (-2), 2) := by decide +kernel
theorem dX7_fetch_18 : decode cX7_fetch 18 = .ok (.ireturn, 1) := by decide +kernel
theorem dX7_fetch_19 : decode cX7_fetch 19 = .ok (.aload_n 0, 1) := by decide +kernel
theorem dX7_fetch_20 : decode cX7_fetch 20 = .ok (.iload_n 1, 1) := by decide +kernel
theorem dX7_fetch_21 : decode cX7_fetch 21 = .ok (.invokevirtual 176, 3) := by decide +kernel
theorem dX7_fetch_24 : decode cX7_fetch 24 = .ok (.istore_n 3, 1) := by decide +kernel
theorem dX7_fetch_25 : decode cX7_fetch 25 = .ok (.iload_n 3, 1) := by decide +kernel
theorem dX7_fetch_26 : decode cX7_fetch 26 = .ok (.ifCond .eq 5, 3) := by decide +kernel
theorem dX7_fetch_29 : decode cX7_fetch 29 = .ok (.iload_n 3, 1) := by decide +kernel
theorem dX7_fetch_30 : decode cX7_fetch 30 = .ok (.ireturn, 1) := by decide +kernel
theorem dX7_fetch_31 : decode cX7_fetch 31 = .ok (.aload_n 0, 1) := by decide +kernel
theorem dX7_fetch_32 : decode cX7_fetch 32 = .ok (.iload_n 1, 1) := by decide +kernel
theorem dX7_fetch_33 : decode cX7_fetch 33 = .ok (.invokevirtual 179, 3) := by decide +kernel
theorem dX7_fetch_36 : decode cX7_fetch 36 = .ok (.aload_n 0, 1) := by decide +kernel
theorem dX7_fetch_37 : decode cX7_fetch 37 = .ok (.getfield 43, 3) := by decide +kernel
theorem dX7_fetch_40 : decode cX7_fetch 40 = .ok (.invokevirtual 183, 3) := by decide +kernel
theorem dX7_fetch_43 : decode cX7_fetch 43 = .ok (.ifCond .ne 5, 3) := by decide +kernel
theorem dX7_fetch_46 : decode cX7_fetch 46 = .ok (.iconst (-1), 1) := by decide +kernel
theorem dX7_fetch_47 : decode cX7_fetch 47 = .ok (.ireturn, 1) := by decide +kernel
theorem dX7_fetch_48 : decode cX7_fetch 48 = .ok (.aload_n 0, 1) := by decide +kernel
theorem dX7_fetch_49 : decode cX7_fetch 49 = .ok (.invokevirtual 192, 3) := by decide +kernel
theorem dX7_fetch_52 : decode cX7_fetch 52 = .ok (.iload_n 2, 1) := by decide +kernel
theorem dX7_fetch_53 : decode cX7_fetch 53 = .ok (.ifCond .eq 14, 3) := by decide +kernel
theorem dX7_fetch_56 : decode cX7_fetch 56 = .ok (.aload_n 0, 1) := by decide +kernel
theorem dX7_fetch_57 : decode cX7_fetch 57 = .ok (.getfield 54, 3) := by decide +kernel
theorem dX7_fetch_60 : decode cX7_fetch 60 = .ok (.getfield 195, 3) := by decide +kernel
theorem dX7_fetch_63 : decode cX7_fetch 63 = .ok (.iconst (-1), 1) := by decide +kernel
theorem dX7_fetch_64 : decode cX7_fetch 64 = .ok (.if_icmp .ne 13, 3) := by decide +kernel
theorem dX7_fetch_67 : decode cX7_fetch 67 = .ok (.aload_n 0, 1) := by decide +kernel
theorem dX7_fetch_68 : decode cX7_fetch 68 = .ok (.getfield 54, 3) := by decide +kernel
theorem dX7_fetch_71 : decode cX7_fetch 71 = .ok (.getfield 195, 3) := by decide +kernel
theorem dX7_fetch_74 : decode cX7_fetch 74 = .ok (.goto 10, 3) := by decide +kernel
theorem dX7_fetch_77 : decode cX7_fetch 77 = .ok (.aload_n 0, 1) := by decide +kernel
theorem dX7_fetch_78 : decode cX7_fetch 78 = .ok (.getfield 54, 3) := by decide +kernel
theorem dX7_fetch_81 : decode cX7_fetch 81 = .ok (.getfield 198, 3) := by decide +kernel
theorem dX7_fetch_84 : decode cX7_fetch 84 = .ok (.ireturn, 1) := by decide +kernel
theorem dX7_goes_0 : decode cX7_goes 0 = .ok (.iload_n 1, 1) := by decide +kernel
theorem dX7_goes_1 : decode cX7_goes 1 = .ok (.invokestatic 126, 3) := by decide +kernel
theorem dX7_goes_4 : decode cX7_goes 4 = .ok (.ifCond .eq 11, 3) := by decide +kernel
theorem dX7_goes_7 : decode cX7_goes 7 = .ok (.aload_n 0, 1) := by decide +kernel
theorem dX7_goes_8 : decode cX7_goes 8 = .ok (.iload_n 1, 1) := by decide +kernel
theorem dX7_goes_9 : decode cX7_goes 9 = .ok (.invokevirtual 201, 3) := by decide +kernel
theorem dX7_goes_12 : decode cX7_goes 12 = .ok (.goto 5, 3) := by decide +kernel
theorem dX7_goes_15 : decode cX7_goes 15 = .ok (.bipush (-2), 2) := by decide +kernel
theorem dX7_goes_17 : decode cX7_goes 17 = .ok (.ireturn, 1) := by decide +kernel
theorem dX7_worst_0 : decode cX7_worst 0 = .ok (.iload_n 1, 1) := by decide +kernel
theorem dX7_worst_1 : decode cX7_worst 1 = .ok (.ifCond .lt 8, 3) := by decide +kernel
theorem dX7_worst_4 : decode cX7_worst 4 = .ok (.iload_n 1, 1) := by decide +kernel
theorem dX7_worst_5 : decode cX7_worst 5 = .ok (.iconst 1, 1) := by decide +kernel
theorem dX7_worst_6 : decode cX7_worst 6 = .ok (.if_icmp .le 6, 3) := by decide +kernel
theorem dX7_worst_9 : decode cX7_worst 9 = .ok (.bipush (-2), 2) := by decide +kernel
theorem dX7_worst_11 : decode cX7_worst 11 = .ok (.ireturn, 1) := by decide +kernel
theorem dX7_worst_12 : decode cX7_worst 12 = .ok (.iconst (-1), 1) := by decide +kernel
theorem dX7_worst_13 : decode cX7_worst 13 = .ok (.istore_n 2, 1) := by decide +kernel
theorem dX7_worst_14 : decode cX7_worst 14 = .ok (.iconst 0, 1) := by decide +kernel
theorem dX7_worst_15 : decode cX7_worst 15 = .ok (.istore_n 3, 1) := by decide +kernel
theorem dX7_worst_16 : decode cX7_worst 16 = .ok (.iconst (-1), 1) := by decide +kernel
theorem dX7_worst_17 : decode cX7_worst 17 = .ok (.istore 4, 2) := by decide +kernel
theorem dX7_worst_19 : decode cX7_worst 19 = .ok (.iconst (-1), 1) := by decide +kernel
theorem dX7_worst_20 : decode cX7_worst 20 = .ok (.istore 5, 2) := by decide +kernel
theorem dX7_worst_22 : decode cX7_worst 22 = .ok (.iconst 0, 1) := by decide +kernel
theorem dX7_worst_23 : decode cX7_worst 23 = .ok (.istore 6, 2) := by decide +kernel
theorem dX7_worst_25 : decode cX7_worst 25 = .ok (.iload 6, 2) := by decide +kernel
theorem dX7_worst_27 : decode cX7_worst 27 = .ok (.bipush 100, 2) := by decide +kernel
theorem dX7_worst_29 : decode cX7_worst 29 = .ok (.if_icmp .ge 54, 3) := by decide +kernel
theorem dX7_worst_32 : decode cX7_worst 32 = .ok (.iload 6, 2) := by decide +kernel
theorem dX7_worst_34 : decode cX7_worst 34 = .ok (.iload 5, 2) := by decide +kernel
theorem dX7_worst_36 : decode cX7_worst 36 = .ok (.if_icmp .le 20, 3) := by decide +kernel
theorem dX7_worst_39 : decode cX7_worst 39 = .ok (.aload_n 0, 1) := by decide +kernel
theorem dX7_worst_40 : decode cX7_worst 40 = .ok (.iload 6, 2) := by decide +kernel
theorem dX7_worst_42 : decode cX7_worst 42 = .ok (.invokevirtual 201, 3) := by decide +kernel
theorem dX7_worst_45 : decode cX7_worst 45 = .ok (.istore 4, 2) := by decide +kernel
theorem dX7_worst_47 : decode cX7_worst 47 = .ok (.aload_n 0, 1) := by decide +kernel
theorem dX7_worst_48 : decode cX7_worst 48 = .ok (.getfield 43, 3) := by decide +kernel
theorem dX7_worst_51 : decode cX7_worst 51 = .ok (.getfield 189, 3) := by decide +kernel
theorem dX7_worst_54 : decode cX7_worst 54 = .ok (.istore 5, 2) := by decide +kernel
theorem dX7_worst_56 : decode cX7_worst 56 = .ok (.iload_n 2, 1) := by decide +kernel
theorem dX7_worst_57 : decode cX7_worst 57 = .ok (.iload 4, 2) := by decide +kernel
theorem dX7_worst_59 : decode cX7_worst 59 = .ok (.invokestatic 204, 3) := by decide +kernel
theorem dX7_worst_62 : decode cX7_worst 62 = .ok (.istore_n 2, 1) := by decide +kernel
theorem dX7_worst_63 : decode cX7_worst 63 = .ok (.iload_n 3, 1) := by decide +kernel
theorem dX7_worst_64 : decode cX7_worst 64 = .ok (.iload 4, 2) := by decide +kernel
theorem dX7_worst_66 : decode cX7_worst 66 = .ok (.iconst (-1), 1) := by decide +kernel
theorem dX7_worst_67 : decode cX7_worst 67 = .ok (.if_icmp .ne 7, 3) := by decide +kernel
theorem dX7_worst_70 : decode cX7_worst 70 = .ok (.iconst 1, 1) := by decide +kernel
theorem dX7_worst_71 : decode cX7_worst 71 = .ok (.goto 4, 3) := by decide +kernel
theorem dX7_worst_74 : decode cX7_worst 74 = .ok (.iconst 0, 1) := by decide +kernel
theorem dX7_worst_75 : decode cX7_worst 75 = .ok (.iadd, 1) := by decide +kernel
theorem dX7_worst_76 : decode cX7_worst 76 = .ok (.istore_n 3, 1) := by decide +kernel
theorem dX7_worst_77 : decode cX7_worst 77 = .ok (.iinc 6 1, 3) := by decide +kernel
theorem dX7_worst_80 : decode cX7_worst 80 = .ok (.goto (-55), 3) := by decide +kernel
theorem dX7_worst_83 : decode cX7_worst 83 = .ok (.iload_n 1, 1) := by decide +kernel
theorem dX7_worst_84 : decode cX7_worst 84 = .ok (.ifCond .ne 7, 3) := by decide +kernel
theorem dX7_worst_87 : decode cX7_worst 87 = .ok (.iload_n 2, 1) := by decide +kernel
theorem dX7_worst_88 : decode cX7_worst 88 = .ok (.goto 4, 3) := by decide +kernel
theorem dX7_worst_91 : decode cX7_worst 91 = .ok (.iload_n 3, 1) := by decide +kernel
theorem dX7_worst_92 : decode cX7_worst 92 = .ok (.ireturn, 1) := by decide +kernel
theorem dX7_rowsRefusal_0 : decode cX7_rowsRefusal 0 = .ok (.aload_n 0, 1) := by decide +kernel
theorem dX7_rowsRefusal_1 : decode cX7_rowsRefusal 1 = .ok (.getfield 36, 3) := by decide +kernel
theorem dX7_rowsRefusal_4 : decode cX7_rowsRefusal 4 = .ok (.iload_n 1, 1) := by decide +kernel
theorem dX7_rowsRefusal_5 : decode cX7_rowsRefusal 5 = .ok (.invokevirtual 207, 3) := by decide +kernel
theorem dX7_rowsRefusal_8 : decode cX7_rowsRefusal 8 = .ok (.ifCond .eq 6, 3) := by decide +kernel
theorem dX7_rowsRefusal_11 : decode cX7_rowsRefusal 11 = .ok (.bipush (-11), 2) := by decide +kernel
theorem dX7_rowsRefusal_13 : decode cX7_rowsRefusal 13 = .ok (.ireturn, 1) := by decide +kernel
theorem dX7_rowsRefusal_14 : decode cX7_rowsRefusal 14 = .ok (.aload_n 0, 1) := by decide +kernel
theorem dX7_rowsRefusal_15 : decode cX7_rowsRefusal 15 = .ok (.getfield 36, 3) := by decide +kernel
theorem dX7_rowsRefusal_18 : decode cX7_rowsRefusal 18 = .ok (.getfield 210, 3) := by decide +kernel
theorem dX7_rowsRefusal_21 : decode cX7_rowsRefusal 21 = .ok (.iload_n 1, 1) := by decide +kernel
theorem dX7_rowsRefusal_22 : decode cX7_rowsRefusal 22 = .ok (.iaload, 1) := by decide +kernel
theorem dX7_rowsRefusal_23 : decode cX7_rowsRefusal 23 = .ok (.istore_n 2, 1) := by decide +kernel
theorem dX7_rowsRefusal_24 : decode cX7_rowsRefusal 24 = .ok (.iload_n 2, 1) := by decide +kernel
theorem dX7_rowsRefusal_25 : decode cX7_rowsRefusal 25 = .ok (.iconst 2, 1) := by decide +kernel
theorem dX7_rowsRefusal_26 : decode cX7_rowsRefusal 26 = .ok (.irem, 1) := by decide +kernel
theorem dX7_rowsRefusal_27 : decode cX7_rowsRefusal 27 = .ok (.ifCond .eq 6, 3) := by decide +kernel
theorem dX7_rowsRefusal_30 : decode cX7_rowsRefusal 30 = .ok (.bipush (-2), 2) := by decide +kernel
theorem dX7_rowsRefusal_32 : decode cX7_rowsRefusal 32 = .ok (.ireturn, 1) := by decide +kernel
theorem dX7_rowsRefusal_33 : decode cX7_rowsRefusal 33 = .ok (.iconst 0, 1) := by decide +kernel
theorem dX7_rowsRefusal_34 : decode cX7_rowsRefusal 34 = .ok (.istore_n 3, 1) := by decide +kernel
theorem dX7_rowsRefusal_35 : decode cX7_rowsRefusal 35 = .ok (.iload_n 3, 1) := by decide +kernel
theorem dX7_rowsRefusal_36 : decode cX7_rowsRefusal 36 = .ok (.iconst 1, 1) := by decide +kernel
theorem dX7_rowsRefusal_37 : decode cX7_rowsRefusal 37 = .ok (.iadd, 1) := by decide +kernel
theorem dX7_rowsRefusal_38 : decode cX7_rowsRefusal 38 = .ok (.iload_n 2, 1) := by decide +kernel
theorem dX7_rowsRefusal_39 : decode cX7_rowsRefusal 39 = .ok (.if_icmp .ge 61, 3) := by decide +kernel
theorem dX7_rowsRefusal_42 : decode cX7_rowsRefusal 42 = .ok (.aload_n 0, 1) := by decide +kernel
theorem dX7_rowsRefusal_43 : decode cX7_rowsRefusal 43 = .ok (.getfield 36, 3) := by decide +kernel
theorem dX7_rowsRefusal_46 : decode cX7_rowsRefusal 46 = .ok (.getfield 212, 3) := by decide +kernel
theorem dX7_rowsRefusal_49 : decode cX7_rowsRefusal 49 = .ok (.iload_n 1, 1) := by decide +kernel
theorem dX7_rowsRefusal_50 : decode cX7_rowsRefusal 50 = .ok (.aaload, 1) := by decide +kernel
theorem dX7_rowsRefusal_51 : decode cX7_rowsRefusal 51 = .ok (.iload_n 3, 1) := by decide +kernel
theorem dX7_rowsRefusal_52 : decode cX7_rowsRefusal 52 = .ok (.iconst 1, 1) := by decide +kernel
theorem dX7_rowsRefusal_53 : decode cX7_rowsRefusal 53 = .ok (.iadd, 1) := by decide +kernel
theorem dX7_rowsRefusal_54 : decode cX7_rowsRefusal 54 = .ok (.iaload, 1) := by decide +kernel
theorem dX7_rowsRefusal_55 : decode cX7_rowsRefusal 55 = .ok (.istore 4, 2) := by decide +kernel
theorem dX7_rowsRefusal_57 : decode cX7_rowsRefusal 57 = .ok (.aload_n 0, 1) := by decide +kernel
theorem dX7_rowsRefusal_58 : decode cX7_rowsRefusal 58 = .ok (.getfield 10, 3) := by decide +kernel
theorem dX7_rowsRefusal_61 : decode cX7_rowsRefusal 61 = .ok (.aload_n 0, 1) := by decide +kernel
theorem dX7_rowsRefusal_62 : decode cX7_rowsRefusal 62 = .ok (.getfield 36, 3) := by decide +kernel
theorem dX7_rowsRefusal_65 : decode cX7_rowsRefusal 65 = .ok (.getfield 212, 3) := by decide +kernel
theorem dX7_rowsRefusal_68 : decode cX7_rowsRefusal 68 = .ok (.iload_n 1, 1) := by decide +kernel
theorem dX7_rowsRefusal_69 : decode cX7_rowsRefusal 69 = .ok (.aaload, 1) := by decide +kernel
theorem dX7_rowsRefusal_70 : decode cX7_rowsRefusal 70 = .ok (.iload_n 3, 1) := by decide +kernel
theorem dX7_rowsRefusal_71 : decode cX7_rowsRefusal 71 = .ok (.iaload, 1) := by decide +kernel
theorem dX7_rowsRefusal_72 : decode cX7_rowsRefusal 72 = .ok (.invokevirtual 136, 3) := by decide +kernel
theorem dX7_rowsRefusal_75 : decode cX7_rowsRefusal 75 = .ok (.ifCond .eq 16, 3) := by decide +kernel
theorem dX7_rowsRefusal_78 : decode cX7_rowsRefusal 78 = .ok (.iload 4, 2) := by decide +kernel
theorem dX7_rowsRefusal_80 : decode cX7_rowsRefusal 80 = .ok (.bipush (-2), 2) := by decide +kernel
theorem dX7_rowsRefusal_82 : decode cX7_rowsRefusal 82 = .ok (.if_icmp .lt 9, 3) := by decide +kernel
theorem dX7_rowsRefusal_85 : decode cX7_rowsRefusal 85 = .ok (.iload 4, 2) := by decide +kernel
theorem dX7_rowsRefusal_87 : decode cX7_rowsRefusal 87 = .ok (.iconst 2, 1) := by decide +kernel
theorem dX7_rowsRefusal_88 : decode cX7_rowsRefusal 88 = .ok (.if_icmp .le 6, 3) := by decide +kernel
theorem dX7_rowsRefusal_91 : decode cX7_rowsRefusal 91 = .ok (.bipush (-2), 2) := by decide +kernel
theorem dX7_rowsRefusal_93 : decode cX7_rowsRefusal 93 = .ok (.ireturn, 1) := by decide +kernel
theorem dX7_rowsRefusal_94 : decode cX7_rowsRefusal 94 = .ok (.iinc 3 2, 3) := by decide +kernel
theorem dX7_rowsRefusal_97 : decode cX7_rowsRefusal 97 = .ok (.goto (-62), 3) := by decide +kernel
theorem dX7_rowsRefusal_100 : decode cX7_rowsRefusal 100 = .ok (.iconst 0, 1) := by decide +kernel
theorem dX7_rowsRefusal_101 : decode cX7_rowsRefusal 101 = .ok (.ireturn, 1) := by decide +kernel
theorem dX7_narrowByRows_0 : decode cX7_narrowByRows 0 = .ok (.aload_n 0, 1) := by decide +kernel
theorem dX7_narrowByRows_1 : decode cX7_narrowByRows 1 = .ok (.getfield 43, 3) := by decide +kernel
theorem dX7_narrowByRows_4 : decode cX7_narrowByRows 4 = .ok (.invokevirtual 216, 3) := by decide +kernel
theorem dX7_narrowByRows_7 : decode cX7_narrowByRows 7 = .ok (.iconst 0, 1) := by decide +kernel
theorem dX7_narrowByRows_8 : decode cX7_narrowByRows 8 = .ok (.istore_n 2, 1) := by decide +kernel
theorem dX7_narrowByRows_9 : decode cX7_narrowByRows 9 = .ok (.iload_n 2, 1) := by decide +kernel
theorem dX7_narrowByRows_10 : decode cX7_narrowByRows 10 = .ok (.iconst 1, 1) := by decide +kernel
theorem dX7_narrowByRows_11 : decode cX7_narrowByRows 11 = .ok (.iadd, 1) := by decide +kernel
theorem dX7_narrowByRows_12 : decode cX7_narrowByRows 12 = .ok (.aload_n 0, 1) := by decide +kernel
theorem dX7_narrowByRows_13 : decode cX7_narrowByRows 13 = .ok (.getfield 36, 3) := by decide +kernel
theorem dX7_narrowByRows_16 : decode cX7_narrowByRows 16 = .ok (.getfield 210, 3) := by decide +kernel
theorem dX7_narrowByRows_19 : decode cX7_narrowByRows 19 = .ok (.iload_n 1, 1) := by decide +kernel
theorem dX7_narrowByRows_20 : decode cX7_narrowByRows 20 = .ok (.iaload, 1) := by decide +kernel
theorem dX7_narrowByRows_21 : decode cX7_narrowByRows 21 = .ok (.if_icmp .ge 44, 3) := by decide +kernel
theorem dX7_narrowByRows_24 : decode cX7_narrowByRows 24 = .ok (.aload_n 0, 1) := by decide +kernel
theorem dX7_narrowByRows_25 : decode cX7_narrowByRows 25 = .ok (.getfield 43, 3) := by decide +kernel
theorem dX7_narrowByRows_28 : decode cX7_narrowByRows 28 = .ok (.aload_n 0, 1) := by decide +kernel
theorem dX7_narrowByRows_29 : decode cX7_narrowByRows 29 = .ok (.getfield 10, 3) := by decide +kernel
theorem dX7_narrowByRows_32 : decode cX7_narrowByRows 32 = .ok (.aload_n 0, 1) := by decide +kernel
theorem dX7_narrowByRows_33 : decode cX7_narrowByRows 33 = .ok (.getfield 36, 3) := by decide +kernel
theorem dX7_narrowByRows_36 : decode cX7_narrowByRows 36 = .ok (.getfield 212, 3) := by decide +kernel
theorem dX7_narrowByRows_39 : decode cX7_narrowByRows 39 = .ok (.iload_n 1, 1) := by decide +kernel
theorem dX7_narrowByRows_40 : decode cX7_narrowByRows 40 = .ok (.aaload, 1) := by decide +kernel
theorem dX7_narrowByRows_41 : decode cX7_narrowByRows 41 = .ok (.iload_n 2, 1) := by decide +kernel
theorem dX7_narrowByRows_42 : decode cX7_narrowByRows 42 = .ok (.iaload, 1) := by decide +kernel
theorem dX7_narrowByRows_43 : decode cX7_narrowByRows 43 = .ok (.aload_n 0, 1) := by decide +kernel
theorem dX7_narrowByRows_44 : decode cX7_narrowByRows 44 = .ok (.getfield 36, 3) := by decide +kernel
theorem dX7_narrowByRows_47 : decode cX7_narrowByRows 47 = .ok (.getfield 212, 3) := by decide +kernel
theorem dX7_narrowByRows_50 : decode cX7_narrowByRows 50 = .ok (.iload_n 1, 1) := by decide +kernel
theorem dX7_narrowByRows_51 : decode cX7_narrowByRows 51 = .ok (.aaload, 1) := by decide +kernel
theorem dX7_narrowByRows_52 : decode cX7_narrowByRows 52 = .ok (.iload_n 2, 1) := by decide +kernel
theorem dX7_narrowByRows_53 : decode cX7_narrowByRows 53 = .ok (.iconst 1, 1) := by decide +kernel
theorem dX7_narrowByRows_54 : decode cX7_narrowByRows 54 = .ok (.iadd, 1) := by decide +kernel
theorem dX7_narrowByRows_55 : decode cX7_narrowByRows 55 = .ok (.iaload, 1) := by decide +kernel
theorem dX7_narrowByRows_56 : decode cX7_narrowByRows 56 = .ok (.invokevirtual 219, 3) := by decide +kernel
theorem dX7_narrowByRows_59 : decode cX7_narrowByRows 59 = .ok (.iinc 2 2, 3) := by decide +kernel
theorem dX7_narrowByRows_62 : decode cX7_narrowByRows 62 = .ok (.goto (-53), 3) := by decide +kernel
theorem dX7_narrowByRows_65 : decode cX7_narrowByRows 65 = .ok (.return_, 1) := by decide +kernel
theorem dX7_chooseNext_0 : decode cX7_chooseNext 0 = .ok (.aload_n 0, 1) := by decide +kernel
theorem dX7_chooseNext_1 : decode cX7_chooseNext 1 = .ok (.getfield 54, 3) := by decide +kernel
theorem dX7_chooseNext_4 : decode cX7_chooseNext 4 = .ok (.invokevirtual 223, 3) := by decide +kernel
theorem dX7_chooseNext_7 : decode cX7_chooseNext 7 = .ok (.iconst 0, 1) := by decide +kernel
theorem dX7_chooseNext_8 : decode cX7_chooseNext 8 = .ok (.istore_n 1, 1) := by decide +kernel
theorem dX7_chooseNext_9 : decode cX7_chooseNext 9 = .ok (.iload_n 1, 1) := by decide +kernel
theorem dX7_chooseNext_10 : decode cX7_chooseNext 10 = .ok (.aload_n 0, 1) := by decide +kernel
theorem dX7_chooseNext_11 : decode cX7_chooseNext 11 = .ok (.getfield 10, 3) := by decide +kernel
theorem dX7_chooseNext_14 : decode cX7_chooseNext 14 = .ok (.invokevirtual 226, 3) := by decide +kernel
theorem dX7_chooseNext_17 : decode cX7_chooseNext 17 = .ok (.if_icmp .ge 40, 3) := by decide +kernel
theorem dX7_chooseNext_20 : decode cX7_chooseNext 20 = .ok (.aload_n 0, 1) := by decide +kernel
theorem dX7_chooseNext_21 : decode cX7_chooseNext 21 = .ok (.getfield 10, 3) := by decide +kernel
theorem dX7_chooseNext_24 : decode cX7_chooseNext 24 = .ok (.iload_n 1, 1) := by decide +kernel
theorem dX7_chooseNext_25 : decode cX7_chooseNext 25 = .ok (.invokevirtual 229, 3) := by decide +kernel
theorem dX7_chooseNext_28 : decode cX7_chooseNext 28 = .ok (.ifCond .eq 23, 3) := by decide +kernel
theorem dX7_chooseNext_31 : decode cX7_chooseNext 31 = .ok (.aload_n 0, 1) := by decide +kernel
theorem dX7_chooseNext_32 : decode cX7_chooseNext 32 = .ok (.getfield 54, 3) := by decide +kernel
theorem dX7_chooseNext_35 : decode cX7_chooseNext 35 = .ok (.iload_n 1, 1) := by decide +kernel
theorem dX7_chooseNext_36 : decode cX7_chooseNext 36 = .ok (.aload_n 0, 1) := by decide +kernel
theorem dX7_chooseNext_37 : decode cX7_chooseNext 37 = .ok (.getfield 43, 3) := by decide +kernel
theorem dX7_chooseNext_40 : decode cX7_chooseNext 40 = .ok (.aload_n 0, 1) := by decide +kernel
theorem dX7_chooseNext_41 : decode cX7_chooseNext 41 = .ok (.getfield 10, 3) := by decide +kernel
theorem dX7_chooseNext_44 : decode cX7_chooseNext 44 = .ok (.iload_n 1, 1) := by decide +kernel
theorem dX7_chooseNext_45 : decode cX7_chooseNext 45 = .ok (.invokevirtual 232, 3) := by decide +kernel
theorem dX7_chooseNext_48 : decode cX7_chooseNext 48 = .ok (.invokevirtual 236, 3) := by decide +kernel
theorem dX7_chooseNext_51 : decode cX7_chooseNext 51 = .ok (.iinc 1 1, 3) := by decide +kernel
theorem dX7_chooseNext_54 : decode cX7_chooseNext 54 = .ok (.goto (-45), 3) := by decide +kernel
theorem dX7_chooseNext_57 : decode cX7_chooseNext 57 = .ok (.return_, 1) := by decide +kernel
theorem dX7_findFor_0 : decode cX7_findFor 0 = .ok (.aload_n 0, 1) := by decide +kernel
theorem dX7_findFor_1 : decode cX7_findFor 1 = .ok (.getfield 43, 3) := by decide +kernel
theorem dX7_findFor_4 : decode cX7_findFor 4 = .ok (.invokevirtual 216, 3) := by decide +kernel
theorem dX7_findFor_7 : decode cX7_findFor 7 = .ok (.iconst 1, 1) := by decide +kernel
theorem dX7_findFor_8 : decode cX7_findFor 8 = .ok (.istore_n 2, 1) := by decide +kernel
theorem dX7_findFor_9 : decode cX7_findFor 9 = .ok (.iload_n 2, 1) := by decide +kernel
theorem dX7_findFor_10 : decode cX7_findFor 10 = .ok (.bipush 20, 2) := by decide +kernel
theorem dX7_findFor_12 : decode cX7_findFor 12 = .ok (.if_icmp .gt 87, 3) := by decide +kernel
theorem dX7_findFor_15 : decode cX7_findFor 15 = .ok (.aload_n 0, 1) := by decide +kernel
theorem dX7_findFor_16 : decode cX7_findFor 16 = .ok (.invokevirtual 240, 3) := by decide +kernel
theorem dX7_findFor_19 : decode cX7_findFor 19 = .ok (.ifCond .ne 5, 3) := by decide +kernel
theorem dX7_findFor_22 : decode cX7_findFor 22 = .ok (.iconst (-1), 1) := by decide +kernel
theorem dX7_findFor_23 : decode cX7_findFor 23 = .ok (.ireturn, 1) := by decide +kernel
theorem dX7_findFor_24 : decode cX7_findFor 24 = .ok (.aload_n 0, 1) := by decide +kernel
theorem dX7_findFor_25 : decode cX7_findFor 25 = .ok (.invokevirtual 192, 3) := by decide +kernel
theorem dX7_findFor_28 : decode cX7_findFor 28 = .ok (.aload_n 0, 1) := by decide +kernel
theorem dX7_findFor_29 : decode cX7_findFor 29 = .ok (.getfield 43, 3) := by decide +kernel
theorem dX7_findFor_32 : decode cX7_findFor 32 = .ok (.invokevirtual 183, 3) := by decide +kernel
theorem dX7_findFor_35 : decode cX7_findFor 35 = .ok (.istore_n 3, 1) := by decide +kernel
theorem dX7_findFor_36 : decode cX7_findFor 36 = .ok (.aload_n 0, 1) := by decide +kernel
theorem dX7_findFor_37 : decode cX7_findFor 37 = .ok (.getfield 10, 3) := by decide +kernel
theorem dX7_findFor_40 : decode cX7_findFor 40 = .ok (.aload_n 0, 1) := by decide +kernel
theorem dX7_findFor_41 : decode cX7_findFor 41 = .ok (.getfield 54, 3) := by decide +kernel
theorem dX7_findFor_44 : decode cX7_findFor 44 = .ok (.getfield 195, 3) := by decide +kernel
theorem dX7_findFor_47 : decode cX7_findFor 47 = .ok (.iload_n 1, 1) := by decide +kernel
theorem dX7_findFor_48 : decode cX7_findFor 48 = .ok (.invokevirtual 142, 3) := by decide +kernel
theorem dX7_findFor_51 : decode cX7_findFor 51 = .ok (.istore 4, 2) := by decide +kernel
theorem dX7_findFor_53 : decode cX7_findFor 53 = .ok (.aload_n 0, 1) := by decide +kernel
theorem dX7_findFor_54 : decode cX7_findFor 54 = .ok (.getfield 43, 3) := by decide +kernel
theorem dX7_findFor_57 : decode cX7_findFor 57 = .ok (.aload_n 0, 1) := by decide +kernel
theorem dX7_findFor_58 : decode cX7_findFor 58 = .ok (.getfield 10, 3) := by decide +kernel
theorem dX7_findFor_61 : decode cX7_findFor 61 = .ok (.aload_n 0, 1) := by decide +kernel
theorem dX7_findFor_62 : decode cX7_findFor 62 = .ok (.getfield 54, 3) := by decide +kernel
theorem dX7_findFor_65 : decode cX7_findFor 65 = .ok (.getfield 195, 3) := by decide +kernel
theorem dX7_findFor_68 : decode cX7_findFor 68 = .ok (.iload 4, 2) := by decide +kernel
theorem dX7_findFor_70 : decode cX7_findFor 70 = .ok (.invokevirtual 219, 3) := by decide +kernel
theorem dX7_findFor_73 : decode cX7_findFor 73 = .ok (.iload 4, 2) := by decide +kernel
theorem dX7_findFor_75 : decode cX7_findFor 75 = .ok (.ifCond .ne 5, 3) := by decide +kernel
theorem dX7_findFor_78 : decode cX7_findFor 78 = .ok (.iload_n 2, 1) := by decide +kernel
theorem dX7_findFor_79 : decode cX7_findFor 79 = .ok (.ireturn, 1) := by decide +kernel
theorem dX7_findFor_80 : decode cX7_findFor 80 = .ok (.aload_n 0, 1) := by decide +kernel
theorem dX7_findFor_81 : decode cX7_findFor 81 = .ok (.getfield 43, 3) := by decide +kernel
theorem dX7_findFor_84 : decode cX7_findFor 84 = .ok (.invokevirtual 183, 3) := by decide +kernel
theorem dX7_findFor_87 : decode cX7_findFor 87 = .ok (.iload_n 3, 1) := by decide +kernel
theorem dX7_findFor_88 : decode cX7_findFor 88 = .ok (.if_icmp .ne 5, 3) := by decide +kernel
theorem dX7_findFor_91 : decode cX7_findFor 91 = .ok (.iconst (-1), 1) := by decide +kernel
theorem dX7_findFor_92 : decode cX7_findFor 92 = .ok (.ireturn, 1) := by decide +kernel
theorem dX7_findFor_93 : decode cX7_findFor 93 = .ok (.iinc 2 1, 3) := by decide +kernel
theorem dX7_findFor_96 : decode cX7_findFor 96 = .ok (.goto (-87), 3) := by decide +kernel
theorem dX7_findFor_99 : decode cX7_findFor 99 = .ok (.iconst (-1), 1) := by decide +kernel
theorem dX7_findFor_100 : decode cX7_findFor 100 = .ok (.ireturn, 1) := by decide +kernel
theorem dX7_anyFits_0 : decode cX7_anyFits 0 = .ok (.iconst 0, 1) := by decide +kernel
theorem dX7_anyFits_1 : decode cX7_anyFits 1 = .ok (.istore_n 1, 1) := by decide +kernel
theorem dX7_anyFits_2 : decode cX7_anyFits 2 = .ok (.iload_n 1, 1) := by decide +kernel
theorem dX7_anyFits_3 : decode cX7_anyFits 3 = .ok (.aload_n 0, 1) := by decide +kernel
theorem dX7_anyFits_4 : decode cX7_anyFits 4 = .ok (.getfield 10, 3) := by decide +kernel
theorem dX7_anyFits_7 : decode cX7_anyFits 7 = .ok (.invokevirtual 226, 3) := by decide +kernel
theorem dX7_anyFits_10 : decode cX7_anyFits 10 = .ok (.if_icmp .ge 48, 3) := by decide +kernel
theorem dX7_anyFits_13 : decode cX7_anyFits 13 = .ok (.aload_n 0, 1) := by decide +kernel
theorem dX7_anyFits_14 : decode cX7_anyFits 14 = .ok (.getfield 10, 3) := by decide +kernel
theorem dX7_anyFits_17 : decode cX7_anyFits 17 = .ok (.iload_n 1, 1) := by decide +kernel
theorem dX7_anyFits_18 : decode cX7_anyFits 18 = .ok (.invokevirtual 229, 3) := by decide +kernel
theorem dX7_anyFits_21 : decode cX7_anyFits 21 = .ok (.ifCond .eq 31, 3) := by decide +kernel
theorem dX7_anyFits_24 : decode cX7_anyFits 24 = .ok (.aload_n 0, 1) := by decide +kernel
theorem dX7_anyFits_25 : decode cX7_anyFits 25 = .ok (.getfield 43, 3) := by decide +kernel
theorem dX7_anyFits_28 : decode cX7_anyFits 28 = .ok (.aload_n 0, 1) := by decide +kernel
theorem dX7_anyFits_29 : decode cX7_anyFits 29 = .ok (.getfield 10, 3) := by decide +kernel
theorem dX7_anyFits_32 : decode cX7_anyFits 32 = .ok (.iload_n 1, 1) := by decide +kernel
theorem dX7_anyFits_33 : decode cX7_anyFits 33 = .ok (.invokevirtual 243, 3) := by decide +kernel
theorem dX7_anyFits_36 : decode cX7_anyFits 36 = .ok (.aload_n 0, 1) := by decide +kernel
theorem dX7_anyFits_37 : decode cX7_anyFits 37 = .ok (.getfield 10, 3) := by decide +kernel
theorem dX7_anyFits_40 : decode cX7_anyFits 40 = .ok (.iload_n 1, 1) := by decide +kernel
theorem dX7_anyFits_41 : decode cX7_anyFits 41 = .ok (.invokevirtual 246, 3) := by decide +kernel
theorem dX7_anyFits_44 : decode cX7_anyFits 44 = .ok (.invokevirtual 249, 3) := by decide +kernel
theorem dX7_anyFits_47 : decode cX7_anyFits 47 = .ok (.ifCond .eq 5, 3) := by decide +kernel
theorem dX7_anyFits_50 : decode cX7_anyFits 50 = .ok (.iconst 1, 1) := by decide +kernel
theorem dX7_anyFits_51 : decode cX7_anyFits 51 = .ok (.ireturn, 1) := by decide +kernel
theorem dX7_anyFits_52 : decode cX7_anyFits 52 = .ok (.iinc 1 1, 3) := by decide +kernel
theorem dX7_anyFits_55 : decode cX7_anyFits 55 = .ok (.goto (-53), 3) := by decide +kernel
theorem dX7_anyFits_58 : decode cX7_anyFits 58 = .ok (.iconst 0, 1) := by decide +kernel
theorem dX7_anyFits_59 : decode cX7_anyFits 59 = .ok (.ireturn, 1) := by decide +kernel
theorem dX7_pair_0 : decode cX7_pair 0 = .ok (.iload_n 1, 1) := by decide +kernel
theorem dX7_pair_1 : decode cX7_pair 1 = .ok (.ifCond .lt 8, 3) := by decide +kernel
theorem dX7_pair_4 : decode cX7_pair 4 = .ok (.iload_n 1, 1) := by decide +kernel
theorem dX7_pair_5 : decode cX7_pair 5 = .ok (.iconst 5, 1) := by decide +kernel
theorem dX7_pair_6 : decode cX7_pair 6 = .ok (.if_icmp .le 6, 3) := by decide +kernel
theorem dX7_pair_9 : decode cX7_pair 9 = .ok (.ldc 253, 2) := by decide +kernel
theorem dX7_pair_11 : decode cX7_pair 11 = .ok (.ireturn, 1) := by decide +kernel
theorem dX7_pair_12 : decode cX7_pair 12 = .ok (.aload_n 0, 1) := by decide +kernel
theorem dX7_pair_13 : decode cX7_pair 13 = .ok (.invokevirtual 254, 3) := by decide +kernel
theorem dX7_pair_16 : decode cX7_pair 16 = .ok (.aload_n 0, 1) := by decide +kernel
theorem dX7_pair_17 : decode cX7_pair 17 = .ok (.getfield 54, 3) := by decide +kernel
theorem dX7_pair_20 : decode cX7_pair 20 = .ok (.getfield 195, 3) := by decide +kernel
theorem dX7_pair_23 : decode cX7_pair 23 = .ok (.iconst (-1), 1) := by decide +kernel
theorem dX7_pair_24 : decode cX7_pair 24 = .ok (.if_icmp .ne 14, 3) := by decide +kernel
theorem dX7_pair_27 : decode cX7_pair 27 = .ok (.iload_n 1, 1) := by decide +kernel
theorem dX7_pair_28 : decode cX7_pair 28 = .ok (.iconst 5, 1) := by decide +kernel
theorem dX7_pair_29 : decode cX7_pair 29 = .ok (.if_icmp .ne 7, 3) := by decide +kernel
theorem dX7_pair_32 : decode cX7_pair 32 = .ok (.iconst 0, 1) := by decide +kernel
theorem dX7_pair_33 : decode cX7_pair 33 = .ok (.goto 4, 3) := by decide +kernel
theorem dX7_pair_36 : decode cX7_pair 36 = .ok (.iconst (-1), 1) := by decide +kernel
theorem dX7_pair_37 : decode cX7_pair 37 = .ok (.ireturn, 1) := by decide +kernel
theorem dX7_pair_38 : decode cX7_pair 38 = .ok (.iload_n 1, 1) := by decide +kernel
theorem dX7_pair_39 : decode cX7_pair 39 = .ok (.tableswitch 81 0 4 #[33, 41, 49, 57, 65], 33) := by decide +kernel
theorem dX7_pair_72 : decode cX7_pair 72 = .ok (.aload_n 0, 1) := by decide +kernel
theorem dX7_pair_73 : decode cX7_pair 73 = .ok (.getfield 54, 3) := by decide +kernel
theorem dX7_pair_76 : decode cX7_pair 76 = .ok (.getfield 195, 3) := by decide +kernel
theorem dX7_pair_79 : decode cX7_pair 79 = .ok (.ireturn, 1) := by decide +kernel
theorem dX7_pair_80 : decode cX7_pair 80 = .ok (.aload_n 0, 1) := by decide +kernel
theorem dX7_pair_81 : decode cX7_pair 81 = .ok (.getfield 54, 3) := by decide +kernel
theorem dX7_pair_84 : decode cX7_pair 84 = .ok (.getfield 198, 3) := by decide +kernel
theorem dX7_pair_87 : decode cX7_pair 87 = .ok (.ireturn, 1) := by decide +kernel
theorem dX7_pair_88 : decode cX7_pair 88 = .ok (.aload_n 0, 1) := by decide +kernel
theorem dX7_pair_89 : decode cX7_pair 89 = .ok (.getfield 58, 3) := by decide +kernel
theorem dX7_pair_92 : decode cX7_pair 92 = .ok (.getfield 195, 3) := by decide +kernel
theorem dX7_pair_95 : decode cX7_pair 95 = .ok (.ireturn, 1) := by decide +kernel
theorem dX7_pair_96 : decode cX7_pair 96 = .ok (.aload_n 0, 1) := by decide +kernel
theorem dX7_pair_97 : decode cX7_pair 97 = .ok (.getfield 61, 3) := by decide +kernel
theorem dX7_pair_100 : decode cX7_pair 100 = .ok (.getfield 195, 3) := by decide +kernel
theorem dX7_pair_103 : decode cX7_pair 103 = .ok (.ireturn, 1) := by decide +kernel
theorem dX7_pair_104 : decode cX7_pair 104 = .ok (.aload_n 0, 1) := by decide +kernel
theorem dX7_pair_105 : decode cX7_pair 105 = .ok (.getfield 58, 3) := by decide +kernel
theorem dX7_pair_108 : decode cX7_pair 108 = .ok (.getfield 198, 3) := by decide +kernel
theorem dX7_pair_111 : decode cX7_pair 111 = .ok (.aload_n 0, 1) := by decide +kernel
theorem dX7_pair_112 : decode cX7_pair 112 = .ok (.getfield 61, 3) := by decide +kernel
theorem dX7_pair_115 : decode cX7_pair 115 = .ok (.getfield 198, 3) := by decide +kernel
theorem dX7_pair_118 : decode cX7_pair 118 = .ok (.iadd, 1) := by decide +kernel
theorem dX7_pair_119 : decode cX7_pair 119 = .ok (.ireturn, 1) := by decide +kernel
theorem dX7_pair_120 : decode cX7_pair 120 = .ok (.aload_n 0, 1) := by decide +kernel
theorem dX7_pair_121 : decode cX7_pair 121 = .ok (.invokevirtual 257, 3) := by decide +kernel
theorem dX7_pair_124 : decode cX7_pair 124 = .ok (.ireturn, 1) := by decide +kernel
theorem dX7_tryAllOn_0 : decode cX7_tryAllOn 0 = .ok (.aload_n 0, 1) := by decide +kernel
theorem dX7_tryAllOn_1 : decode cX7_tryAllOn 1 = .ok (.getfield 54, 3) := by decide +kernel
theorem dX7_tryAllOn_4 : decode cX7_tryAllOn 4 = .ok (.invokevirtual 223, 3) := by decide +kernel
theorem dX7_tryAllOn_7 : decode cX7_tryAllOn 7 = .ok (.aload_n 0, 1) := by decide +kernel
theorem dX7_tryAllOn_8 : decode cX7_tryAllOn 8 = .ok (.getfield 58, 3) := by decide +kernel
theorem dX7_tryAllOn_11 : decode cX7_tryAllOn 11 = .ok (.invokevirtual 223, 3) := by decide +kernel
theorem dX7_tryAllOn_14 : decode cX7_tryAllOn 14 = .ok (.aload_n 0, 1) := by decide +kernel
theorem dX7_tryAllOn_15 : decode cX7_tryAllOn 15 = .ok (.getfield 61, 3) := by decide +kernel
theorem dX7_tryAllOn_18 : decode cX7_tryAllOn 18 = .ok (.invokevirtual 223, 3) := by decide +kernel
theorem dX7_tryAllOn_21 : decode cX7_tryAllOn 21 = .ok (.aload_n 0, 1) := by decide +kernel
theorem dX7_tryAllOn_22 : decode cX7_tryAllOn 22 = .ok (.iconst 0, 1) := by decide +kernel
theorem dX7_tryAllOn_23 : decode cX7_tryAllOn 23 = .ok (.invokevirtual 133, 3) := by decide +kernel
theorem dX7_tryAllOn_26 : decode cX7_tryAllOn 26 = .ok (.istore_n 1, 1) := by decide +kernel
theorem dX7_tryAllOn_27 : decode cX7_tryAllOn 27 = .ok (.aload_n 0, 1) := by decide +kernel
theorem dX7_tryAllOn_28 : decode cX7_tryAllOn 28 = .ok (.iconst 1, 1) := by decide +kernel
theorem dX7_tryAllOn_29 : decode cX7_tryAllOn 29 = .ok (.invokevirtual 133, 3) := by decide +kernel
theorem dX7_tryAllOn_32 : decode cX7_tryAllOn 32 = .ok (.istore_n 2, 1) := by decide +kernel
theorem dX7_tryAllOn_33 : decode cX7_tryAllOn 33 = .ok (.iconst 0, 1) := by decide +kernel
theorem dX7_tryAllOn_34 : decode cX7_tryAllOn 34 = .ok (.istore_n 3, 1) := by decide +kernel
theorem dX7_tryAllOn_35 : decode cX7_tryAllOn 35 = .ok (.iload_n 3, 1) := by decide +kernel
theorem dX7_tryAllOn_36 : decode cX7_tryAllOn 36 = .ok (.aload_n 0, 1) := by decide +kernel
theorem dX7_tryAllOn_37 : decode cX7_tryAllOn 37 = .ok (.getfield 10, 3) := by decide +kernel
theorem dX7_tryAllOn_40 : decode cX7_tryAllOn 40 = .ok (.invokevirtual 226, 3) := by decide +kernel
theorem dX7_tryAllOn_43 : decode cX7_tryAllOn 43 = .ok (.if_icmp .ge 71, 3) := by decide +kernel
theorem dX7_tryAllOn_46 : decode cX7_tryAllOn 46 = .ok (.aload_n 0, 1) := by decide +kernel
theorem dX7_tryAllOn_47 : decode cX7_tryAllOn 47 = .ok (.getfield 10, 3) := by decide +kernel
theorem dX7_tryAllOn_50 : decode cX7_tryAllOn 50 = .ok (.iload_n 3, 1) := by decide +kernel
theorem dX7_tryAllOn_51 : decode cX7_tryAllOn 51 = .ok (.invokevirtual 229, 3) := by decide +kernel
theorem dX7_tryAllOn_54 : decode cX7_tryAllOn 54 = .ok (.ifCond .eq 54, 3) := by decide +kernel
theorem dX7_tryAllOn_57 : decode cX7_tryAllOn 57 = .ok (.aload_n 0, 1) := by decide +kernel
theorem dX7_tryAllOn_58 : decode cX7_tryAllOn 58 = .ok (.iload_n 3, 1) := by decide +kernel
theorem dX7_tryAllOn_59 : decode cX7_tryAllOn 59 = .ok (.iconst 0, 1) := by decide +kernel
theorem dX7_tryAllOn_60 : decode cX7_tryAllOn 60 = .ok (.iload_n 1, 1) := by decide +kernel
theorem dX7_tryAllOn_61 : decode cX7_tryAllOn 61 = .ok (.invokevirtual 260, 3) := by decide +kernel
theorem dX7_tryAllOn_64 : decode cX7_tryAllOn 64 = .ok (.istore 4, 2) := by decide +kernel
theorem dX7_tryAllOn_66 : decode cX7_tryAllOn 66 = .ok (.aload_n 0, 1) := by decide +kernel
theorem dX7_tryAllOn_67 : decode cX7_tryAllOn 67 = .ok (.iload_n 3, 1) := by decide +kernel
theorem dX7_tryAllOn_68 : decode cX7_tryAllOn 68 = .ok (.iconst 1, 1) := by decide +kernel
theorem dX7_tryAllOn_69 : decode cX7_tryAllOn 69 = .ok (.iload_n 2, 1) := by decide +kernel
theorem dX7_tryAllOn_70 : decode cX7_tryAllOn 70 = .ok (.invokevirtual 260, 3) := by decide +kernel
theorem dX7_tryAllOn_73 : decode cX7_tryAllOn 73 = .ok (.istore 5, 2) := by decide +kernel
theorem dX7_tryAllOn_75 : decode cX7_tryAllOn 75 = .ok (.aload_n 0, 1) := by decide +kernel
theorem dX7_tryAllOn_76 : decode cX7_tryAllOn 76 = .ok (.getfield 54, 3) := by decide +kernel
theorem dX7_tryAllOn_79 : decode cX7_tryAllOn 79 = .ok (.iload_n 3, 1) := by decide +kernel
theorem dX7_tryAllOn_80 : decode cX7_tryAllOn 80 = .ok (.iload 4, 2) := by decide +kernel
theorem dX7_tryAllOn_82 : decode cX7_tryAllOn 82 = .ok (.iload 5, 2) := by decide +kernel
theorem dX7_tryAllOn_84 : decode cX7_tryAllOn 84 = .ok (.iadd, 1) := by decide +kernel
theorem dX7_tryAllOn_85 : decode cX7_tryAllOn 85 = .ok (.invokevirtual 236, 3) := by decide +kernel
theorem dX7_tryAllOn_88 : decode cX7_tryAllOn 88 = .ok (.aload_n 0, 1) := by decide +kernel
theorem dX7_tryAllOn_89 : decode cX7_tryAllOn 89 = .ok (.getfield 58, 3) := by decide +kernel
theorem dX7_tryAllOn_92 : decode cX7_tryAllOn 92 = .ok (.iload_n 3, 1) := by decide +kernel
theorem dX7_tryAllOn_93 : decode cX7_tryAllOn 93 = .ok (.iload 4, 2) := by decide +kernel
theorem dX7_tryAllOn_95 : decode cX7_tryAllOn 95 = .ok (.invokevirtual 236, 3) := by decide +kernel
theorem dX7_tryAllOn_98 : decode cX7_tryAllOn 98 = .ok (.aload_n 0, 1) := by decide +kernel
theorem dX7_tryAllOn_99 : decode cX7_tryAllOn 99 = .ok (.getfield 61, 3) := by decide +kernel
theorem dX7_tryAllOn_102 : decode cX7_tryAllOn 102 = .ok (.iload_n 3, 1) := by decide +kernel
theorem dX7_tryAllOn_103 : decode cX7_tryAllOn 103 = .ok (.iload 5, 2) := by decide +kernel
theorem dX7_tryAllOn_105 : decode cX7_tryAllOn 105 = .ok (.invokevirtual 236, 3) := by decide +kernel
theorem dX7_tryAllOn_108 : decode cX7_tryAllOn 108 = .ok (.iinc 3 1, 3) := by decide +kernel
theorem dX7_tryAllOn_111 : decode cX7_tryAllOn 111 = .ok (.goto (-76), 3) := by decide +kernel
theorem dX7_tryAllOn_114 : decode cX7_tryAllOn 114 = .ok (.return_, 1) := by decide +kernel
theorem dX7_worth_0 : decode cX7_worth 0 = .ok (.aload_n 0, 1) := by decide +kernel
theorem dX7_worth_1 : decode cX7_worth 1 = .ok (.getfield 54, 3) := by decide +kernel
theorem dX7_worth_4 : decode cX7_worth 4 = .ok (.getfield 198, 3) := by decide +kernel
theorem dX7_worth_7 : decode cX7_worth 7 = .ok (.aload_n 0, 1) := by decide +kernel
theorem dX7_worth_8 : decode cX7_worth 8 = .ok (.getfield 58, 3) := by decide +kernel
theorem dX7_worth_11 : decode cX7_worth 11 = .ok (.getfield 198, 3) := by decide +kernel
theorem dX7_worth_14 : decode cX7_worth 14 = .ok (.isub, 1) := by decide +kernel
theorem dX7_worth_15 : decode cX7_worth 15 = .ok (.aload_n 0, 1) := by decide +kernel
theorem dX7_worth_16 : decode cX7_worth 16 = .ok (.getfield 61, 3) := by decide +kernel
theorem dX7_worth_19 : decode cX7_worth 19 = .ok (.getfield 198, 3) := by decide +kernel
theorem dX7_worth_22 : decode cX7_worth 22 = .ok (.isub, 1) := by decide +kernel
theorem dX7_worth_23 : decode cX7_worth 23 = .ok (.istore_n 1, 1) := by decide +kernel
theorem dX7_worth_24 : decode cX7_worth 24 = .ok (.aload_n 0, 1) := by decide +kernel
theorem dX7_worth_25 : decode cX7_worth 25 = .ok (.aload_n 0, 1) := by decide +kernel
theorem dX7_worth_26 : decode cX7_worth 26 = .ok (.getfield 58, 3) := by decide +kernel
theorem dX7_worth_29 : decode cX7_worth 29 = .ok (.getfield 195, 3) := by decide +kernel
theorem dX7_worth_32 : decode cX7_worth 32 = .ok (.invokevirtual 264, 3) := by decide +kernel
theorem dX7_worth_35 : decode cX7_worth 35 = .ok (.aload_n 0, 1) := by decide +kernel
theorem dX7_worth_36 : decode cX7_worth 36 = .ok (.aload_n 0, 1) := by decide +kernel
theorem dX7_worth_37 : decode cX7_worth 37 = .ok (.getfield 61, 3) := by decide +kernel
theorem dX7_worth_40 : decode cX7_worth 40 = .ok (.getfield 195, 3) := by decide +kernel
theorem dX7_worth_43 : decode cX7_worth 43 = .ok (.invokevirtual 264, 3) := by decide +kernel
theorem dX7_worth_46 : decode cX7_worth 46 = .ok (.iadd, 1) := by decide +kernel
theorem dX7_worth_47 : decode cX7_worth 47 = .ok (.istore_n 2, 1) := by decide +kernel
theorem dX7_worth_48 : decode cX7_worth 48 = .ok (.iload_n 1, 1) := by decide +kernel
theorem dX7_worth_49 : decode cX7_worth 49 = .ok (.aload_n 0, 1) := by decide +kernel
theorem dX7_worth_50 : decode cX7_worth 50 = .ok (.aload_n 0, 1) := by decide +kernel
theorem dX7_worth_51 : decode cX7_worth 51 = .ok (.getfield 54, 3) := by decide +kernel
theorem dX7_worth_54 : decode cX7_worth 54 = .ok (.getfield 195, 3) := by decide +kernel
theorem dX7_worth_57 : decode cX7_worth 57 = .ok (.invokevirtual 264, 3) := by decide +kernel
theorem dX7_worth_60 : decode cX7_worth 60 = .ok (.iadd, 1) := by decide +kernel
theorem dX7_worth_61 : decode cX7_worth 61 = .ok (.iload_n 2, 1) := by decide +kernel
theorem dX7_worth_62 : decode cX7_worth 62 = .ok (.iconst 2, 1) := by decide +kernel
theorem dX7_worth_63 : decode cX7_worth 63 = .ok (.idiv, 1) := by decide +kernel
theorem dX7_worth_64 : decode cX7_worth 64 = .ok (.isub, 1) := by decide +kernel
theorem dX7_worth_65 : decode cX7_worth 65 = .ok (.ireturn, 1) := by decide +kernel
theorem dX7_served_0 : decode cX7_served 0 = .ok (.iload_n 1, 1) := by decide +kernel
theorem dX7_served_1 : decode cX7_served 1 = .ok (.iconst (-1), 1) := by decide +kernel
theorem dX7_served_2 : decode cX7_served 2 = .ok (.if_icmp .eq 17, 3) := by decide +kernel
theorem dX7_served_5 : decode cX7_served 5 = .ok (.aload_n 0, 1) := by decide +kernel
theorem dX7_served_6 : decode cX7_served 6 = .ok (.getfield 10, 3) := by decide +kernel
theorem dX7_served_9 : decode cX7_served 9 = .ok (.iload_n 1, 1) := by decide +kernel
theorem dX7_served_10 : decode cX7_served 10 = .ok (.invokevirtual 130, 3) := by decide +kernel
theorem dX7_served_13 : decode cX7_served 13 = .ok (.ifCond .ne 6, 3) := by decide +kernel
theorem dX7_served_16 : decode cX7_served 16 = .ok (.bipush (-2), 2) := by decide +kernel
theorem dX7_served_18 : decode cX7_served 18 = .ok (.ireturn, 1) := by decide +kernel
theorem dX7_served_19 : decode cX7_served 19 = .ok (.iload_n 1, 1) := by decide +kernel
theorem dX7_served_20 : decode cX7_served 20 = .ok (.iconst (-1), 1) := by decide +kernel
theorem dX7_served_21 : decode cX7_served 21 = .ok (.if_icmp .ne 18, 3) := by decide +kernel
theorem dX7_served_24 : decode cX7_served 24 = .ok (.aload_n 0, 1) := by decide +kernel
theorem dX7_served_25 : decode cX7_served 25 = .ok (.iconst 0, 1) := by decide +kernel
theorem dX7_served_26 : decode cX7_served 26 = .ok (.aload_n 0, 1) := by decide +kernel
theorem dX7_served_27 : decode cX7_served 27 = .ok (.getfield 10, 3) := by decide +kernel
theorem dX7_served_30 : decode cX7_served 30 = .ok (.invokevirtual 226, 3) := by decide +kernel
theorem dX7_served_33 : decode cX7_served 33 = .ok (.invokevirtual 267, 3) := by decide +kernel
theorem dX7_served_36 : decode cX7_served 36 = .ok (.goto 17, 3) := by decide +kernel
theorem dX7_served_39 : decode cX7_served 39 = .ok (.aload_n 0, 1) := by decide +kernel
theorem dX7_served_40 : decode cX7_served 40 = .ok (.iload_n 1, 1) := by decide +kernel
theorem dX7_served_41 : decode cX7_served 41 = .ok (.bipush 20, 2) := by decide +kernel
theorem dX7_served_43 : decode cX7_served 43 = .ok (.imul, 1) := by decide +kernel
theorem dX7_served_44 : decode cX7_served 44 = .ok (.iload_n 1, 1) := by decide +kernel
theorem dX7_served_45 : decode cX7_served 45 = .ok (.iconst 1, 1) := by decide +kernel
theorem dX7_served_46 : decode cX7_served 46 = .ok (.iadd, 1) := by decide +kernel
theorem dX7_served_47 : decode cX7_served 47 = .ok (.bipush 20, 2) := by decide +kernel
theorem dX7_served_49 : decode cX7_served 49 = .ok (.imul, 1) := by decide +kernel
theorem dX7_served_50 : decode cX7_served 50 = .ok (.invokevirtual 267, 3) := by decide +kernel
theorem dX7_served_53 : decode cX7_served 53 = .ok (.iconst 0, 1) := by decide +kernel
theorem dX7_served_54 : decode cX7_served 54 = .ok (.istore_n 2, 1) := by decide +kernel
theorem dX7_served_55 : decode cX7_served 55 = .ok (.iconst 0, 1) := by decide +kernel
theorem dX7_served_56 : decode cX7_served 56 = .ok (.istore_n 3, 1) := by decide +kernel
theorem dX7_served_57 : decode cX7_served 57 = .ok (.iload_n 3, 1) := by decide +kernel
theorem dX7_served_58 : decode cX7_served 58 = .ok (.bipush 100, 2) := by decide +kernel
theorem dX7_served_60 : decode cX7_served 60 = .ok (.if_icmp .ge 28, 3) := by decide +kernel
theorem dX7_served_63 : decode cX7_served 63 = .ok (.iload_n 2, 1) := by decide +kernel
theorem dX7_served_64 : decode cX7_served 64 = .ok (.aload_n 0, 1) := by decide +kernel
theorem dX7_served_65 : decode cX7_served 65 = .ok (.getfield 47, 3) := by decide +kernel
theorem dX7_served_68 : decode cX7_served 68 = .ok (.iload_n 3, 1) := by decide +kernel
theorem dX7_served_69 : decode cX7_served 69 = .ok (.iaload, 1) := by decide +kernel
theorem dX7_served_70 : decode cX7_served 70 = .ok (.aload_n 0, 1) := by decide +kernel
theorem dX7_served_71 : decode cX7_served 71 = .ok (.getfield 10, 3) := by decide +kernel
theorem dX7_served_74 : decode cX7_served 74 = .ok (.getfield 107, 3) := by decide +kernel
theorem dX7_served_77 : decode cX7_served 77 = .ok (.iload_n 3, 1) := by decide +kernel
theorem dX7_served_78 : decode cX7_served 78 = .ok (.iaload, 1) := by decide +kernel
theorem dX7_served_79 : decode cX7_served 79 = .ok (.imul, 1) := by decide +kernel
theorem dX7_served_80 : decode cX7_served 80 = .ok (.iadd, 1) := by decide +kernel
theorem dX7_served_81 : decode cX7_served 81 = .ok (.istore_n 2, 1) := by decide +kernel
theorem dX7_served_82 : decode cX7_served 82 = .ok (.iinc 3 1, 3) := by decide +kernel
theorem dX7_served_85 : decode cX7_served 85 = .ok (.goto (-28), 3) := by decide +kernel
theorem dX7_served_88 : decode cX7_served 88 = .ok (.iload_n 2, 1) := by decide +kernel
theorem dX7_served_89 : decode cX7_served 89 = .ok (.ireturn, 1) := by decide +kernel
theorem dX7_order_0 : decode cX7_order 0 = .ok (.aload_n 0, 1) := by decide +kernel
theorem dX7_order_1 : decode cX7_order 1 = .ok (.getfield 10, 3) := by decide +kernel
theorem dX7_order_4 : decode cX7_order 4 = .ok (.iload_n 1, 1) := by decide +kernel
theorem dX7_order_5 : decode cX7_order 5 = .ok (.invokevirtual 130, 3) := by decide +kernel
theorem dX7_order_8 : decode cX7_order 8 = .ok (.ifCond .eq 21, 3) := by decide +kernel
theorem dX7_order_11 : decode cX7_order 11 = .ok (.iload_n 2, 1) := by decide +kernel
theorem dX7_order_12 : decode cX7_order 12 = .ok (.ifCond .lt 17, 3) := by decide +kernel
theorem dX7_order_15 : decode cX7_order 15 = .ok (.iload_n 2, 1) := by decide +kernel
theorem dX7_order_16 : decode cX7_order 16 = .ok (.iconst 3, 1) := by decide +kernel
theorem dX7_order_17 : decode cX7_order 17 = .ok (.if_icmp .gt 12, 3) := by decide +kernel
theorem dX7_order_20 : decode cX7_order 20 = .ok (.iload_n 3, 1) := by decide +kernel
theorem dX7_order_21 : decode cX7_order 21 = .ok (.ifCond .lt 8, 3) := by decide +kernel
theorem dX7_order_24 : decode cX7_order 24 = .ok (.iload_n 3, 1) := by decide +kernel
theorem dX7_order_25 : decode cX7_order 25 = .ok (.iconst 1, 1) := by decide +kernel
theorem dX7_order_26 : decode cX7_order 26 = .ok (.if_icmp .le 6, 3) := by decide +kernel
theorem dX7_order_29 : decode cX7_order 29 = .ok (.bipush (-2), 2) := by decide +kernel
theorem dX7_order_31 : decode cX7_order 31 = .ok (.ireturn, 1) := by decide +kernel
theorem dX7_order_32 : decode cX7_order 32 = .ok (.aload_n 0, 1) := by decide +kernel
theorem dX7_order_33 : decode cX7_order 33 = .ok (.getfield 54, 3) := by decide +kernel
theorem dX7_order_36 : decode cX7_order 36 = .ok (.invokevirtual 223, 3) := by decide +kernel
theorem dX7_order_39 : decode cX7_order 39 = .ok (.iconst 1, 1) := by decide +kernel
theorem dX7_order_40 : decode cX7_order 40 = .ok (.iload_n 2, 1) := by decide +kernel
theorem dX7_order_41 : decode cX7_order 41 = .ok (.ishl, 1) := by decide +kernel
theorem dX7_order_42 : decode cX7_order 42 = .ok (.iconst 1, 1) := by decide +kernel
theorem dX7_order_43 : decode cX7_order 43 = .ok (.isub, 1) := by decide +kernel
theorem dX7_order_44 : decode cX7_order 44 = .ok (.istore 4, 2) := by decide +kernel
theorem dX7_order_46 : decode cX7_order 46 = .ok (.iconst 0, 1) := by decide +kernel
theorem dX7_order_47 : decode cX7_order 47 = .ok (.istore 5, 2) := by decide +kernel
theorem dX7_order_49 : decode cX7_order 49 = .ok (.iload 5, 2) := by decide +kernel
theorem dX7_order_51 : decode cX7_order 51 = .ok (.sipush 1140, 3) := by decide +kernel
theorem dX7_order_54 : decode cX7_order 54 = .ok (.if_icmp .ge 40, 3) := by decide +kernel
theorem dX7_order_57 : decode cX7_order 57 = .ok (.iload 4, 2) := by decide +kernel
theorem dX7_order_59 : decode cX7_order 59 = .ok (.ldc 119, 2) := by decide +kernel
theorem dX7_order_61 : decode cX7_order 61 = .ok (.if_icmp .gt 33, 3) := by decide +kernel
theorem dX7_order_64 : decode cX7_order 64 = .ok (.aload_n 0, 1) := by decide +kernel
theorem dX7_order_65 : decode cX7_order 65 = .ok (.getfield 54, 3) := by decide +kernel
theorem dX7_order_68 : decode cX7_order 68 = .ok (.iload 4, 2) := by decide +kernel
theorem dX7_order_70 : decode cX7_order 70 = .ok (.aload_n 0, 1) := by decide +kernel
theorem dX7_order_71 : decode cX7_order 71 = .ok (.iload_n 1, 1) := by decide +kernel
theorem dX7_order_72 : decode cX7_order 72 = .ok (.iload 4, 2) := by decide +kernel
theorem dX7_order_74 : decode cX7_order 74 = .ok (.invokevirtual 270, 3) := by decide +kernel
theorem dX7_order_77 : decode cX7_order 77 = .ok (.ineg, 1) := by decide +kernel
theorem dX7_order_78 : decode cX7_order 78 = .ok (.invokevirtual 236, 3) := by decide +kernel
theorem dX7_order_81 : decode cX7_order 81 = .ok (.iload 4, 2) := by decide +kernel
theorem dX7_order_83 : decode cX7_order 83 = .ok (.invokestatic 273, 3) := by decide +kernel
theorem dX7_order_86 : decode cX7_order 86 = .ok (.istore 4, 2) := by decide +kernel
theorem dX7_order_88 : decode cX7_order 88 = .ok (.iinc 5 1, 3) := by decide +kernel
theorem dX7_order_91 : decode cX7_order 91 = .ok (.goto (-42), 3) := by decide +kernel
theorem dX7_order_94 : decode cX7_order 94 = .ok (.iload_n 3, 1) := by decide +kernel
theorem dX7_order_95 : decode cX7_order 95 = .ok (.ifCond .ne 13, 3) := by decide +kernel
theorem dX7_order_98 : decode cX7_order 98 = .ok (.aload_n 0, 1) := by decide +kernel
theorem dX7_order_99 : decode cX7_order 99 = .ok (.getfield 54, 3) := by decide +kernel
theorem dX7_order_102 : decode cX7_order 102 = .ok (.getfield 195, 3) := by decide +kernel
theorem dX7_order_105 : decode cX7_order 105 = .ok (.goto 11, 3) := by decide +kernel
theorem dX7_order_108 : decode cX7_order 108 = .ok (.aload_n 0, 1) := by decide +kernel
theorem dX7_order_109 : decode cX7_order 109 = .ok (.getfield 54, 3) := by decide +kernel
theorem dX7_order_112 : decode cX7_order 112 = .ok (.getfield 198, 3) := by decide +kernel
theorem dX7_order_115 : decode cX7_order 115 = .ok (.ineg, 1) := by decide +kernel
theorem dX7_order_116 : decode cX7_order 116 = .ok (.ireturn, 1) := by decide +kernel
theorem dX7_missing_0 : decode cX7_missing 0 = .ok (.iload_n 1, 1) := by decide +kernel
theorem dX7_missing_1 : decode cX7_missing 1 = .ok (.ifCond .lt 8, 3) := by decide +kernel
theorem dX7_missing_4 : decode cX7_missing 4 = .ok (.iload_n 1, 1) := by decide +kernel
theorem dX7_missing_5 : decode cX7_missing 5 = .ok (.iconst 1, 1) := by decide +kernel
theorem dX7_missing_6 : decode cX7_missing 6 = .ok (.if_icmp .le 6, 3) := by decide +kernel
theorem dX7_missing_9 : decode cX7_missing 9 = .ok (.bipush (-2), 2) := by decide +kernel
theorem dX7_missing_11 : decode cX7_missing 11 = .ok (.ireturn, 1) := by decide +kernel
theorem dX7_missing_12 : decode cX7_missing 12 = .ok (.aload_n 0, 1) := by decide +kernel
theorem dX7_missing_13 : decode cX7_missing 13 = .ok (.iconst 0, 1) := by decide +kernel
theorem dX7_missing_14 : decode cX7_missing 14 = .ok (.aload_n 0, 1) := by decide +kernel
theorem dX7_missing_15 : decode cX7_missing 15 = .ok (.getfield 10, 3) := by decide +kernel
theorem dX7_missing_18 : decode cX7_missing 18 = .ok (.invokevirtual 226, 3) := by decide +kernel
theorem dX7_missing_21 : decode cX7_missing 21 = .ok (.invokevirtual 267, 3) := by decide +kernel
theorem dX7_missing_24 : decode cX7_missing 24 = .ok (.aload_n 0, 1) := by decide +kernel
theorem dX7_missing_25 : decode cX7_missing 25 = .ok (.getfield 54, 3) := by decide +kernel
theorem dX7_missing_28 : decode cX7_missing 28 = .ok (.invokevirtual 223, 3) := by decide +kernel
theorem dX7_missing_31 : decode cX7_missing 31 = .ok (.iconst 0, 1) := by decide +kernel
theorem dX7_missing_32 : decode cX7_missing 32 = .ok (.istore_n 2, 1) := by decide +kernel
theorem dX7_missing_33 : decode cX7_missing 33 = .ok (.iconst 0, 1) := by decide +kernel
theorem dX7_missing_34 : decode cX7_missing 34 = .ok (.istore_n 3, 1) := by decide +kernel
theorem dX7_missing_35 : decode cX7_missing 35 = .ok (.iload_n 3, 1) := by decide +kernel
theorem dX7_missing_36 : decode cX7_missing 36 = .ok (.bipush 100, 2) := by decide +kernel
theorem dX7_missing_38 : decode cX7_missing 38 = .ok (.if_icmp .ge 60, 3) := by decide +kernel
theorem dX7_missing_41 : decode cX7_missing 41 = .ok (.aload_n 0, 1) := by decide +kernel
theorem dX7_missing_42 : decode cX7_missing 42 = .ok (.getfield 47, 3) := by decide +kernel
theorem dX7_missing_45 : decode cX7_missing 45 = .ok (.iload_n 3, 1) := by decide +kernel
theorem dX7_missing_46 : decode cX7_missing 46 = .ok (.iaload, 1) := by decide +kernel
theorem dX7_missing_47 : decode cX7_missing 47 = .ok (.ifCond .ne 45, 3) := by decide +kernel
theorem dX7_missing_50 : decode cX7_missing 50 = .ok (.aload_n 0, 1) := by decide +kernel
theorem dX7_missing_51 : decode cX7_missing 51 = .ok (.getfield 10, 3) := by decide +kernel
theorem dX7_missing_54 : decode cX7_missing 54 = .ok (.getfield 107, 3) := by decide +kernel
theorem dX7_missing_57 : decode cX7_missing 57 = .ok (.iload_n 3, 1) := by decide +kernel
theorem dX7_missing_58 : decode cX7_missing 58 = .ok (.iaload, 1) := by decide +kernel
theorem dX7_missing_59 : decode cX7_missing 59 = .ok (.ifCond .le 33, 3) := by decide +kernel
theorem dX7_missing_62 : decode cX7_missing 62 = .ok (.iload_n 2, 1) := by decide +kernel
theorem dX7_missing_63 : decode cX7_missing 63 = .ok (.aload_n 0, 1) := by decide +kernel
theorem dX7_missing_64 : decode cX7_missing 64 = .ok (.getfield 10, 3) := by decide +kernel
theorem dX7_missing_67 : decode cX7_missing 67 = .ok (.getfield 107, 3) := by decide +kernel
theorem dX7_missing_70 : decode cX7_missing 70 = .ok (.iload_n 3, 1) := by decide +kernel
theorem dX7_missing_71 : decode cX7_missing 71 = .ok (.iaload, 1) := by decide +kernel
theorem dX7_missing_72 : decode cX7_missing 72 = .ok (.iadd, 1) := by decide +kernel
theorem dX7_missing_73 : decode cX7_missing 73 = .ok (.istore_n 2, 1) := by decide +kernel
theorem dX7_missing_74 : decode cX7_missing 74 = .ok (.aload_n 0, 1) := by decide +kernel
theorem dX7_missing_75 : decode cX7_missing 75 = .ok (.getfield 54, 3) := by decide +kernel
theorem dX7_missing_78 : decode cX7_missing 78 = .ok (.iload_n 3, 1) := by decide +kernel
theorem dX7_missing_79 : decode cX7_missing 79 = .ok (.aload_n 0, 1) := by decide +kernel
theorem dX7_missing_80 : decode cX7_missing 80 = .ok (.getfield 10, 3) := by decide +kernel
theorem dX7_missing_83 : decode cX7_missing 83 = .ok (.getfield 107, 3) := by decide +kernel
theorem dX7_missing_86 : decode cX7_missing 86 = .ok (.iload_n 3, 1) := by decide +kernel
theorem dX7_missing_87 : decode cX7_missing 87 = .ok (.iaload, 1) := by decide +kernel
theorem dX7_missing_88 : decode cX7_missing 88 = .ok (.ineg, 1) := by decide +kernel
theorem dX7_missing_89 : decode cX7_missing 89 = .ok (.invokevirtual 236, 3) := by decide +kernel
theorem dX7_missing_92 : decode cX7_missing 92 = .ok (.iinc 3 1, 3) := by decide +kernel
theorem dX7_missing_95 : decode cX7_missing 95 = .ok (.goto (-60), 3) := by decide +kernel
theorem dX7_missing_98 : decode cX7_missing 98 = .ok (.iload_n 1, 1) := by decide +kernel
theorem dX7_missing_99 : decode cX7_missing 99 = .ok (.ifCond .ne 7, 3) := by decide +kernel
theorem dX7_missing_102 : decode cX7_missing 102 = .ok (.iload_n 2, 1) := by decide +kernel
theorem dX7_missing_103 : decode cX7_missing 103 = .ok (.goto 10, 3) := by decide +kernel
theorem dX7_missing_106 : decode cX7_missing 106 = .ok (.aload_n 0, 1) := by decide +kernel
theorem dX7_missing_107 : decode cX7_missing 107 = .ok (.getfield 54, 3) := by decide +kernel
theorem dX7_missing_110 : decode cX7_missing 110 = .ok (.getfield 195, 3) := by decide +kernel
theorem dX7_missing_113 : decode cX7_missing 113 = .ok (.ireturn, 1) := by decide +kernel
theorem dX7_lies_0 : decode cX7_lies 0 = .ok (.aload_n 0, 1) := by decide +kernel
theorem dX7_lies_1 : decode cX7_lies 1 = .ok (.getfield 10, 3) := by decide +kernel
theorem dX7_lies_4 : decode cX7_lies 4 = .ok (.iload_n 1, 1) := by decide +kernel
theorem dX7_lies_5 : decode cX7_lies 5 = .ok (.invokevirtual 130, 3) := by decide +kernel
theorem dX7_lies_8 : decode cX7_lies 8 = .ok (.ifCond .ne 6, 3) := by decide +kernel
theorem dX7_lies_11 : decode cX7_lies 11 = .ok (.bipush (-2), 2) := by decide +kernel
theorem dX7_lies_13 : decode cX7_lies 13 = .ok (.ireturn, 1) := by decide +kernel
theorem dX7_lies_14 : decode cX7_lies 14 = .ok (.iconst 0, 1) := by decide +kernel
theorem dX7_lies_15 : decode cX7_lies 15 = .ok (.istore_n 2, 1) := by decide +kernel
theorem dX7_lies_16 : decode cX7_lies 16 = .ok (.iconst 0, 1) := by decide +kernel
theorem dX7_lies_17 : decode cX7_lies 17 = .ok (.istore_n 3, 1) := by decide +kernel
theorem dX7_lies_18 : decode cX7_lies 18 = .ok (.iload_n 3, 1) := by decide +kernel
theorem dX7_lies_19 : decode cX7_lies 19 = .ok (.bipush 20, 2) := by decide +kernel
theorem dX7_lies_21 : decode cX7_lies 21 = .ok (.if_icmp .ge 63, 3) := by decide +kernel
theorem dX7_lies_24 : decode cX7_lies 24 = .ok (.iload_n 1, 1) := by decide +kernel
theorem dX7_lies_25 : decode cX7_lies 25 = .ok (.bipush 20, 2) := by decide +kernel
theorem dX7_lies_27 : decode cX7_lies 27 = .ok (.imul, 1) := by decide +kernel
theorem dX7_lies_28 : decode cX7_lies 28 = .ok (.iload_n 3, 1) := by decide +kernel
theorem dX7_lies_29 : decode cX7_lies 29 = .ok (.iadd, 1) := by decide +kernel
theorem dX7_lies_30 : decode cX7_lies 30 = .ok (.istore 4, 2) := by decide +kernel
theorem dX7_lies_32 : decode cX7_lies 32 = .ok (.aload_n 0, 1) := by decide +kernel
theorem dX7_lies_33 : decode cX7_lies 33 = .ok (.getfield 10, 3) := by decide +kernel
theorem dX7_lies_36 : decode cX7_lies 36 = .ok (.iload 4, 2) := by decide +kernel
theorem dX7_lies_38 : decode cX7_lies 38 = .ok (.invokevirtual 229, 3) := by decide +kernel
theorem dX7_lies_41 : decode cX7_lies 41 = .ok (.ifCond .eq 37, 3) := by decide +kernel
theorem dX7_lies_44 : decode cX7_lies 44 = .ok (.aload_n 0, 1) := by decide +kernel
theorem dX7_lies_45 : decode cX7_lies 45 = .ok (.getfield 10, 3) := by decide +kernel
theorem dX7_lies_48 : decode cX7_lies 48 = .ok (.aload_n 0, 1) := by decide +kernel
theorem dX7_lies_49 : decode cX7_lies 49 = .ok (.getfield 10, 3) := by decide +kernel
theorem dX7_lies_52 : decode cX7_lies 52 = .ok (.iload 4, 2) := by decide +kernel
theorem dX7_lies_54 : decode cX7_lies 54 = .ok (.invokevirtual 243, 3) := by decide +kernel
theorem dX7_lies_57 : decode cX7_lies 57 = .ok (.aload_n 0, 1) := by decide +kernel
theorem dX7_lies_58 : decode cX7_lies 58 = .ok (.getfield 10, 3) := by decide +kernel
theorem dX7_lies_61 : decode cX7_lies 61 = .ok (.iload 4, 2) := by decide +kernel
theorem dX7_lies_63 : decode cX7_lies 63 = .ok (.invokevirtual 246, 3) := by decide +kernel
theorem dX7_lies_66 : decode cX7_lies 66 = .ok (.invokevirtual 276, 3) := by decide +kernel
theorem dX7_lies_69 : decode cX7_lies 69 = .ok (.ifCond .ne 9, 3) := by decide +kernel
theorem dX7_lies_72 : decode cX7_lies 72 = .ok (.iload_n 2, 1) := by decide +kernel
theorem dX7_lies_73 : decode cX7_lies 73 = .ok (.iconst 1, 1) := by decide +kernel
theorem dX7_lies_74 : decode cX7_lies 74 = .ok (.iload_n 3, 1) := by decide +kernel
theorem dX7_lies_75 : decode cX7_lies 75 = .ok (.ishl, 1) := by decide +kernel
theorem dX7_lies_76 : decode cX7_lies 76 = .ok (.ior, 1) := by decide +kernel
theorem dX7_lies_77 : decode cX7_lies 77 = .ok (.istore_n 2, 1) := by decide +kernel
theorem dX7_lies_78 : decode cX7_lies 78 = .ok (.iinc 3 1, 3) := by decide +kernel
theorem dX7_lies_81 : decode cX7_lies 81 = .ok (.goto (-63), 3) := by decide +kernel
theorem dX7_lies_84 : decode cX7_lies 84 = .ok (.iload_n 2, 1) := by decide +kernel
theorem dX7_lies_85 : decode cX7_lies 85 = .ok (.ireturn, 1) := by decide +kernel
theorem dX7_markFitted_0 : decode cX7_markFitted 0 = .ok (.aload_n 0, 1) := by decide +kernel
theorem dX7_markFitted_1 : decode cX7_markFitted 1 = .ok (.getfield 47, 3) := by decide +kernel
theorem dX7_markFitted_4 : decode cX7_markFitted 4 = .ok (.iconst 0, 1) := by decide +kernel
theorem dX7_markFitted_5 : decode cX7_markFitted 5 = .ok (.invokestatic 279, 3) := by decide +kernel
theorem dX7_markFitted_8 : decode cX7_markFitted 8 = .ok (.iload_n 1, 1) := by decide +kernel
theorem dX7_markFitted_9 : decode cX7_markFitted 9 = .ok (.istore_n 3, 1) := by decide +kernel
theorem dX7_markFitted_10 : decode cX7_markFitted 10 = .ok (.iload_n 3, 1) := by decide +kernel
theorem dX7_markFitted_11 : decode cX7_markFitted 11 = .ok (.iload_n 2, 1) := by decide +kernel
theorem dX7_markFitted_12 : decode cX7_markFitted 12 = .ok (.if_icmp .ge 61, 3) := by decide +kernel
theorem dX7_markFitted_15 : decode cX7_markFitted 15 = .ok (.aload_n 0, 1) := by decide +kernel
theorem dX7_markFitted_16 : decode cX7_markFitted 16 = .ok (.getfield 10, 3) := by decide +kernel
theorem dX7_markFitted_19 : decode cX7_markFitted 19 = .ok (.iload_n 3, 1) := by decide +kernel
theorem dX7_markFitted_20 : decode cX7_markFitted 20 = .ok (.invokevirtual 229, 3) := by decide +kernel
theorem dX7_markFitted_23 : decode cX7_markFitted 23 = .ok (.ifCond .eq 44, 3) := by decide +kernel
theorem dX7_markFitted_26 : decode cX7_markFitted 26 = .ok (.aload_n 0, 1) := by decide +kernel
theorem dX7_markFitted_27 : decode cX7_markFitted 27 = .ok (.getfield 10, 3) := by decide +kernel
theorem dX7_markFitted_30 : decode cX7_markFitted 30 = .ok (.iload_n 3, 1) := by decide +kernel
theorem dX7_markFitted_31 : decode cX7_markFitted 31 = .ok (.invokevirtual 246, 3) := by decide +kernel
theorem dX7_markFitted_34 : decode cX7_markFitted 34 = .ok (.istore 4, 2) := by decide +kernel
theorem dX7_markFitted_36 : decode cX7_markFitted 36 = .ok (.aload_n 0, 1) := by decide +kernel
theorem dX7_markFitted_37 : decode cX7_markFitted 37 = .ok (.getfield 10, 3) := by decide +kernel
theorem dX7_markFitted_40 : decode cX7_markFitted 40 = .ok (.iload_n 3, 1) := by decide +kernel
theorem dX7_markFitted_41 : decode cX7_markFitted 41 = .ok (.invokevirtual 243, 3) := by decide +kernel
theorem dX7_markFitted_44 : decode cX7_markFitted 44 = .ok (.istore 5, 2) := by decide +kernel
theorem dX7_markFitted_46 : decode cX7_markFitted 46 = .ok (.iload 5, 2) := by decide +kernel
theorem dX7_markFitted_48 : decode cX7_markFitted 48 = .ok (.iload 4, 2) := by decide +kernel
theorem dX7_markFitted_50 : decode cX7_markFitted 50 = .ok (.if_icmp .gt 17, 3) := by decide +kernel
theorem dX7_markFitted_53 : decode cX7_markFitted 53 = .ok (.aload_n 0, 1) := by decide +kernel
theorem dX7_markFitted_54 : decode cX7_markFitted 54 = .ok (.getfield 47, 3) := by decide +kernel
theorem dX7_markFitted_57 : decode cX7_markFitted 57 = .ok (.iload 5, 2) := by decide +kernel
theorem dX7_markFitted_59 : decode cX7_markFitted 59 = .ok (.iconst 1, 1) := by decide +kernel
theorem dX7_markFitted_60 : decode cX7_markFitted 60 = .ok (.iastore, 1) := by decide +kernel
theorem dX7_markFitted_61 : decode cX7_markFitted 61 = .ok (.iinc 5 1, 3) := by decide +kernel
theorem dX7_markFitted_64 : decode cX7_markFitted 64 = .ok (.goto (-18), 3) := by decide +kernel
theorem dX7_markFitted_67 : decode cX7_markFitted 67 = .ok (.iinc 3 1, 3) := by decide +kernel
theorem dX7_markFitted_70 : decode cX7_markFitted 70 = .ok (.goto (-60), 3) := by decide +kernel
theorem dX7_markFitted_73 : decode cX7_markFitted 73 = .ok (.return_, 1) := by decide +kernel
theorem dX7_servedBySet_0 : decode cX7_servedBySet 0 = .ok (.iconst 0, 1) := by decide +kernel
theorem dX7_servedBySet_1 : decode cX7_servedBySet 1 = .ok (.istore_n 3, 1) := by decide +kernel
theorem dX7_servedBySet_2 : decode cX7_servedBySet 2 = .ok (.bipush 100, 2) := by decide +kernel
theorem dX7_servedBySet_4 : decode cX7_servedBySet 4 = .ok (.istore 4, 2) := by decide +kernel
theorem dX7_servedBySet_6 : decode cX7_servedBySet 6 = .ok (.bipush 19, 2) := by decide +kernel
theorem dX7_servedBySet_8 : decode cX7_servedBySet 8 = .ok (.istore 5, 2) := by decide +kernel
theorem dX7_servedBySet_10 : decode cX7_servedBySet 10 = .ok (.iload 5, 2) := by decide +kernel
theorem dX7_servedBySet_12 : decode cX7_servedBySet 12 = .ok (.ifCond .lt 76, 3) := by decide +kernel
theorem dX7_servedBySet_15 : decode cX7_servedBySet 15 = .ok (.iload_n 2, 1) := by decide +kernel
theorem dX7_servedBySet_16 : decode cX7_servedBySet 16 = .ok (.iload 5, 2) := by decide +kernel
theorem dX7_servedBySet_18 : decode cX7_servedBySet 18 = .ok (.ishr, 1) := by decide +kernel
theorem dX7_servedBySet_19 : decode cX7_servedBySet 19 = .ok (.iconst 1, 1) := by decide +kernel
theorem dX7_servedBySet_20 : decode cX7_servedBySet 20 = .ok (.iand, 1) := by decide +kernel
theorem dX7_servedBySet_21 : decode cX7_servedBySet 21 = .ok (.iconst 1, 1) := by decide +kernel
theorem dX7_servedBySet_22 : decode cX7_servedBySet 22 = .ok (.if_icmp .ne 60, 3) := by decide +kernel
theorem dX7_servedBySet_25 : decode cX7_servedBySet 25 = .ok (.iload_n 1, 1) := by decide +kernel
theorem dX7_servedBySet_26 : decode cX7_servedBySet 26 = .ok (.bipush 20, 2) := by decide +kernel
theorem dX7_servedBySet_28 : decode cX7_servedBySet 28 = .ok (.imul, 1) := by decide +kernel
theorem dX7_servedBySet_29 : decode cX7_servedBySet 29 = .ok (.iload 5, 2) := by decide +kernel
theorem dX7_servedBySet_31 : decode cX7_servedBySet 31 = .ok (.iadd, 1) := by decide +kernel
theorem dX7_servedBySet_32 : decode cX7_servedBySet 32 = .ok (.istore 6, 2) := by decide +kernel
theorem dX7_servedBySet_34 : decode cX7_servedBySet 34 = .ok (.aload_n 0, 1) := by decide +kernel
theorem dX7_servedBySet_35 : decode cX7_servedBySet 35 = .ok (.getfield 10, 3) := by decide +kernel
theorem dX7_servedBySet_38 : decode cX7_servedBySet 38 = .ok (.iload 6, 2) := by decide +kernel
theorem dX7_servedBySet_40 : decode cX7_servedBySet 40 = .ok (.invokevirtual 243, 3) := by decide +kernel
theorem dX7_servedBySet_43 : decode cX7_servedBySet 43 = .ok (.istore 7, 2) := by decide +kernel
theorem dX7_servedBySet_45 : decode cX7_servedBySet 45 = .ok (.iload_n 3, 1) := by decide +kernel
theorem dX7_servedBySet_46 : decode cX7_servedBySet 46 = .ok (.aload_n 0, 1) := by decide +kernel
theorem dX7_servedBySet_47 : decode cX7_servedBySet 47 = .ok (.getfield 10, 3) := by decide +kernel
theorem dX7_servedBySet_50 : decode cX7_servedBySet 50 = .ok (.iload 7, 2) := by decide +kernel
theorem dX7_servedBySet_52 : decode cX7_servedBySet 52 = .ok (.aload_n 0, 1) := by decide +kernel
theorem dX7_servedBySet_53 : decode cX7_servedBySet 53 = .ok (.getfield 10, 3) := by decide +kernel
theorem dX7_servedBySet_56 : decode cX7_servedBySet 56 = .ok (.iload 6, 2) := by decide +kernel
theorem dX7_servedBySet_58 : decode cX7_servedBySet 58 = .ok (.invokevirtual 246, 3) := by decide +kernel
theorem dX7_servedBySet_61 : decode cX7_servedBySet 61 = .ok (.iload 4, 2) := by decide +kernel
theorem dX7_servedBySet_63 : decode cX7_servedBySet 63 = .ok (.iconst 1, 1) := by decide +kernel
theorem dX7_servedBySet_64 : decode cX7_servedBySet 64 = .ok (.isub, 1) := by decide +kernel
theorem dX7_servedBySet_65 : decode cX7_servedBySet 65 = .ok (.invokestatic 165, 3) := by decide +kernel
theorem dX7_servedBySet_68 : decode cX7_servedBySet 68 = .ok (.invokevirtual 276, 3) := by decide +kernel
theorem dX7_servedBySet_71 : decode cX7_servedBySet 71 = .ok (.iadd, 1) := by decide +kernel
theorem dX7_servedBySet_72 : decode cX7_servedBySet 72 = .ok (.istore_n 3, 1) := by decide +kernel
theorem dX7_servedBySet_73 : decode cX7_servedBySet 73 = .ok (.iload 4, 2) := by decide +kernel
theorem dX7_servedBySet_75 : decode cX7_servedBySet 75 = .ok (.iload 7, 2) := by decide +kernel
theorem dX7_servedBySet_77 : decode cX7_servedBySet 77 = .ok (.invokestatic 165, 3) := by decide +kernel
theorem dX7_servedBySet_80 : decode cX7_servedBySet 80 = .ok (.istore 4, 2) := by decide +kernel
theorem dX7_servedBySet_82 : decode cX7_servedBySet 82 = .ok (.iinc 5 (-1), 3) := by decide +kernel
theorem dX7_servedBySet_85 : decode cX7_servedBySet 85 = .ok (.goto (-75), 3) := by decide +kernel
theorem dX7_servedBySet_88 : decode cX7_servedBySet 88 = .ok (.iload_n 3, 1) := by decide +kernel
theorem dX7_servedBySet_89 : decode cX7_servedBySet 89 = .ok (.ireturn, 1) := by decide +kernel
theorem dX7_nextSet_0 : decode cX7_nextSet 0 = .ok (.iload_n 0, 1) := by decide +kernel
theorem dX7_nextSet_1 : decode cX7_nextSet 1 = .ok (.ifCond .gt 7, 3) := by decide +kernel
theorem dX7_nextSet_4 : decode cX7_nextSet 4 = .ok (.ldc_w 285, 3) := by decide +kernel
theorem dX7_nextSet_7 : decode cX7_nextSet 7 = .ok (.ireturn, 1) := by decide +kernel
theorem dX7_nextSet_8 : decode cX7_nextSet 8 = .ok (.iload_n 0, 1) := by decide +kernel
theorem dX7_nextSet_9 : decode cX7_nextSet 9 = .ok (.iload_n 0, 1) := by decide +kernel
theorem dX7_nextSet_10 : decode cX7_nextSet 10 = .ok (.ineg, 1) := by decide +kernel
theorem dX7_nextSet_11 : decode cX7_nextSet 11 = .ok (.iand, 1) := by decide +kernel
theorem dX7_nextSet_12 : decode cX7_nextSet 12 = .ok (.istore_n 1, 1) := by decide +kernel
theorem dX7_nextSet_13 : decode cX7_nextSet 13 = .ok (.iload_n 0, 1) := by decide +kernel
theorem dX7_nextSet_14 : decode cX7_nextSet 14 = .ok (.iload_n 1, 1) := by decide +kernel
theorem dX7_nextSet_15 : decode cX7_nextSet 15 = .ok (.iadd, 1) := by decide +kernel
theorem dX7_nextSet_16 : decode cX7_nextSet 16 = .ok (.istore_n 2, 1) := by decide +kernel
theorem dX7_nextSet_17 : decode cX7_nextSet 17 = .ok (.iload_n 2, 1) := by decide +kernel
theorem dX7_nextSet_18 : decode cX7_nextSet 18 = .ok (.iload_n 0, 1) := by decide +kernel
theorem dX7_nextSet_19 : decode cX7_nextSet 19 = .ok (.iload_n 2, 1) := by decide +kernel
theorem dX7_nextSet_20 : decode cX7_nextSet 20 = .ok (.ixor, 1) := by decide +kernel
theorem dX7_nextSet_21 : decode cX7_nextSet 21 = .ok (.iconst 2, 1) := by decide +kernel
theorem dX7_nextSet_22 : decode cX7_nextSet 22 = .ok (.iload_n 0, 1) := by decide +kernel
theorem dX7_nextSet_23 : decode cX7_nextSet 23 = .ok (.invokestatic 286, 3) := by decide +kernel
theorem dX7_nextSet_26 : decode cX7_nextSet 26 = .ok (.iadd, 1) := by decide +kernel
theorem dX7_nextSet_27 : decode cX7_nextSet 27 = .ok (.ishr, 1) := by decide +kernel
theorem dX7_nextSet_28 : decode cX7_nextSet 28 = .ok (.ior, 1) := by decide +kernel
theorem dX7_nextSet_29 : decode cX7_nextSet 29 = .ok (.ireturn, 1) := by decide +kernel
theorem dX7_runs_0 : decode cX7_runs 0 = .ok (.iload_n 1, 1) := by decide +kernel
theorem dX7_runs_1 : decode cX7_runs 1 = .ok (.invokestatic 173, 3) := by decide +kernel
theorem dX7_runs_4 : decode cX7_runs 4 = .ok (.ifCond .eq 32, 3) := by decide +kernel
theorem dX7_runs_7 : decode cX7_runs 7 = .ok (.aload_n 0, 1) := by decide +kernel
theorem dX7_runs_8 : decode cX7_runs 8 = .ok (.getfield 10, 3) := by decide +kernel
theorem dX7_runs_11 : decode cX7_runs 11 = .ok (.iload_n 2, 1) := by decide +kernel
theorem dX7_runs_12 : decode cX7_runs 12 = .ok (.invokevirtual 130, 3) := by decide +kernel
theorem dX7_runs_15 : decode cX7_runs 15 = .ok (.ifCond .eq 21, 3) := by decide +kernel
theorem dX7_runs_18 : decode cX7_runs 18 = .ok (.iload_n 3, 1) := by decide +kernel
theorem dX7_runs_19 : decode cX7_runs 19 = .ok (.invokestatic 126, 3) := by decide +kernel
theorem dX7_runs_22 : decode cX7_runs 22 = .ok (.ifCond .eq 14, 3) := by decide +kernel
theorem dX7_runs_25 : decode cX7_runs 25 = .ok (.iload 4, 2) := by decide +kernel
theorem dX7_runs_27 : decode cX7_runs 27 = .ok (.ifCond .lt 9, 3) := by decide +kernel
theorem dX7_runs_30 : decode cX7_runs 30 = .ok (.iload 4, 2) := by decide +kernel
theorem dX7_runs_32 : decode cX7_runs 32 = .ok (.iconst 1, 1) := by decide +kernel
theorem dX7_runs_33 : decode cX7_runs 33 = .ok (.if_icmp .le 6, 3) := by decide +kernel
theorem dX7_runs_36 : decode cX7_runs 36 = .ok (.bipush (-2), 2) := by decide +kernel
theorem dX7_runs_38 : decode cX7_runs 38 = .ok (.ireturn, 1) := by decide +kernel
theorem dX7_runs_39 : decode cX7_runs 39 = .ok (.aload_n 0, 1) := by decide +kernel
theorem dX7_runs_40 : decode cX7_runs 40 = .ok (.iload_n 1, 1) := by decide +kernel
theorem dX7_runs_41 : decode cX7_runs 41 = .ok (.invokevirtual 176, 3) := by decide +kernel
theorem dX7_runs_44 : decode cX7_runs 44 = .ok (.istore 5, 2) := by decide +kernel
theorem dX7_runs_46 : decode cX7_runs 46 = .ok (.iload 5, 2) := by decide +kernel
theorem dX7_runs_48 : decode cX7_runs 48 = .ok (.ifCond .eq 6, 3) := by decide +kernel
theorem dX7_runs_51 : decode cX7_runs 51 = .ok (.iload 5, 2) := by decide +kernel
theorem dX7_runs_53 : decode cX7_runs 53 = .ok (.ireturn, 1) := by decide +kernel
theorem dX7_runs_54 : decode cX7_runs 54 = .ok (.iconst 0, 1) := by decide +kernel
theorem dX7_runs_55 : decode cX7_runs 55 = .ok (.istore 6, 2) := by decide +kernel
theorem dX7_runs_57 : decode cX7_runs 57 = .ok (.iconst 0, 1) := by decide +kernel
theorem dX7_runs_58 : decode cX7_runs 58 = .ok (.istore 7, 2) := by decide +kernel
theorem dX7_runs_60 : decode cX7_runs 60 = .ok (.iload 7, 2) := by decide +kernel
theorem dX7_runs_62 : decode cX7_runs 62 = .ok (.iload 4, 2) := by decide +kernel
theorem dX7_runs_64 : decode cX7_runs 64 = .ok (.ifCond .ne 8, 3) := by decide +kernel
theorem dX7_runs_67 : decode cX7_runs 67 = .ok (.bipush 19, 2) := by decide +kernel
theorem dX7_runs_69 : decode cX7_runs 69 = .ok (.goto 5, 3) := by decide +kernel
theorem dX7_runs_72 : decode cX7_runs 72 = .ok (.bipush 6, 2) := by decide +kernel
theorem dX7_runs_74 : decode cX7_runs 74 = .ok (.if_icmp .ge 77, 3) := by decide +kernel
theorem dX7_runs_77 : decode cX7_runs 77 = .ok (.iload 4, 2) := by decide +kernel
theorem dX7_runs_79 : decode cX7_runs 79 = .ok (.ifCond .ne 15, 3) := by decide +kernel
theorem dX7_runs_82 : decode cX7_runs 82 = .ok (.aload_n 0, 1) := by decide +kernel
theorem dX7_runs_83 : decode cX7_runs 83 = .ok (.getfield 10, 3) := by decide +kernel
theorem dX7_runs_86 : decode cX7_runs 86 = .ok (.getfield 123, 3) := by decide +kernel
theorem dX7_runs_89 : decode cX7_runs 89 = .ok (.iload_n 2, 1) := by decide +kernel
theorem dX7_runs_90 : decode cX7_runs 90 = .ok (.iaload, 1) := by decide +kernel
theorem dX7_runs_91 : decode cX7_runs 91 = .ok (.goto 5, 3) := by decide +kernel
theorem dX7_runs_94 : decode cX7_runs 94 = .ok (.iload 7, 2) := by decide +kernel
theorem dX7_runs_96 : decode cX7_runs 96 = .ok (.istore 8, 2) := by decide +kernel
theorem dX7_runs_98 : decode cX7_runs 98 = .ok (.iload 4, 2) := by decide +kernel
theorem dX7_runs_100 : decode cX7_runs 100 = .ok (.ifCond .ne 11, 3) := by decide +kernel
theorem dX7_runs_103 : decode cX7_runs 103 = .ok (.iload 7, 2) := by decide +kernel
theorem dX7_runs_105 : decode cX7_runs 105 = .ok (.bipush 9, 2) := by decide +kernel
theorem dX7_runs_107 : decode cX7_runs 107 = .ok (.isub, 1) := by decide +kernel
theorem dX7_runs_108 : decode cX7_runs 108 = .ok (.goto 12, 3) := by decide +kernel
theorem dX7_runs_111 : decode cX7_runs 111 = .ok (.aload_n 0, 1) := by decide +kernel
theorem dX7_runs_112 : decode cX7_runs 112 = .ok (.getfield 10, 3) := by decide +kernel
theorem dX7_runs_115 : decode cX7_runs 115 = .ok (.getfield 113, 3) := by decide +kernel
theorem dX7_runs_118 : decode cX7_runs 118 = .ok (.iload_n 2, 1) := by decide +kernel
theorem dX7_runs_119 : decode cX7_runs 119 = .ok (.iaload, 1) := by decide +kernel
theorem dX7_runs_120 : decode cX7_runs 120 = .ok (.istore 9, 2) := by decide +kernel
theorem dX7_runs_122 : decode cX7_runs 122 = .ok (.aload_n 0, 1) := by decide +kernel
theorem dX7_runs_123 : decode cX7_runs 123 = .ok (.iload_n 1, 1) := by decide +kernel
theorem dX7_runs_124 : decode cX7_runs 124 = .ok (.iload_n 2, 1) := by decide +kernel
theorem dX7_runs_125 : decode cX7_runs 125 = .ok (.iload_n 3, 1) := by decide +kernel
theorem dX7_runs_126 : decode cX7_runs 126 = .ok (.iload 8, 2) := by decide +kernel
theorem dX7_runs_128 : decode cX7_runs 128 = .ok (.iload 9, 2) := by decide +kernel
theorem dX7_runs_130 : decode cX7_runs 130 = .ok (.invokevirtual 291, 3) := by decide +kernel
theorem dX7_runs_133 : decode cX7_runs 133 = .ok (.ifCond .eq 12, 3) := by decide +kernel
theorem dX7_runs_136 : decode cX7_runs 136 = .ok (.iload 6, 2) := by decide +kernel
theorem dX7_runs_138 : decode cX7_runs 138 = .ok (.iconst 1, 1) := by decide +kernel
theorem dX7_runs_139 : decode cX7_runs 139 = .ok (.iload 7, 2) := by decide +kernel
theorem dX7_runs_141 : decode cX7_runs 141 = .ok (.ishl, 1) := by decide +kernel
theorem dX7_runs_142 : decode cX7_runs 142 = .ok (.ior, 1) := by decide +kernel
theorem dX7_runs_143 : decode cX7_runs 143 = .ok (.istore 6, 2) := by decide +kernel
theorem dX7_runs_145 : decode cX7_runs 145 = .ok (.iinc 7 1, 3) := by decide +kernel
theorem dX7_runs_148 : decode cX7_runs 148 = .ok (.goto (-88), 3) := by decide +kernel
theorem dX7_runs_151 : decode cX7_runs 151 = .ok (.iload 6, 2) := by decide +kernel
theorem dX7_runs_153 : decode cX7_runs 153 = .ok (.ireturn, 1) := by decide +kernel
theorem dX7_rowsHold_0 : decode cX7_rowsHold 0 = .ok (.aload_n 0, 1) := by decide +kernel
theorem dX7_rowsHold_1 : decode cX7_rowsHold 1 = .ok (.getfield 10, 3) := by decide +kernel
theorem dX7_rowsHold_4 : decode cX7_rowsHold 4 = .ok (.getfield 110, 3) := by decide +kernel
theorem dX7_rowsHold_7 : decode cX7_rowsHold 7 = .ok (.iload_n 2, 1) := by decide +kernel
theorem dX7_rowsHold_8 : decode cX7_rowsHold 8 = .ok (.iaload, 1) := by decide +kernel
theorem dX7_rowsHold_9 : decode cX7_rowsHold 9 = .ok (.istore 6, 2) := by decide +kernel
theorem dX7_rowsHold_11 : decode cX7_rowsHold 11 = .ok (.iconst 0, 1) := by decide +kernel
theorem dX7_rowsHold_12 : decode cX7_rowsHold 12 = .ok (.istore 7, 2) := by decide +kernel
theorem dX7_rowsHold_14 : decode cX7_rowsHold 14 = .ok (.iload 7, 2) := by decide +kernel
theorem dX7_rowsHold_16 : decode cX7_rowsHold 16 = .ok (.iconst 1, 1) := by decide +kernel
theorem dX7_rowsHold_17 : decode cX7_rowsHold 17 = .ok (.iadd, 1) := by decide +kernel
theorem dX7_rowsHold_18 : decode cX7_rowsHold 18 = .ok (.aload_n 0, 1) := by decide +kernel
theorem dX7_rowsHold_19 : decode cX7_rowsHold 19 = .ok (.getfield 36, 3) := by decide +kernel
theorem dX7_rowsHold_22 : decode cX7_rowsHold 22 = .ok (.getfield 210, 3) := by decide +kernel
theorem dX7_rowsHold_25 : decode cX7_rowsHold 25 = .ok (.iload_n 1, 1) := by decide +kernel
theorem dX7_rowsHold_26 : decode cX7_rowsHold 26 = .ok (.iaload, 1) := by decide +kernel
theorem dX7_rowsHold_27 : decode cX7_rowsHold 27 = .ok (.if_icmp .ge 78, 3) := by decide +kernel
theorem dX7_rowsHold_30 : decode cX7_rowsHold 30 = .ok (.aload_n 0, 1) := by decide +kernel
theorem dX7_rowsHold_31 : decode cX7_rowsHold 31 = .ok (.getfield 36, 3) := by decide +kernel
theorem dX7_rowsHold_34 : decode cX7_rowsHold 34 = .ok (.getfield 212, 3) := by decide +kernel
theorem dX7_rowsHold_37 : decode cX7_rowsHold 37 = .ok (.iload_n 1, 1) := by decide +kernel
theorem dX7_rowsHold_38 : decode cX7_rowsHold 38 = .ok (.aaload, 1) := by decide +kernel
theorem dX7_rowsHold_39 : decode cX7_rowsHold 39 = .ok (.iload 7, 2) := by decide +kernel
theorem dX7_rowsHold_41 : decode cX7_rowsHold 41 = .ok (.iaload, 1) := by decide +kernel
theorem dX7_rowsHold_42 : decode cX7_rowsHold 42 = .ok (.istore 8, 2) := by decide +kernel
theorem dX7_rowsHold_44 : decode cX7_rowsHold 44 = .ok (.iload 8, 2) := by decide +kernel
theorem dX7_rowsHold_46 : decode cX7_rowsHold 46 = .ok (.bipush 20, 2) := by decide +kernel
theorem dX7_rowsHold_48 : decode cX7_rowsHold 48 = .ok (.idiv, 1) := by decide +kernel
theorem dX7_rowsHold_49 : decode cX7_rowsHold 49 = .ok (.iload_n 2, 1) := by decide +kernel
theorem dX7_rowsHold_50 : decode cX7_rowsHold 50 = .ok (.if_icmp .ne 49, 3) := by decide +kernel
theorem dX7_rowsHold_53 : decode cX7_rowsHold 53 = .ok (.iload 4, 2) := by decide +kernel
theorem dX7_rowsHold_55 : decode cX7_rowsHold 55 = .ok (.iload 6, 2) := by decide +kernel
theorem dX7_rowsHold_57 : decode cX7_rowsHold 57 = .ok (.iload 5, 2) := by decide +kernel
theorem dX7_rowsHold_59 : decode cX7_rowsHold 59 = .ok (.iload 8, 2) := by decide +kernel
theorem dX7_rowsHold_61 : decode cX7_rowsHold 61 = .ok (.bipush 20, 2) := by decide +kernel
theorem dX7_rowsHold_63 : decode cX7_rowsHold 63 = .ok (.irem, 1) := by decide +kernel
theorem dX7_rowsHold_64 : decode cX7_rowsHold 64 = .ok (.invokestatic 295, 3) := by decide +kernel
theorem dX7_rowsHold_67 : decode cX7_rowsHold 67 = .ok (.iload_n 3, 1) := by decide +kernel
theorem dX7_rowsHold_68 : decode cX7_rowsHold 68 = .ok (.isub, 1) := by decide +kernel
theorem dX7_rowsHold_69 : decode cX7_rowsHold 69 = .ok (.istore 9, 2) := by decide +kernel
theorem dX7_rowsHold_71 : decode cX7_rowsHold 71 = .ok (.iload 4, 2) := by decide +kernel
theorem dX7_rowsHold_73 : decode cX7_rowsHold 73 = .ok (.iload 6, 2) := by decide +kernel
theorem dX7_rowsHold_75 : decode cX7_rowsHold 75 = .ok (.iload 9, 2) := by decide +kernel
theorem dX7_rowsHold_77 : decode cX7_rowsHold 77 = .ok (.invokestatic 300, 3) := by decide +kernel
theorem dX7_rowsHold_80 : decode cX7_rowsHold 80 = .ok (.aload_n 0, 1) := by decide +kernel
theorem dX7_rowsHold_81 : decode cX7_rowsHold 81 = .ok (.getfield 36, 3) := by decide +kernel
theorem dX7_rowsHold_84 : decode cX7_rowsHold 84 = .ok (.getfield 212, 3) := by decide +kernel
theorem dX7_rowsHold_87 : decode cX7_rowsHold 87 = .ok (.iload_n 1, 1) := by decide +kernel
theorem dX7_rowsHold_88 : decode cX7_rowsHold 88 = .ok (.aaload, 1) := by decide +kernel
theorem dX7_rowsHold_89 : decode cX7_rowsHold 89 = .ok (.iload 7, 2) := by decide +kernel
theorem dX7_rowsHold_91 : decode cX7_rowsHold 91 = .ok (.iconst 1, 1) := by decide +kernel
theorem dX7_rowsHold_92 : decode cX7_rowsHold 92 = .ok (.iadd, 1) := by decide +kernel
theorem dX7_rowsHold_93 : decode cX7_rowsHold 93 = .ok (.iaload, 1) := by decide +kernel
theorem dX7_rowsHold_94 : decode cX7_rowsHold 94 = .ok (.if_icmp .eq 5, 3) := by decide +kernel
theorem dX7_rowsHold_97 : decode cX7_rowsHold 97 = .ok (.iconst 0, 1) := by decide +kernel
theorem dX7_rowsHold_98 : decode cX7_rowsHold 98 = .ok (.ireturn, 1) := by decide +kernel
theorem dX7_rowsHold_99 : decode cX7_rowsHold 99 = .ok (.iinc 7 2, 3) := by decide +kernel
theorem dX7_rowsHold_102 : decode cX7_rowsHold 102 = .ok (.goto (-88), 3) := by decide +kernel
theorem dX7_rowsHold_105 : decode cX7_rowsHold 105 = .ok (.iconst 1, 1) := by decide +kernel
theorem dX7_rowsHold_106 : decode cX7_rowsHold 106 = .ok (.ireturn, 1) := by decide +kernel
theorem dX7_film_0 : decode cX7_film 0 = .ok (.iload_n 1, 1) := by decide +kernel
theorem dX7_film_1 : decode cX7_film 1 = .ok (.invokestatic 173, 3) := by decide +kernel
theorem dX7_film_4 : decode cX7_film 4 = .ok (.ifCond .eq 20, 3) := by decide +kernel
theorem dX7_film_7 : decode cX7_film 7 = .ok (.iload_n 2, 1) := by decide +kernel
theorem dX7_film_8 : decode cX7_film 8 = .ok (.invokestatic 126, 3) := by decide +kernel
theorem dX7_film_11 : decode cX7_film 11 = .ok (.ifCond .eq 13, 3) := by decide +kernel
theorem dX7_film_14 : decode cX7_film 14 = .ok (.iload_n 3, 1) := by decide +kernel
theorem dX7_film_15 : decode cX7_film 15 = .ok (.ifCond .lt 9, 3) := by decide +kernel
theorem dX7_film_18 : decode cX7_film 18 = .ok (.iload_n 3, 1) := by decide +kernel
theorem dX7_film_19 : decode cX7_film 19 = .ok (.bipush 20, 2) := by decide +kernel
theorem dX7_film_21 : decode cX7_film 21 = .ok (.if_icmp .le 6, 3) := by decide +kernel
theorem dX7_film_24 : decode cX7_film 24 = .ok (.bipush (-2), 2) := by decide +kernel
theorem dX7_film_26 : decode cX7_film 26 = .ok (.ireturn, 1) := by decide +kernel
theorem dX7_film_27 : decode cX7_film 27 = .ok (.iload_n 3, 1) := by decide +kernel
theorem dX7_film_28 : decode cX7_film 28 = .ok (.aload_n 0, 1) := by decide +kernel
theorem dX7_film_29 : decode cX7_film 29 = .ok (.getfield 10, 3) := by decide +kernel
theorem dX7_film_32 : decode cX7_film 32 = .ok (.invokevirtual 303, 3) := by decide +kernel
theorem dX7_film_35 : decode cX7_film 35 = .ok (.invokestatic 165, 3) := by decide +kernel
theorem dX7_film_38 : decode cX7_film 38 = .ok (.istore 4, 2) := by decide +kernel
theorem dX7_film_40 : decode cX7_film 40 = .ok (.aload_n 0, 1) := by decide +kernel
theorem dX7_film_41 : decode cX7_film 41 = .ok (.getfield 36, 3) := by decide +kernel
theorem dX7_film_44 : decode cX7_film 44 = .ok (.iload_n 1, 1) := by decide +kernel
theorem dX7_film_45 : decode cX7_film 45 = .ok (.iconst 0, 1) := by decide +kernel
theorem dX7_film_46 : decode cX7_film 46 = .ok (.iconst 2, 1) := by decide +kernel
theorem dX7_film_47 : decode cX7_film 47 = .ok (.iload 4, 2) := by decide +kernel
theorem dX7_film_49 : decode cX7_film 49 = .ok (.imul, 1) := by decide +kernel
theorem dX7_film_50 : decode cX7_film 50 = .ok (.invokevirtual 306, 3) := by decide +kernel
theorem dX7_film_53 : decode cX7_film 53 = .ok (.iconst 0, 1) := by decide +kernel
theorem dX7_film_54 : decode cX7_film 54 = .ok (.istore 5, 2) := by decide +kernel
theorem dX7_film_56 : decode cX7_film 56 = .ok (.iconst 0, 1) := by decide +kernel
theorem dX7_film_57 : decode cX7_film 57 = .ok (.istore 6, 2) := by decide +kernel
theorem dX7_film_59 : decode cX7_film 59 = .ok (.iload 6, 2) := by decide +kernel
theorem dX7_film_61 : decode cX7_film 61 = .ok (.aload_n 0, 1) := by decide +kernel
theorem dX7_film_62 : decode cX7_film 62 = .ok (.getfield 10, 3) := by decide +kernel
theorem dX7_film_65 : decode cX7_film 65 = .ok (.invokevirtual 226, 3) := by decide +kernel
theorem dX7_film_68 : decode cX7_film 68 = .ok (.if_icmp .ge 69, 3) := by decide +kernel
theorem dX7_film_71 : decode cX7_film 71 = .ok (.iload 5, 2) := by decide +kernel
theorem dX7_film_73 : decode cX7_film 73 = .ok (.iload 4, 2) := by decide +kernel
theorem dX7_film_75 : decode cX7_film 75 = .ok (.if_icmp .ge 62, 3) := by decide +kernel
theorem dX7_film_78 : decode cX7_film 78 = .ok (.aload_n 0, 1) := by decide +kernel
theorem dX7_film_79 : decode cX7_film 79 = .ok (.getfield 10, 3) := by decide +kernel
theorem dX7_film_82 : decode cX7_film 82 = .ok (.iload 6, 2) := by decide +kernel
theorem dX7_film_84 : decode cX7_film 84 = .ok (.invokevirtual 229, 3) := by decide +kernel
theorem dX7_film_87 : decode cX7_film 87 = .ok (.ifCond .eq 44, 3) := by decide +kernel
theorem dX7_film_90 : decode cX7_film 90 = .ok (.aload_n 0, 1) := by decide +kernel
theorem dX7_film_91 : decode cX7_film 91 = .ok (.getfield 36, 3) := by decide +kernel
theorem dX7_film_94 : decode cX7_film 94 = .ok (.iload_n 1, 1) := by decide +kernel
theorem dX7_film_95 : decode cX7_film 95 = .ok (.iconst 2, 1) := by decide +kernel
theorem dX7_film_96 : decode cX7_film 96 = .ok (.iload 5, 2) := by decide +kernel
theorem dX7_film_98 : decode cX7_film 98 = .ok (.imul, 1) := by decide +kernel
theorem dX7_film_99 : decode cX7_film 99 = .ok (.iload 6, 2) := by decide +kernel
theorem dX7_film_101 : decode cX7_film 101 = .ok (.invokevirtual 310, 3) := by decide +kernel
theorem dX7_film_104 : decode cX7_film 104 = .ok (.aload_n 0, 1) := by decide +kernel
theorem dX7_film_105 : decode cX7_film 105 = .ok (.getfield 36, 3) := by decide +kernel
theorem dX7_film_108 : decode cX7_film 108 = .ok (.iload_n 1, 1) := by decide +kernel
theorem dX7_film_109 : decode cX7_film 109 = .ok (.iconst 2, 1) := by decide +kernel
theorem dX7_film_110 : decode cX7_film 110 = .ok (.iload 5, 2) := by decide +kernel
theorem dX7_film_112 : decode cX7_film 112 = .ok (.imul, 1) := by decide +kernel
theorem dX7_film_113 : decode cX7_film 113 = .ok (.iconst 1, 1) := by decide +kernel
theorem dX7_film_114 : decode cX7_film 114 = .ok (.iadd, 1) := by decide +kernel
theorem dX7_film_115 : decode cX7_film 115 = .ok (.aload_n 0, 1) := by decide +kernel
theorem dX7_film_116 : decode cX7_film 116 = .ok (.getfield 10, 3) := by decide +kernel
theorem dX7_film_119 : decode cX7_film 119 = .ok (.iload 6, 2) := by decide +kernel
theorem dX7_film_121 : decode cX7_film 121 = .ok (.iload_n 2, 1) := by decide +kernel
theorem dX7_film_122 : decode cX7_film 122 = .ok (.invokevirtual 142, 3) := by decide +kernel
theorem dX7_film_125 : decode cX7_film 125 = .ok (.invokevirtual 310, 3) := by decide +kernel
theorem dX7_film_128 : decode cX7_film 128 = .ok (.iinc 5 1, 3) := by decide +kernel
theorem dX7_film_131 : decode cX7_film 131 = .ok (.iinc 6 1, 3) := by decide +kernel
theorem dX7_film_134 : decode cX7_film 134 = .ok (.goto (-75), 3) := by decide +kernel
theorem dX7_film_137 : decode cX7_film 137 = .ok (.iload 4, 2) := by decide +kernel
theorem dX7_film_139 : decode cX7_film 139 = .ok (.ireturn, 1) := by decide +kernel
theorem dX7_drawn_0 : decode cX7_drawn 0 = .ok (.aload_n 0, 1) := by decide +kernel
theorem dX7_drawn_1 : decode cX7_drawn 1 = .ok (.iconst 0, 1) := by decide +kernel
theorem dX7_drawn_2 : decode cX7_drawn 2 = .ok (.aload_n 0, 1) := by decide +kernel
theorem dX7_drawn_3 : decode cX7_drawn 3 = .ok (.getfield 10, 3) := by decide +kernel
theorem dX7_drawn_6 : decode cX7_drawn 6 = .ok (.invokevirtual 226, 3) := by decide +kernel
theorem dX7_drawn_9 : decode cX7_drawn 9 = .ok (.invokevirtual 267, 3) := by decide +kernel
theorem dX7_drawn_12 : decode cX7_drawn 12 = .ok (.aload_n 0, 1) := by decide +kernel
theorem dX7_drawn_13 : decode cX7_drawn 13 = .ok (.iload_n 1, 1) := by decide +kernel
theorem dX7_drawn_14 : decode cX7_drawn 14 = .ok (.iconst 1, 1) := by decide +kernel
theorem dX7_drawn_15 : decode cX7_drawn 15 = .ok (.invokevirtual 313, 3) := by decide +kernel
theorem dX7_drawn_18 : decode cX7_drawn 18 = .ok (.ireturn, 1) := by decide +kernel
theorem dX7_chance_0 : decode cX7_chance 0 = .ok (.iload_n 2, 1) := by decide +kernel
theorem dX7_chance_1 : decode cX7_chance 1 = .ok (.iconst 1, 1) := by decide +kernel
theorem dX7_chance_2 : decode cX7_chance 2 = .ok (.if_icmp .lt 18, 3) := by decide +kernel
theorem dX7_chance_5 : decode cX7_chance 5 = .ok (.iload_n 2, 1) := by decide +kernel
theorem dX7_chance_6 : decode cX7_chance 6 = .ok (.bipush 20, 2) := by decide +kernel
theorem dX7_chance_8 : decode cX7_chance 8 = .ok (.if_icmp .gt 12, 3) := by decide +kernel
theorem dX7_chance_11 : decode cX7_chance 11 = .ok (.iload_n 3, 1) := by decide +kernel
theorem dX7_chance_12 : decode cX7_chance 12 = .ok (.ifCond .lt 8, 3) := by decide +kernel
theorem dX7_chance_15 : decode cX7_chance 15 = .ok (.iload_n 3, 1) := by decide +kernel
theorem dX7_chance_16 : decode cX7_chance 16 = .ok (.iconst 1, 1) := by decide +kernel
theorem dX7_chance_17 : decode cX7_chance 17 = .ok (.if_icmp .le 7, 3) := by decide +kernel
theorem dX7_chance_20 : decode cX7_chance 20 = .ok (.ldc2_w 317, 3) := by decide +kernel
theorem dX7_chance_23 : decode cX7_chance 23 = .ok (.lreturn, 1) := by decide +kernel
theorem dX7_chance_24 : decode cX7_chance 24 = .ok (.aload_n 0, 1) := by decide +kernel
theorem dX7_chance_25 : decode cX7_chance 25 = .ok (.iconst 0, 1) := by decide +kernel
theorem dX7_chance_26 : decode cX7_chance 26 = .ok (.aload_n 0, 1) := by decide +kernel
theorem dX7_chance_27 : decode cX7_chance 27 = .ok (.getfield 10, 3) := by decide +kernel
theorem dX7_chance_30 : decode cX7_chance 30 = .ok (.invokevirtual 226, 3) := by decide +kernel
theorem dX7_chance_33 : decode cX7_chance 33 = .ok (.invokevirtual 267, 3) := by decide +kernel
theorem dX7_chance_36 : decode cX7_chance 36 = .ok (.iconst 0, 1) := by decide +kernel
theorem dX7_chance_37 : decode cX7_chance 37 = .ok (.istore 4, 2) := by decide +kernel
theorem dX7_chance_39 : decode cX7_chance 39 = .ok (.iconst 0, 1) := by decide +kernel
theorem dX7_chance_40 : decode cX7_chance 40 = .ok (.istore 5, 2) := by decide +kernel
theorem dX7_chance_42 : decode cX7_chance 42 = .ok (.iload 5, 2) := by decide +kernel
theorem dX7_chance_44 : decode cX7_chance 44 = .ok (.iload_n 2, 1) := by decide +kernel
theorem dX7_chance_45 : decode cX7_chance 45 = .ok (.if_icmp .ge 42, 3) := by decide +kernel
theorem dX7_chance_48 : decode cX7_chance 48 = .ok (.iload 4, 2) := by decide +kernel
theorem dX7_chance_50 : decode cX7_chance 50 = .ok (.iconst 2, 1) := by decide +kernel
theorem dX7_chance_51 : decode cX7_chance 51 = .ok (.aload_n 0, 1) := by decide +kernel
theorem dX7_chance_52 : decode cX7_chance 52 = .ok (.iload_n 1, 1) := by decide +kernel
theorem dX7_chance_53 : decode cX7_chance 53 = .ok (.iload 5, 2) := by decide +kernel
theorem dX7_chance_55 : decode cX7_chance 55 = .ok (.iadd, 1) := by decide +kernel
theorem dX7_chance_56 : decode cX7_chance 56 = .ok (.iconst 1, 1) := by decide +kernel
theorem dX7_chance_57 : decode cX7_chance 57 = .ok (.invokevirtual 313, 3) := by decide +kernel
theorem dX7_chance_60 : decode cX7_chance 60 = .ok (.imul, 1) := by decide +kernel
theorem dX7_chance_61 : decode cX7_chance 61 = .ok (.aload_n 0, 1) := by decide +kernel
theorem dX7_chance_62 : decode cX7_chance 62 = .ok (.iload_n 1, 1) := by decide +kernel
theorem dX7_chance_63 : decode cX7_chance 63 = .ok (.iload 5, 2) := by decide +kernel
theorem dX7_chance_65 : decode cX7_chance 65 = .ok (.iadd, 1) := by decide +kernel
theorem dX7_chance_66 : decode cX7_chance 66 = .ok (.iconst 0, 1) := by decide +kernel
theorem dX7_chance_67 : decode cX7_chance 67 = .ok (.invokevirtual 313, 3) := by decide +kernel
theorem dX7_chance_70 : decode cX7_chance 70 = .ok (.if_icmp .lt 7, 3) := by decide +kernel
theorem dX7_chance_73 : decode cX7_chance 73 = .ok (.iconst 1, 1) := by decide +kernel
theorem dX7_chance_74 : decode cX7_chance 74 = .ok (.goto 4, 3) := by decide +kernel
theorem dX7_chance_77 : decode cX7_chance 77 = .ok (.iconst 0, 1) := by decide +kernel
theorem dX7_chance_78 : decode cX7_chance 78 = .ok (.iadd, 1) := by decide +kernel
theorem dX7_chance_79 : decode cX7_chance 79 = .ok (.istore 4, 2) := by decide +kernel
theorem dX7_chance_81 : decode cX7_chance 81 = .ok (.iinc 5 1, 3) := by decide +kernel
theorem dX7_chance_84 : decode cX7_chance 84 = .ok (.goto (-42), 3) := by decide +kernel
theorem dX7_chance_87 : decode cX7_chance 87 = .ok (.iload 4, 2) := by decide +kernel
theorem dX7_chance_89 : decode cX7_chance 89 = .ok (.iload_n 2, 1) := by decide +kernel
theorem dX7_chance_90 : decode cX7_chance 90 = .ok (.invokestatic 319, 3) := by decide +kernel
theorem dX7_chance_93 : decode cX7_chance 93 = .ok (.istore 5, 2) := by decide +kernel
theorem dX7_chance_95 : decode cX7_chance 95 = .ok (.iload_n 3, 1) := by decide +kernel
theorem dX7_chance_96 : decode cX7_chance 96 = .ok (.ifCond .ne 12, 3) := by decide +kernel
theorem dX7_chance_99 : decode cX7_chance 99 = .ok (.iload 4, 2) := by decide +kernel
theorem dX7_chance_101 : decode cX7_chance 101 = .ok (.iload 5, 2) := by decide +kernel
theorem dX7_chance_103 : decode cX7_chance 103 = .ok (.idiv, 1) := by decide +kernel
theorem dX7_chance_104 : decode cX7_chance 104 = .ok (.i2l, 1) := by decide +kernel
theorem dX7_chance_105 : decode cX7_chance 105 = .ok (.goto 8, 3) := by decide +kernel
theorem dX7_chance_108 : decode cX7_chance 108 = .ok (.iload_n 2, 1) := by decide +kernel
theorem dX7_chance_109 : decode cX7_chance 109 = .ok (.iload 5, 2) := by decide +kernel
theorem dX7_chance_111 : decode cX7_chance 111 = .ok (.idiv, 1) := by decide +kernel
theorem dX7_chance_112 : decode cX7_chance 112 = .ok (.i2l, 1) := by decide +kernel
theorem dX7_chance_113 : decode cX7_chance 113 = .ok (.lreturn, 1) := by decide +kernel
theorem dX7_draw_0 : decode cX7_draw 0 = .ok (.iconst 0, 1) := by decide +kernel
theorem dX7_draw_1 : decode cX7_draw 1 = .ok (.istore_n 3, 1) := by decide +kernel
theorem dX7_draw_2 : decode cX7_draw 2 = .ok (.iload_n 1, 1) := by decide +kernel
theorem dX7_draw_3 : decode cX7_draw 3 = .ok (.istore 4, 2) := by decide +kernel
theorem dX7_draw_5 : decode cX7_draw 5 = .ok (.iconst 0, 1) := by decide +kernel
theorem dX7_draw_6 : decode cX7_draw 6 = .ok (.istore 5, 2) := by decide +kernel
theorem dX7_draw_8 : decode cX7_draw 8 = .ok (.iload 5, 2) := by decide +kernel
theorem dX7_draw_10 : decode cX7_draw 10 = .ok (.bipush 100, 2) := by decide +kernel
theorem dX7_draw_12 : decode cX7_draw 12 = .ok (.if_icmp .ge 48, 3) := by decide +kernel
theorem dX7_draw_15 : decode cX7_draw 15 = .ok (.iload 4, 2) := by decide +kernel
theorem dX7_draw_17 : decode cX7_draw 17 = .ok (.ldc_w 322, 3) := by decide +kernel
theorem dX7_draw_20 : decode cX7_draw 20 = .ok (.imul, 1) := by decide +kernel
theorem dX7_draw_21 : decode cX7_draw 21 = .ok (.sipush 12345, 3) := by decide +kernel
theorem dX7_draw_24 : decode cX7_draw 24 = .ok (.iadd, 1) := by decide +kernel
theorem dX7_draw_25 : decode cX7_draw 25 = .ok (.istore 4, 2) := by decide +kernel
theorem dX7_draw_27 : decode cX7_draw 27 = .ok (.iload_n 3, 1) := by decide +kernel
theorem dX7_draw_28 : decode cX7_draw 28 = .ok (.iload 4, 2) := by decide +kernel
theorem dX7_draw_30 : decode cX7_draw 30 = .ok (.bipush 9, 2) := by decide +kernel
theorem dX7_draw_32 : decode cX7_draw 32 = .ok (.iushr, 1) := by decide +kernel
theorem dX7_draw_33 : decode cX7_draw 33 = .ok (.bipush 10, 2) := by decide +kernel
theorem dX7_draw_35 : decode cX7_draw 35 = .ok (.irem, 1) := by decide +kernel
theorem dX7_draw_36 : decode cX7_draw 36 = .ok (.iload_n 2, 1) := by decide +kernel
theorem dX7_draw_37 : decode cX7_draw 37 = .ok (.ifCond .eq 13, 3) := by decide +kernel
theorem dX7_draw_40 : decode cX7_draw 40 = .ok (.aload_n 0, 1) := by decide +kernel
theorem dX7_draw_41 : decode cX7_draw 41 = .ok (.getfield 47, 3) := by decide +kernel
theorem dX7_draw_44 : decode cX7_draw 44 = .ok (.iload 5, 2) := by decide +kernel
theorem dX7_draw_46 : decode cX7_draw 46 = .ok (.iaload, 1) := by decide +kernel
theorem dX7_draw_47 : decode cX7_draw 47 = .ok (.goto 4, 3) := by decide +kernel
theorem dX7_draw_50 : decode cX7_draw 50 = .ok (.iconst 1, 1) := by decide +kernel
theorem dX7_draw_51 : decode cX7_draw 51 = .ok (.imul, 1) := by decide +kernel
theorem dX7_draw_52 : decode cX7_draw 52 = .ok (.iadd, 1) := by decide +kernel
theorem dX7_draw_53 : decode cX7_draw 53 = .ok (.istore_n 3, 1) := by decide +kernel
theorem dX7_draw_54 : decode cX7_draw 54 = .ok (.iinc 5 1, 3) := by decide +kernel
theorem dX7_draw_57 : decode cX7_draw 57 = .ok (.goto (-49), 3) := by decide +kernel
theorem dX7_draw_60 : decode cX7_draw 60 = .ok (.iload_n 3, 1) := by decide +kernel
theorem dX7_draw_61 : decode cX7_draw 61 = .ok (.ireturn, 1) := by decide +kernel
theorem dX7_commonDivisor_0 : decode cX7_commonDivisor 0 = .ok (.iload_n 1, 1) := by decide +kernel
theorem dX7_commonDivisor_1 : decode cX7_commonDivisor 1 = .ok (.istore_n 2, 1) := by decide +kernel
theorem dX7_commonDivisor_2 : decode cX7_commonDivisor 2 = .ok (.iload_n 2, 1) := by decide +kernel
theorem dX7_commonDivisor_3 : decode cX7_commonDivisor 3 = .ok (.iconst 1, 1) := by decide +kernel
theorem dX7_commonDivisor_4 : decode cX7_commonDivisor 4 = .ok (.if_icmp .le 23, 3) := by decide +kernel
theorem dX7_commonDivisor_7 : decode cX7_commonDivisor 7 = .ok (.iload_n 0, 1) := by decide +kernel
theorem dX7_commonDivisor_8 : decode cX7_commonDivisor 8 = .ok (.iload_n 2, 1) := by decide +kernel
theorem dX7_commonDivisor_9 : decode cX7_commonDivisor 9 = .ok (.irem, 1) := by decide +kernel
theorem dX7_commonDivisor_10 : decode cX7_commonDivisor 10 = .ok (.ifCond .ne 11, 3) := by decide +kernel
theorem dX7_commonDivisor_13 : decode cX7_commonDivisor 13 = .ok (.iload_n 1, 1) := by decide +kernel
theorem dX7_commonDivisor_14 : decode cX7_commonDivisor 14 = .ok (.iload_n 2, 1) := by decide +kernel
theorem dX7_commonDivisor_15 : decode cX7_commonDivisor 15 = .ok (.irem, 1) := by decide +kernel
theorem dX7_commonDivisor_16 : decode cX7_commonDivisor 16 = .ok (.ifCond .ne 5, 3) := by decide +kernel
theorem dX7_commonDivisor_19 : decode cX7_commonDivisor 19 = .ok (.iload_n 2, 1) := by decide +kernel
theorem dX7_commonDivisor_20 : decode cX7_commonDivisor 20 = .ok (.ireturn, 1) := by decide +kernel
theorem dX7_commonDivisor_21 : decode cX7_commonDivisor 21 = .ok (.iinc 2 (-1), 3) := by decide +kernel
theorem dX7_commonDivisor_24 : decode cX7_commonDivisor 24 = .ok (.goto (-22), 3) := by decide +kernel
theorem dX7_commonDivisor_27 : decode cX7_commonDivisor 27 = .ok (.iconst 1, 1) := by decide +kernel
theorem dX7_commonDivisor_28 : decode cX7_commonDivisor 28 = .ok (.ireturn, 1) := by decide +kernel
theorem dX7_image_0 : decode cX7_image 0 = .ok (.aload_n 0, 1) := by decide +kernel
theorem dX7_image_1 : decode cX7_image 1 = .ok (.getfield 16, 3) := by decide +kernel
theorem dX7_image_4 : decode cX7_image 4 = .ok (.aload_n 0, 1) := by decide +kernel
theorem dX7_image_5 : decode cX7_image 5 = .ok (.getfield 10, 3) := by decide +kernel
theorem dX7_image_8 : decode cX7_image 8 = .ok (.invokevirtual 323, 3) := by decide +kernel
theorem dX7_image_11 : decode cX7_image 11 = .ok (.aload_n 0, 1) := by decide +kernel
theorem dX7_image_12 : decode cX7_image 12 = .ok (.iconst 1, 1) := by decide +kernel
theorem dX7_image_13 : decode cX7_image 13 = .ok (.putfield 327, 3) := by decide +kernel
theorem dX7_image_16 : decode cX7_image 16 = .ok (.aload_n 0, 1) := by decide +kernel
theorem dX7_image_17 : decode cX7_image 17 = .ok (.getfield 10, 3) := by decide +kernel
theorem dX7_image_20 : decode cX7_image 20 = .ok (.getfield 120, 3) := by decide +kernel
theorem dX7_image_23 : decode cX7_image 23 = .ok (.ireturn, 1) := by decide +kernel
theorem dX7_back_0 : decode cX7_back 0 = .ok (.aload_n 0, 1) := by decide +kernel
theorem dX7_back_1 : decode cX7_back 1 = .ok (.getfield 327, 3) := by decide +kernel
theorem dX7_back_4 : decode cX7_back 4 = .ok (.ifCond .ne 6, 3) := by decide +kernel
theorem dX7_back_7 : decode cX7_back 7 = .ok (.bipush (-3), 2) := by decide +kernel
theorem dX7_back_9 : decode cX7_back 9 = .ok (.ireturn, 1) := by decide +kernel
theorem dX7_back_10 : decode cX7_back 10 = .ok (.aload_n 0, 1) := by decide +kernel
theorem dX7_back_11 : decode cX7_back 11 = .ok (.getfield 10, 3) := by decide +kernel
theorem dX7_back_14 : decode cX7_back 14 = .ok (.aload_n 0, 1) := by decide +kernel
theorem dX7_back_15 : decode cX7_back 15 = .ok (.getfield 16, 3) := by decide +kernel
theorem dX7_back_18 : decode cX7_back 18 = .ok (.invokevirtual 323, 3) := by decide +kernel
theorem dX7_back_21 : decode cX7_back 21 = .ok (.aload_n 0, 1) := by decide +kernel
theorem dX7_back_22 : decode cX7_back 22 = .ok (.getfield 10, 3) := by decide +kernel
theorem dX7_back_25 : decode cX7_back 25 = .ok (.getfield 120, 3) := by decide +kernel
theorem dX7_back_28 : decode cX7_back 28 = .ok (.ireturn, 1) := by decide +kernel
theorem dX7_count_0 : decode cX7_count 0 = .ok (.iload_n 1, 1) := by decide +kernel
theorem dX7_count_1 : decode cX7_count 1 = .ok (.tableswitch 90 0 5 #[39, 47, 55, 66, 74, 82], 39) := by decide +kernel
theorem dX7_count_40 : decode cX7_count 40 = .ok (.aload_n 0, 1) := by decide +kernel
theorem dX7_count_41 : decode cX7_count 41 = .ok (.getfield 10, 3) := by decide +kernel
theorem dX7_count_44 : decode cX7_count 44 = .ok (.getfield 120, 3) := by decide +kernel
theorem dX7_count_47 : decode cX7_count 47 = .ok (.ireturn, 1) := by decide +kernel
theorem dX7_count_48 : decode cX7_count 48 = .ok (.aload_n 0, 1) := by decide +kernel
theorem dX7_count_49 : decode cX7_count 49 = .ok (.getfield 10, 3) := by decide +kernel
theorem dX7_count_52 : decode cX7_count 52 = .ok (.invokevirtual 303, 3) := by decide +kernel
theorem dX7_count_55 : decode cX7_count 55 = .ok (.ireturn, 1) := by decide +kernel
theorem dX7_count_56 : decode cX7_count 56 = .ok (.aload_n 0, 1) := by decide +kernel
theorem dX7_count_57 : decode cX7_count 57 = .ok (.getfield 10, 3) := by decide +kernel
theorem dX7_count_60 : decode cX7_count 60 = .ok (.iconst 0, 1) := by decide +kernel
theorem dX7_count_61 : decode cX7_count 61 = .ok (.bipush 99, 2) := by decide +kernel
theorem dX7_count_63 : decode cX7_count 63 = .ok (.invokevirtual 276, 3) := by decide +kernel
theorem dX7_count_66 : decode cX7_count 66 = .ok (.ireturn, 1) := by decide +kernel
theorem dX7_count_67 : decode cX7_count 67 = .ok (.aload_n 0, 1) := by decide +kernel
theorem dX7_count_68 : decode cX7_count 68 = .ok (.getfield 29, 3) := by decide +kernel
theorem dX7_count_71 : decode cX7_count 71 = .ok (.getfield 149, 3) := by decide +kernel
theorem dX7_count_74 : decode cX7_count 74 = .ok (.ireturn, 1) := by decide +kernel
theorem dX7_count_75 : decode cX7_count 75 = .ok (.aload_n 0, 1) := by decide +kernel
theorem dX7_count_76 : decode cX7_count 76 = .ok (.getfield 22, 3) := by decide +kernel
theorem dX7_count_79 : decode cX7_count 79 = .ok (.getfield 331, 3) := by decide +kernel
theorem dX7_count_82 : decode cX7_count 82 = .ok (.ireturn, 1) := by decide +kernel
theorem dX7_count_83 : decode cX7_count 83 = .ok (.aload_n 0, 1) := by decide +kernel
theorem dX7_count_84 : decode cX7_count 84 = .ok (.getfield 10, 3) := by decide +kernel
theorem dX7_count_87 : decode cX7_count 87 = .ok (.getfield 152, 3) := by decide +kernel
theorem dX7_count_90 : decode cX7_count 90 = .ok (.ireturn, 1) := by decide +kernel
theorem dX7_count_91 : decode cX7_count 91 = .ok (.bipush (-2), 2) := by decide +kernel
theorem dX7_count_93 : decode cX7_count 93 = .ok (.ireturn, 1) := by decide +kernel
theorem dX7_sheet_0 : decode cX7_sheet 0 = .ok (.iload_n 1, 1) := by decide +kernel
theorem dX7_sheet_1 : decode cX7_sheet 1 = .ok (.invokestatic 173, 3) := by decide +kernel
theorem dX7_sheet_4 : decode cX7_sheet 4 = .ok (.ifCond .eq 13, 3) := by decide +kernel
theorem dX7_sheet_7 : decode cX7_sheet 7 = .ok (.iload_n 2, 1) := by decide +kernel
theorem dX7_sheet_8 : decode cX7_sheet 8 = .ok (.iconst (-1), 1) := by decide +kernel
theorem dX7_sheet_9 : decode cX7_sheet 9 = .ok (.if_icmp .lt 8, 3) := by decide +kernel
theorem dX7_sheet_12 : decode cX7_sheet 12 = .ok (.iload_n 2, 1) := by decide +kernel
theorem dX7_sheet_13 : decode cX7_sheet 13 = .ok (.iconst 2, 1) := by decide +kernel
theorem dX7_sheet_14 : decode cX7_sheet 14 = .ok (.if_icmp .le 6, 3) := by decide +kernel
theorem dX7_sheet_17 : decode cX7_sheet 17 = .ok (.bipush (-2), 2) := by decide +kernel
theorem dX7_sheet_19 : decode cX7_sheet 19 = .ok (.ireturn, 1) := by decide +kernel
theorem dX7_sheet_20 : decode cX7_sheet 20 = .ok (.iload_n 2, 1) := by decide +kernel
theorem dX7_sheet_21 : decode cX7_sheet 21 = .ok (.iconst (-1), 1) := by decide +kernel
theorem dX7_sheet_22 : decode cX7_sheet 22 = .ok (.if_icmp .ne 15, 3) := by decide +kernel
theorem dX7_sheet_25 : decode cX7_sheet 25 = .ok (.aload_n 0, 1) := by decide +kernel
theorem dX7_sheet_26 : decode cX7_sheet 26 = .ok (.getfield 36, 3) := by decide +kernel
theorem dX7_sheet_29 : decode cX7_sheet 29 = .ok (.iload_n 1, 1) := by decide +kernel
theorem dX7_sheet_30 : decode cX7_sheet 30 = .ok (.iconst (-1), 1) := by decide +kernel
theorem dX7_sheet_31 : decode cX7_sheet 31 = .ok (.iconst 0, 1) := by decide +kernel
theorem dX7_sheet_32 : decode cX7_sheet 32 = .ok (.invokevirtual 306, 3) := by decide +kernel
theorem dX7_sheet_35 : decode cX7_sheet 35 = .ok (.iconst 1, 1) := by decide +kernel
theorem dX7_sheet_36 : decode cX7_sheet 36 = .ok (.ireturn, 1) := by decide +kernel
theorem dX7_sheet_37 : decode cX7_sheet 37 = .ok (.iload_n 3, 1) := by decide +kernel
theorem dX7_sheet_38 : decode cX7_sheet 38 = .ok (.bipush 40, 2) := by decide +kernel
theorem dX7_sheet_40 : decode cX7_sheet 40 = .ok (.if_icmp .le 6, 3) := by decide +kernel
theorem dX7_sheet_43 : decode cX7_sheet 43 = .ok (.bipush (-2), 2) := by decide +kernel
theorem dX7_sheet_45 : decode cX7_sheet 45 = .ok (.ireturn, 1) := by decide +kernel
theorem dX7_sheet_46 : decode cX7_sheet 46 = .ok (.iload_n 3, 1) := by decide +kernel
theorem dX7_sheet_47 : decode cX7_sheet 47 = .ok (.ifCond .ge 6, 3) := by decide +kernel
theorem dX7_sheet_50 : decode cX7_sheet 50 = .ok (.bipush (-14), 2) := by decide +kernel
theorem dX7_sheet_52 : decode cX7_sheet 52 = .ok (.ireturn, 1) := by decide +kernel
theorem dX7_sheet_53 : decode cX7_sheet 53 = .ok (.aload_n 0, 1) := by decide +kernel
theorem dX7_sheet_54 : decode cX7_sheet 54 = .ok (.getfield 36, 3) := by decide +kernel
theorem dX7_sheet_57 : decode cX7_sheet 57 = .ok (.iload_n 1, 1) := by decide +kernel
theorem dX7_sheet_58 : decode cX7_sheet 58 = .ok (.iload_n 2, 1) := by decide +kernel
theorem dX7_sheet_59 : decode cX7_sheet 59 = .ok (.iload_n 3, 1) := by decide +kernel
theorem dX7_sheet_60 : decode cX7_sheet 60 = .ok (.invokevirtual 306, 3) := by decide +kernel
theorem dX7_sheet_63 : decode cX7_sheet 63 = .ok (.iconst 1, 1) := by decide +kernel
theorem dX7_sheet_64 : decode cX7_sheet 64 = .ok (.ireturn, 1) := by decide +kernel
theorem dX7_cell_0 : decode cX7_cell 0 = .ok (.iload_n 1, 1) := by decide +kernel
theorem dX7_cell_1 : decode cX7_cell 1 = .ok (.invokestatic 173, 3) := by decide +kernel
theorem dX7_cell_4 : decode cX7_cell 4 = .ok (.ifCond .ne 6, 3) := by decide +kernel
theorem dX7_cell_7 : decode cX7_cell 7 = .ok (.bipush (-2), 2) := by decide +kernel
theorem dX7_cell_9 : decode cX7_cell 9 = .ok (.ireturn, 1) := by decide +kernel
theorem dX7_cell_10 : decode cX7_cell 10 = .ok (.aload_n 0, 1) := by decide +kernel
theorem dX7_cell_11 : decode cX7_cell 11 = .ok (.getfield 36, 3) := by decide +kernel
theorem dX7_cell_14 : decode cX7_cell 14 = .ok (.iload_n 1, 1) := by decide +kernel
theorem dX7_cell_15 : decode cX7_cell 15 = .ok (.invokevirtual 207, 3) := by decide +kernel
theorem dX7_cell_18 : decode cX7_cell 18 = .ok (.ifCond .eq 6, 3) := by decide +kernel
theorem dX7_cell_21 : decode cX7_cell 21 = .ok (.bipush (-11), 2) := by decide +kernel
theorem dX7_cell_23 : decode cX7_cell 23 = .ok (.ireturn, 1) := by decide +kernel
theorem dX7_cell_24 : decode cX7_cell 24 = .ok (.iload_n 2, 1) := by decide +kernel
theorem dX7_cell_25 : decode cX7_cell 25 = .ok (.ifCond .lt 16, 3) := by decide +kernel
theorem dX7_cell_28 : decode cX7_cell 28 = .ok (.iload_n 2, 1) := by decide +kernel
theorem dX7_cell_29 : decode cX7_cell 29 = .ok (.aload_n 0, 1) := by decide +kernel
theorem dX7_cell_30 : decode cX7_cell 30 = .ok (.getfield 36, 3) := by decide +kernel
theorem dX7_cell_33 : decode cX7_cell 33 = .ok (.getfield 210, 3) := by decide +kernel
theorem dX7_cell_36 : decode cX7_cell 36 = .ok (.iload_n 1, 1) := by decide +kernel
theorem dX7_cell_37 : decode cX7_cell 37 = .ok (.iaload, 1) := by decide +kernel
theorem dX7_cell_38 : decode cX7_cell 38 = .ok (.if_icmp .lt 6, 3) := by decide +kernel
theorem dX7_cell_41 : decode cX7_cell 41 = .ok (.bipush (-12), 2) := by decide +kernel
theorem dX7_cell_43 : decode cX7_cell 43 = .ok (.ireturn, 1) := by decide +kernel
theorem dX7_cell_44 : decode cX7_cell 44 = .ok (.aload_n 0, 1) := by decide +kernel
theorem dX7_cell_45 : decode cX7_cell 45 = .ok (.getfield 36, 3) := by decide +kernel
theorem dX7_cell_48 : decode cX7_cell 48 = .ok (.iload_n 1, 1) := by decide +kernel
theorem dX7_cell_49 : decode cX7_cell 49 = .ok (.iload_n 2, 1) := by decide +kernel
theorem dX7_cell_50 : decode cX7_cell 50 = .ok (.iload_n 3, 1) := by decide +kernel
theorem dX7_cell_51 : decode cX7_cell 51 = .ok (.invokevirtual 310, 3) := by decide +kernel
theorem dX7_cell_54 : decode cX7_cell 54 = .ok (.iconst 1, 1) := by decide +kernel
theorem dX7_cell_55 : decode cX7_cell 55 = .ok (.ireturn, 1) := by decide +kernel
theorem dX7_copy_0 : decode cX7_copy 0 = .ok (.iload_n 1, 1) := by decide +kernel
theorem dX7_copy_1 : decode cX7_copy 1 = .ok (.invokestatic 173, 3) := by decide +kernel
theorem dX7_copy_4 : decode cX7_copy 4 = .ok (.ifCond .eq 10, 3) := by decide +kernel
theorem dX7_copy_7 : decode cX7_copy 7 = .ok (.iload_n 3, 1) := by decide +kernel
theorem dX7_copy_8 : decode cX7_copy 8 = .ok (.invokestatic 173, 3) := by decide +kernel
theorem dX7_copy_11 : decode cX7_copy 11 = .ok (.ifCond .ne 6, 3) := by decide +kernel
theorem dX7_copy_14 : decode cX7_copy 14 = .ok (.bipush (-2), 2) := by decide +kernel
theorem dX7_copy_16 : decode cX7_copy 16 = .ok (.ireturn, 1) := by decide +kernel
theorem dX7_copy_17 : decode cX7_copy 17 = .ok (.aload_n 0, 1) := by decide +kernel
theorem dX7_copy_18 : decode cX7_copy 18 = .ok (.getfield 36, 3) := by decide +kernel
theorem dX7_copy_21 : decode cX7_copy 21 = .ok (.iload_n 1, 1) := by decide +kernel
theorem dX7_copy_22 : decode cX7_copy 22 = .ok (.invokevirtual 207, 3) := by decide +kernel
theorem dX7_copy_25 : decode cX7_copy 25 = .ok (.ifCond .ne 14, 3) := by decide +kernel
theorem dX7_copy_28 : decode cX7_copy 28 = .ok (.aload_n 0, 1) := by decide +kernel
theorem dX7_copy_29 : decode cX7_copy 29 = .ok (.getfield 36, 3) := by decide +kernel
theorem dX7_copy_32 : decode cX7_copy 32 = .ok (.iload_n 3, 1) := by decide +kernel
theorem dX7_copy_33 : decode cX7_copy 33 = .ok (.invokevirtual 207, 3) := by decide +kernel
theorem dX7_copy_36 : decode cX7_copy 36 = .ok (.ifCond .eq 6, 3) := by decide +kernel
theorem dX7_copy_39 : decode cX7_copy 39 = .ok (.bipush (-11), 2) := by decide +kernel
theorem dX7_copy_41 : decode cX7_copy 41 = .ok (.ireturn, 1) := by decide +kernel
theorem dX7_copy_42 : decode cX7_copy 42 = .ok (.aload_n 0, 1) := by decide +kernel
theorem dX7_copy_43 : decode cX7_copy 43 = .ok (.getfield 36, 3) := by decide +kernel
theorem dX7_copy_46 : decode cX7_copy 46 = .ok (.getfield 334, 3) := by decide +kernel
theorem dX7_copy_49 : decode cX7_copy 49 = .ok (.iload_n 1, 1) := by decide +kernel
theorem dX7_copy_50 : decode cX7_copy 50 = .ok (.iaload, 1) := by decide +kernel
theorem dX7_copy_51 : decode cX7_copy 51 = .ok (.aload_n 0, 1) := by decide +kernel
theorem dX7_copy_52 : decode cX7_copy 52 = .ok (.getfield 36, 3) := by decide +kernel
theorem dX7_copy_55 : decode cX7_copy 55 = .ok (.getfield 334, 3) := by decide +kernel
theorem dX7_copy_58 : decode cX7_copy 58 = .ok (.iload_n 3, 1) := by decide +kernel
theorem dX7_copy_59 : decode cX7_copy 59 = .ok (.iaload, 1) := by decide +kernel
theorem dX7_copy_60 : decode cX7_copy 60 = .ok (.if_icmp .eq 6, 3) := by decide +kernel
theorem dX7_copy_63 : decode cX7_copy 63 = .ok (.bipush (-13), 2) := by decide +kernel
theorem dX7_copy_65 : decode cX7_copy 65 = .ok (.ireturn, 1) := by decide +kernel
theorem dX7_copy_66 : decode cX7_copy 66 = .ok (.iload_n 2, 1) := by decide +kernel
theorem dX7_copy_67 : decode cX7_copy 67 = .ok (.ifCond .lt 46, 3) := by decide +kernel
theorem dX7_copy_70 : decode cX7_copy 70 = .ok (.iload 4, 2) := by decide +kernel
theorem dX7_copy_72 : decode cX7_copy 72 = .ok (.ifCond .lt 41, 3) := by decide +kernel
theorem dX7_copy_75 : decode cX7_copy 75 = .ok (.iload 5, 2) := by decide +kernel
theorem dX7_copy_77 : decode cX7_copy 77 = .ok (.ifCond .lt 36, 3) := by decide +kernel
theorem dX7_copy_80 : decode cX7_copy 80 = .ok (.iload 5, 2) := by decide +kernel
theorem dX7_copy_82 : decode cX7_copy 82 = .ok (.aload_n 0, 1) := by decide +kernel
theorem dX7_copy_83 : decode cX7_copy 83 = .ok (.getfield 36, 3) := by decide +kernel
theorem dX7_copy_86 : decode cX7_copy 86 = .ok (.getfield 210, 3) := by decide +kernel
theorem dX7_copy_89 : decode cX7_copy 89 = .ok (.iload_n 1, 1) := by decide +kernel
theorem dX7_copy_90 : decode cX7_copy 90 = .ok (.iaload, 1) := by decide +kernel
theorem dX7_copy_91 : decode cX7_copy 91 = .ok (.iload_n 2, 1) := by decide +kernel
theorem dX7_copy_92 : decode cX7_copy 92 = .ok (.isub, 1) := by decide +kernel
theorem dX7_copy_93 : decode cX7_copy 93 = .ok (.if_icmp .gt 20, 3) := by decide +kernel
theorem dX7_copy_96 : decode cX7_copy 96 = .ok (.iload 5, 2) := by decide +kernel
theorem dX7_copy_98 : decode cX7_copy 98 = .ok (.aload_n 0, 1) := by decide +kernel
theorem dX7_copy_99 : decode cX7_copy 99 = .ok (.getfield 36, 3) := by decide +kernel
theorem dX7_copy_102 : decode cX7_copy 102 = .ok (.getfield 210, 3) := by decide +kernel
theorem dX7_copy_105 : decode cX7_copy 105 = .ok (.iload_n 3, 1) := by decide +kernel
theorem dX7_copy_106 : decode cX7_copy 106 = .ok (.iaload, 1) := by decide +kernel
theorem dX7_copy_107 : decode cX7_copy 107 = .ok (.iload 4, 2) := by decide +kernel
theorem dX7_copy_109 : decode cX7_copy 109 = .ok (.isub, 1) := by decide +kernel
theorem dX7_copy_110 : decode cX7_copy 110 = .ok (.if_icmp .le 6, 3) := by decide +kernel
theorem dX7_copy_113 : decode cX7_copy 113 = .ok (.bipush (-12), 2) := by decide +kernel
theorem dX7_copy_115 : decode cX7_copy 115 = .ok (.ireturn, 1) := by decide +kernel
theorem dX7_copy_116 : decode cX7_copy 116 = .ok (.aload_n 0, 1) := by decide +kernel
theorem dX7_copy_117 : decode cX7_copy 117 = .ok (.getfield 36, 3) := by decide +kernel
theorem dX7_copy_120 : decode cX7_copy 120 = .ok (.getfield 212, 3) := by decide +kernel
theorem dX7_copy_123 : decode cX7_copy 123 = .ok (.iload_n 1, 1) := by decide +kernel
theorem dX7_copy_124 : decode cX7_copy 124 = .ok (.aaload, 1) := by decide +kernel
theorem dX7_copy_125 : decode cX7_copy 125 = .ok (.iload_n 2, 1) := by decide +kernel
theorem dX7_copy_126 : decode cX7_copy 126 = .ok (.aload_n 0, 1) := by decide +kernel
theorem dX7_copy_127 : decode cX7_copy 127 = .ok (.getfield 36, 3) := by decide +kernel
theorem dX7_copy_130 : decode cX7_copy 130 = .ok (.getfield 212, 3) := by decide +kernel
theorem dX7_copy_133 : decode cX7_copy 133 = .ok (.iload_n 3, 1) := by decide +kernel
theorem dX7_copy_134 : decode cX7_copy 134 = .ok (.aaload, 1) := by decide +kernel
theorem dX7_copy_135 : decode cX7_copy 135 = .ok (.iload 4, 2) := by decide +kernel
theorem dX7_copy_137 : decode cX7_copy 137 = .ok (.iload 5, 2) := by decide +kernel
theorem dX7_copy_139 : decode cX7_copy 139 = .ok (.invokestatic 337, 3) := by decide +kernel
theorem dX7_copy_142 : decode cX7_copy 142 = .ok (.iload 5, 2) := by decide +kernel
theorem dX7_copy_144 : decode cX7_copy 144 = .ok (.ireturn, 1) := by decide +kernel
theorem dX7_town_0 : decode cX7_town 0 = .ok (.iload_n 1, 1) := by decide +kernel
theorem dX7_town_1 : decode cX7_town 1 = .ok (.invokestatic 173, 3) := by decide +kernel
theorem dX7_town_4 : decode cX7_town 4 = .ok (.ifCond .eq 24, 3) := by decide +kernel
theorem dX7_town_7 : decode cX7_town 7 = .ok (.iload_n 2, 1) := by decide +kernel
theorem dX7_town_8 : decode cX7_town 8 = .ok (.ifCond .lt 20, 3) := by decide +kernel
theorem dX7_town_11 : decode cX7_town 11 = .ok (.iload_n 2, 1) := by decide +kernel
theorem dX7_town_12 : decode cX7_town 12 = .ok (.iconst 2, 1) := by decide +kernel
theorem dX7_town_13 : decode cX7_town 13 = .ok (.if_icmp .gt 15, 3) := by decide +kernel
theorem dX7_town_16 : decode cX7_town 16 = .ok (.iload 4, 2) := by decide +kernel
theorem dX7_town_18 : decode cX7_town 18 = .ok (.ifCond .lt 10, 3) := by decide +kernel
theorem dX7_town_21 : decode cX7_town 21 = .ok (.iload 4, 2) := by decide +kernel
theorem dX7_town_23 : decode cX7_town 23 = .ok (.bipush 20, 2) := by decide +kernel
theorem dX7_town_25 : decode cX7_town 25 = .ok (.if_icmp .le 6, 3) := by decide +kernel
theorem dX7_town_28 : decode cX7_town 28 = .ok (.bipush (-2), 2) := by decide +kernel
theorem dX7_town_30 : decode cX7_town 30 = .ok (.ireturn, 1) := by decide +kernel
theorem dX7_town_31 : decode cX7_town 31 = .ok (.aload_n 0, 1) := by decide +kernel
theorem dX7_town_32 : decode cX7_town 32 = .ok (.getfield 36, 3) := by decide +kernel
theorem dX7_town_35 : decode cX7_town 35 = .ok (.iload_n 1, 1) := by decide +kernel
theorem dX7_town_36 : decode cX7_town 36 = .ok (.invokevirtual 207, 3) := by decide +kernel
theorem dX7_town_39 : decode cX7_town 39 = .ok (.ifCond .eq 6, 3) := by decide +kernel
theorem dX7_town_42 : decode cX7_town 42 = .ok (.bipush (-11), 2) := by decide +kernel
theorem dX7_town_44 : decode cX7_town 44 = .ok (.ireturn, 1) := by decide +kernel
theorem dX7_town_45 : decode cX7_town 45 = .ok (.aload_n 0, 1) := by decide +kernel
theorem dX7_town_46 : decode cX7_town 46 = .ok (.getfield 36, 3) := by decide +kernel
theorem dX7_town_49 : decode cX7_town 49 = .ok (.getfield 334, 3) := by decide +kernel
theorem dX7_town_52 : decode cX7_town 52 = .ok (.iload_n 1, 1) := by decide +kernel
theorem dX7_town_53 : decode cX7_town 53 = .ok (.iaload, 1) := by decide +kernel
theorem dX7_town_54 : decode cX7_town 54 = .ok (.iload_n 2, 1) := by decide +kernel
theorem dX7_town_55 : decode cX7_town 55 = .ok (.if_icmp .eq 6, 3) := by decide +kernel
theorem dX7_town_58 : decode cX7_town 58 = .ok (.bipush (-13), 2) := by decide +kernel
theorem dX7_town_60 : decode cX7_town 60 = .ok (.ireturn, 1) := by decide +kernel
theorem dX7_town_61 : decode cX7_town 61 = .ok (.iconst 0, 1) := by decide +kernel
theorem dX7_town_62 : decode cX7_town 62 = .ok (.istore 5, 2) := by decide +kernel
theorem dX7_town_64 : decode cX7_town 64 = .ok (.iconst 0, 1) := by decide +kernel
theorem dX7_town_65 : decode cX7_town 65 = .ok (.istore 6, 2) := by decide +kernel
theorem dX7_town_67 : decode cX7_town 67 = .ok (.iload 6, 2) := by decide +kernel
theorem dX7_town_69 : decode cX7_town 69 = .ok (.iload 4, 2) := by decide +kernel
theorem dX7_town_71 : decode cX7_town 71 = .ok (.if_icmp .ge 117, 3) := by decide +kernel
theorem dX7_town_74 : decode cX7_town 74 = .ok (.iload_n 3, 1) := by decide +kernel
theorem dX7_town_75 : decode cX7_town 75 = .ok (.ifCond .lt 23, 3) := by decide +kernel
theorem dX7_town_78 : decode cX7_town 78 = .ok (.iload_n 3, 1) := by decide +kernel
theorem dX7_town_79 : decode cX7_town 79 = .ok (.aload_n 0, 1) := by decide +kernel
theorem dX7_town_80 : decode cX7_town 80 = .ok (.getfield 36, 3) := by decide +kernel
theorem dX7_town_83 : decode cX7_town 83 = .ok (.getfield 210, 3) := by decide +kernel
theorem dX7_town_86 : decode cX7_town 86 = .ok (.iload_n 1, 1) := by decide +kernel
theorem dX7_town_87 : decode cX7_town 87 = .ok (.iaload, 1) := by decide +kernel
theorem dX7_town_88 : decode cX7_town 88 = .ok (.iconst 2, 1) := by decide +kernel
theorem dX7_town_89 : decode cX7_town 89 = .ok (.iload 6, 2) := by decide +kernel
theorem dX7_town_91 : decode cX7_town 91 = .ok (.imul, 1) := by decide +kernel
theorem dX7_town_92 : decode cX7_town 92 = .ok (.isub, 1) := by decide +kernel
theorem dX7_town_93 : decode cX7_town 93 = .ok (.iconst 1, 1) := by decide +kernel
theorem dX7_town_94 : decode cX7_town 94 = .ok (.isub, 1) := by decide +kernel
theorem dX7_town_95 : decode cX7_town 95 = .ok (.if_icmp .lt 6, 3) := by decide +kernel
theorem dX7_town_98 : decode cX7_town 98 = .ok (.bipush (-12), 2) := by decide +kernel
theorem dX7_town_100 : decode cX7_town 100 = .ok (.ireturn, 1) := by decide +kernel
theorem dX7_town_101 : decode cX7_town 101 = .ok (.aload_n 0, 1) := by decide +kernel
theorem dX7_town_102 : decode cX7_town 102 = .ok (.getfield 36, 3) := by decide +kernel
theorem dX7_town_105 : decode cX7_town 105 = .ok (.getfield 212, 3) := by decide +kernel
theorem dX7_town_108 : decode cX7_town 108 = .ok (.iload_n 1, 1) := by decide +kernel
theorem dX7_town_109 : decode cX7_town 109 = .ok (.aaload, 1) := by decide +kernel
theorem dX7_town_110 : decode cX7_town 110 = .ok (.iload_n 3, 1) := by decide +kernel
theorem dX7_town_111 : decode cX7_town 111 = .ok (.iconst 2, 1) := by decide +kernel
theorem dX7_town_112 : decode cX7_town 112 = .ok (.iload 6, 2) := by decide +kernel
theorem dX7_town_114 : decode cX7_town 114 = .ok (.imul, 1) := by decide +kernel
theorem dX7_town_115 : decode cX7_town 115 = .ok (.iadd, 1) := by decide +kernel
theorem dX7_town_116 : decode cX7_town 116 = .ok (.iaload, 1) := by decide +kernel
theorem dX7_town_117 : decode cX7_town 117 = .ok (.istore 7, 2) := by decide +kernel
theorem dX7_town_119 : decode cX7_town 119 = .ok (.aload_n 0, 1) := by decide +kernel
theorem dX7_town_120 : decode cX7_town 120 = .ok (.getfield 36, 3) := by decide +kernel
theorem dX7_town_123 : decode cX7_town 123 = .ok (.getfield 212, 3) := by decide +kernel
theorem dX7_town_126 : decode cX7_town 126 = .ok (.iload_n 1, 1) := by decide +kernel
theorem dX7_town_127 : decode cX7_town 127 = .ok (.aaload, 1) := by decide +kernel
theorem dX7_town_128 : decode cX7_town 128 = .ok (.iload_n 3, 1) := by decide +kernel
theorem dX7_town_129 : decode cX7_town 129 = .ok (.iconst 2, 1) := by decide +kernel
theorem dX7_town_130 : decode cX7_town 130 = .ok (.iload 6, 2) := by decide +kernel
theorem dX7_town_132 : decode cX7_town 132 = .ok (.imul, 1) := by decide +kernel
theorem dX7_town_133 : decode cX7_town 133 = .ok (.iadd, 1) := by decide +kernel
theorem dX7_town_134 : decode cX7_town 134 = .ok (.iconst 1, 1) := by decide +kernel
theorem dX7_town_135 : decode cX7_town 135 = .ok (.iadd, 1) := by decide +kernel
theorem dX7_town_136 : decode cX7_town 136 = .ok (.iaload, 1) := by decide +kernel
theorem dX7_town_137 : decode cX7_town 137 = .ok (.istore 8, 2) := by decide +kernel
theorem dX7_town_139 : decode cX7_town 139 = .ok (.iload 7, 2) := by decide +kernel
theorem dX7_town_141 : decode cX7_town 141 = .ok (.invokestatic 126, 3) := by decide +kernel
theorem dX7_town_144 : decode cX7_town 144 = .ok (.ifCond .eq 38, 3) := by decide +kernel
theorem dX7_town_147 : decode cX7_town 147 = .ok (.iload 8, 2) := by decide +kernel
theorem dX7_town_149 : decode cX7_town 149 = .ok (.getstatic 87, 3) := by decide +kernel
theorem dX7_town_152 : decode cX7_town 152 = .ok (.iconst 3, 1) := by decide +kernel
theorem dX7_town_153 : decode cX7_town 153 = .ok (.iaload, 1) := by decide +kernel
theorem dX7_town_154 : decode cX7_town 154 = .ok (.if_icmp .lt 28, 3) := by decide +kernel
theorem dX7_town_157 : decode cX7_town 157 = .ok (.iload 8, 2) := by decide +kernel
theorem dX7_town_159 : decode cX7_town 159 = .ok (.getstatic 90, 3) := by decide +kernel
theorem dX7_town_162 : decode cX7_town 162 = .ok (.iconst 3, 1) := by decide +kernel
theorem dX7_town_163 : decode cX7_town 163 = .ok (.iaload, 1) := by decide +kernel
theorem dX7_town_164 : decode cX7_town 164 = .ok (.if_icmp .gt 18, 3) := by decide +kernel
theorem dX7_town_167 : decode cX7_town 167 = .ok (.aload_n 0, 1) := by decide +kernel
theorem dX7_town_168 : decode cX7_town 168 = .ok (.getfield 10, 3) := by decide +kernel
theorem dX7_town_171 : decode cX7_town 171 = .ok (.getfield 107, 3) := by decide +kernel
theorem dX7_town_174 : decode cX7_town 174 = .ok (.iload 7, 2) := by decide +kernel
theorem dX7_town_176 : decode cX7_town 176 = .ok (.iload 8, 2) := by decide +kernel
theorem dX7_town_178 : decode cX7_town 178 = .ok (.iastore, 1) := by decide +kernel
theorem dX7_town_179 : decode cX7_town 179 = .ok (.iinc 5 1, 3) := by decide +kernel
theorem dX7_town_182 : decode cX7_town 182 = .ok (.iinc 6 1, 3) := by decide +kernel
theorem dX7_town_185 : decode cX7_town 185 = .ok (.goto (-118), 3) := by decide +kernel
theorem dX7_town_188 : decode cX7_town 188 = .ok (.iload 5, 2) := by decide +kernel
theorem dX7_town_190 : decode cX7_town 190 = .ok (.ireturn, 1) := by decide +kernel
theorem dX7_taken_0 : decode cX7_taken 0 = .ok (.iload_n 2, 1) := by decide +kernel
theorem dX7_taken_1 : decode cX7_taken 1 = .ok (.ifCond .lt 9, 3) := by decide +kernel
theorem dX7_taken_4 : decode cX7_taken 4 = .ok (.iload_n 2, 1) := by decide +kernel
theorem dX7_taken_5 : decode cX7_taken 5 = .ok (.bipush 6, 2) := by decide +kernel
theorem dX7_taken_7 : decode cX7_taken 7 = .ok (.if_icmp .lt 6, 3) := by decide +kernel
theorem dX7_taken_10 : decode cX7_taken 10 = .ok (.bipush (-2), 2) := by decide +kernel
theorem dX7_taken_12 : decode cX7_taken 12 = .ok (.ireturn, 1) := by decide +kernel
theorem dX7_taken_13 : decode cX7_taken 13 = .ok (.aload_n 0, 1) := by decide +kernel
theorem dX7_taken_14 : decode cX7_taken 14 = .ok (.getfield 10, 3) := by decide +kernel
theorem dX7_taken_17 : decode cX7_taken 17 = .ok (.iload_n 1, 1) := by decide +kernel
theorem dX7_taken_18 : decode cX7_taken 18 = .ok (.invokevirtual 130, 3) := by decide +kernel
theorem dX7_taken_21 : decode cX7_taken 21 = .ok (.ifCond .ne 6, 3) := by decide +kernel
theorem dX7_taken_24 : decode cX7_taken 24 = .ok (.bipush (-11), 2) := by decide +kernel
theorem dX7_taken_26 : decode cX7_taken 26 = .ok (.ireturn, 1) := by decide +kernel
theorem dX7_taken_27 : decode cX7_taken 27 = .ok (.aload_n 0, 1) := by decide +kernel
theorem dX7_taken_28 : decode cX7_taken 28 = .ok (.getfield 10, 3) := by decide +kernel
theorem dX7_taken_31 : decode cX7_taken 31 = .ok (.getfield 123, 3) := by decide +kernel
theorem dX7_taken_34 : decode cX7_taken 34 = .ok (.iload_n 1, 1) := by decide +kernel
theorem dX7_taken_35 : decode cX7_taken 35 = .ok (.iaload, 1) := by decide +kernel
theorem dX7_taken_36 : decode cX7_taken 36 = .ok (.iload_n 2, 1) := by decide +kernel
theorem dX7_taken_37 : decode cX7_taken 37 = .ok (.invokestatic 343, 3) := by decide +kernel
theorem dX7_taken_40 : decode cX7_taken 40 = .ok (.ifCond .eq 15, 3) := by decide +kernel
theorem dX7_taken_43 : decode cX7_taken 43 = .ok (.aload_n 0, 1) := by decide +kernel
theorem dX7_taken_44 : decode cX7_taken 44 = .ok (.getfield 10, 3) := by decide +kernel
theorem dX7_taken_47 : decode cX7_taken 47 = .ok (.getfield 110, 3) := by decide +kernel
theorem dX7_taken_50 : decode cX7_taken 50 = .ok (.iload_n 1, 1) := by decide +kernel
theorem dX7_taken_51 : decode cX7_taken 51 = .ok (.iaload, 1) := by decide +kernel
theorem dX7_taken_52 : decode cX7_taken 52 = .ok (.goto 5, 3) := by decide +kernel
theorem dX7_taken_55 : decode cX7_taken 55 = .ok (.bipush (-13), 2) := by decide +kernel
theorem dX7_taken_57 : decode cX7_taken 57 = .ok (.ireturn, 1) := by decide +kernel
theorem dX7_isFoot_0 : decode cX7_isFoot 0 = .ok (.iload_n 0, 1) := by decide +kernel
theorem dX7_isFoot_1 : decode cX7_isFoot 1 = .ok (.ifCond .lt 13, 3) := by decide +kernel
theorem dX7_isFoot_4 : decode cX7_isFoot 4 = .ok (.iload_n 0, 1) := by decide +kernel
theorem dX7_isFoot_5 : decode cX7_isFoot 5 = .ok (.bipush 100, 2) := by decide +kernel
theorem dX7_isFoot_7 : decode cX7_isFoot 7 = .ok (.if_icmp .ge 7, 3) := by decide +kernel
theorem dX7_isFoot_10 : decode cX7_isFoot 10 = .ok (.iconst 1, 1) := by decide +kernel
theorem dX7_isFoot_11 : decode cX7_isFoot 11 = .ok (.goto 4, 3) := by decide +kernel
theorem dX7_isFoot_14 : decode cX7_isFoot 14 = .ok (.iconst 0, 1) := by decide +kernel
theorem dX7_isFoot_15 : decode cX7_isFoot 15 = .ok (.ireturn, 1) := by decide +kernel
theorem dX7_within_0 : decode cX7_within 0 = .ok (.iconst 0, 1) := by decide +kernel
theorem dX7_within_1 : decode cX7_within 1 = .ok (.iload_n 1, 1) := by decide +kernel
theorem dX7_within_2 : decode cX7_within 2 = .ok (.iload_n 0, 1) := by decide +kernel
theorem dX7_within_3 : decode cX7_within 3 = .ok (.invokestatic 165, 3) := by decide +kernel
theorem dX7_within_6 : decode cX7_within 6 = .ok (.invokestatic 204, 3) := by decide +kernel
theorem dX7_within_9 : decode cX7_within 9 = .ok (.ireturn, 1) := by decide +kernel
theorem dX8_in_0 : decode cX8_in 0 = .ok (.lload_n 0, 1) := by decide +kernel
theorem dX8_in_1 : decode cX8_in 1 = .ok (.lload_n 2, 1) := by decide +kernel
theorem dX8_in_2 : decode cX8_in 2 = .ok (.lcmp, 1) := by decide +kernel
theorem dX8_in_3 : decode cX8_in 3 = .ok (.ifCond .lt 14, 3) := by decide +kernel
theorem dX8_in_6 : decode cX8_in 6 = .ok (.lload_n 0, 1) := by decide +kernel
theorem dX8_in_7 : decode cX8_in 7 = .ok (.lload 4, 2) := by decide +kernel
theorem dX8_in_9 : decode cX8_in 9 = .ok (.lcmp, 1) := by decide +kernel
theorem dX8_in_10 : decode cX8_in 10 = .ok (.ifCond .gt 7, 3) := by decide +kernel
theorem dX8_in_13 : decode cX8_in 13 = .ok (.iconst 1, 1) := by decide +kernel
theorem dX8_in_14 : decode cX8_in 14 = .ok (.goto 4, 3) := by decide +kernel
theorem dX8_in_17 : decode cX8_in 17 = .ok (.iconst 0, 1) := by decide +kernel
theorem dX8_in_18 : decode cX8_in 18 = .ok (.ireturn, 1) := by decide +kernel
theorem dX8_within_0 : decode cX8_within 0 = .ok (.iload_n 0, 1) := by decide +kernel
theorem dX8_within_1 : decode cX8_within 1 = .ok (.iload_n 1, 1) := by decide +kernel
theorem dX8_within_2 : decode cX8_within 2 = .ok (.if_icmp .ge 7, 3) := by decide +kernel
theorem dX8_within_5 : decode cX8_within 5 = .ok (.iload_n 1, 1) := by decide +kernel
theorem dX8_within_6 : decode cX8_within 6 = .ok (.goto 13, 3) := by decide +kernel
theorem dX8_within_9 : decode cX8_within 9 = .ok (.iload_n 0, 1) := by decide +kernel
theorem dX8_within_10 : decode cX8_within 10 = .ok (.iload_n 2, 1) := by decide +kernel
theorem dX8_within_11 : decode cX8_within 11 = .ok (.if_icmp .le 7, 3) := by decide +kernel
theorem dX8_within_14 : decode cX8_within 14 = .ok (.iload_n 2, 1) := by decide +kernel
theorem dX8_within_15 : decode cX8_within 15 = .ok (.goto 4, 3) := by decide +kernel
theorem dX8_within_18 : decode cX8_within 18 = .ok (.iload_n 0, 1) := by decide +kernel
theorem dX8_within_19 : decode cX8_within 19 = .ok (.ireturn, 1) := by decide +kernel
theorem dX8_plain_0 : decode cX8_plain 0 = .ok (.iload_n 0, 1) := by decide +kernel
theorem dX8_plain_1 : decode cX8_plain 1 = .ok (.ifCond .ge 8, 3) := by decide +kernel
theorem dX8_plain_4 : decode cX8_plain 4 = .ok (.iload_n 0, 1) := by decide +kernel
theorem dX8_plain_5 : decode cX8_plain 5 = .ok (.ineg, 1) := by decide +kernel
theorem dX8_plain_6 : decode cX8_plain 6 = .ok (.goto 4, 3) := by decide +kernel
theorem dX8_plain_9 : decode cX8_plain 9 = .ok (.iload_n 0, 1) := by decide +kernel
theorem dX8_plain_10 : decode cX8_plain 10 = .ok (.ireturn, 1) := by decide +kernel
theorem dX8_init_0 : decode cX8_init 0 = .ok (.aload_n 0, 1) := by decide +kernel
theorem dX8_init_1 : decode cX8_init 1 = .ok (.invokespecial 7, 3) := by decide +kernel
theorem dX8_init_4 : decode cX8_init 4 = .ok (.aload_n 0, 1) := by decide +kernel
theorem dX8_init_5 : decode cX8_init 5 = .ok (.sipush 960, 3) := by decide +kernel
theorem dX8_init_8 : decode cX8_init 8 = .ok (.newarray .int, 2) := by decide +kernel
theorem dX8_init_10 : decode cX8_init 10 = .ok (.putfield 13, 3) := by decide +kernel
theorem dX8_init_13 : decode cX8_init 13 = .ok (.aload_n 0, 1) := by decide +kernel
theorem dX8_init_14 : decode cX8_init 14 = .ok (.bipush 6, 2) := by decide +kernel
theorem dX8_init_16 : decode cX8_init 16 = .ok (.newarray .int, 2) := by decide +kernel
theorem dX8_init_18 : decode cX8_init 18 = .ok (.putfield 17, 3) := by decide +kernel
theorem dX8_init_21 : decode cX8_init 21 = .ok (.aload_n 0, 1) := by decide +kernel
theorem dX8_init_22 : decode cX8_init 22 = .ok (.sipush 160, 3) := by decide +kernel
theorem dX8_init_25 : decode cX8_init 25 = .ok (.newarray .int, 2) := by decide +kernel
theorem dX8_init_27 : decode cX8_init 27 = .ok (.putfield 20, 3) := by decide +kernel
theorem dX8_init_30 : decode cX8_init 30 = .ok (.aload_n 0, 1) := by decide +kernel
theorem dX8_init_31 : decode cX8_init 31 = .ok (.bipush 40, 2) := by decide +kernel
theorem dX8_init_33 : decode cX8_init 33 = .ok (.putfield 23, 3) := by decide +kernel
theorem dX8_init_36 : decode cX8_init 36 = .ok (.aload_n 0, 1) := by decide +kernel
theorem dX8_init_37 : decode cX8_init 37 = .ok (.bipush 40, 2) := by decide +kernel
theorem dX8_init_39 : decode cX8_init 39 = .ok (.putfield 26, 3) := by decide +kernel
theorem dX8_init_42 : decode cX8_init 42 = .ok (.aload_n 0, 1) := by decide +kernel
theorem dX8_init_43 : decode cX8_init 43 = .ok (.bipush 9, 2) := by decide +kernel
theorem dX8_init_45 : decode cX8_init 45 = .ok (.putfield 29, 3) := by decide +kernel
theorem dX8_init_48 : decode cX8_init 48 = .ok (.aload_n 0, 1) := by decide +kernel
theorem dX8_init_49 : decode cX8_init 49 = .ok (.bipush 100, 2) := by decide +kernel
theorem dX8_init_51 : decode cX8_init 51 = .ok (.newarray .int, 2) := by decide +kernel
theorem dX8_init_53 : decode cX8_init 53 = .ok (.putfield 32, 3) := by decide +kernel
theorem dX8_init_56 : decode cX8_init 56 = .ok (.aload_n 0, 1) := by decide +kernel
theorem dX8_init_57 : decode cX8_init 57 = .ok (.iconst 5, 1) := by decide +kernel
theorem dX8_init_58 : decode cX8_init 58 = .ok (.newarray .int, 2) := by decide +kernel
theorem dX8_init_60 : decode cX8_init 60 = .ok (.putfield 35, 3) := by decide +kernel
theorem dX8_init_63 : decode cX8_init 63 = .ok (.aload_n 0, 1) := by decide +kernel
theorem dX8_init_64 : decode cX8_init 64 = .ok (.iconst 5, 1) := by decide +kernel
theorem dX8_init_65 : decode cX8_init 65 = .ok (.newarray .int, 2) := by decide +kernel
theorem dX8_init_67 : decode cX8_init 67 = .ok (.putfield 38, 3) := by decide +kernel
theorem dX8_init_70 : decode cX8_init 70 = .ok (.aload_n 0, 1) := by decide +kernel
theorem dX8_init_71 : decode cX8_init 71 = .ok (.iconst 5, 1) := by decide +kernel
theorem dX8_init_72 : decode cX8_init 72 = .ok (.newarray .int, 2) := by decide +kernel
theorem dX8_init_74 : decode cX8_init 74 = .ok (.putfield 41, 3) := by decide +kernel
theorem dX8_init_77 : decode cX8_init 77 = .ok (.aload_n 0, 1) := by decide +kernel
theorem dX8_init_78 : decode cX8_init 78 = .ok (.iconst 5, 1) := by decide +kernel
theorem dX8_init_79 : decode cX8_init 79 = .ok (.newarray .int, 2) := by decide +kernel
theorem dX8_init_81 : decode cX8_init 81 = .ok (.putfield 44, 3) := by decide +kernel
theorem dX8_init_84 : decode cX8_init 84 = .ok (.aload_n 0, 1) := by decide +kernel
theorem dX8_init_85 : decode cX8_init 85 = .ok (.sipush 10000, 3) := by decide +kernel
theorem dX8_init_88 : decode cX8_init 88 = .ok (.newarray .int, 2) := by decide +kernel
theorem dX8_init_90 : decode cX8_init 90 = .ok (.putfield 47, 3) := by decide +kernel
theorem dX8_init_93 : decode cX8_init 93 = .ok (.aload_n 0, 1) := by decide +kernel
theorem dX8_init_94 : decode cX8_init 94 = .ok (.bipush 100, 2) := by decide +kernel
theorem dX8_init_96 : decode cX8_init 96 = .ok (.newarray .boolean, 2) := by decide +kernel
theorem dX8_init_98 : decode cX8_init 98 = .ok (.putfield 50, 3) := by decide +kernel
theorem dX8_init_101 : decode cX8_init 101 = .ok (.aload_n 0, 1) := by decide +kernel
theorem dX8_init_102 : decode cX8_init 102 = .ok (.iconst 5, 1) := by decide +kernel
theorem dX8_init_103 : decode cX8_init 103 = .ok (.newarray .int, 2) := by decide +kernel
theorem dX8_init_105 : decode cX8_init 105 = .ok (.putfield 54, 3) := by decide +kernel
theorem dX8_init_108 : decode cX8_init 108 = .ok (.aload_n 0, 1) := by decide +kernel
theorem dX8_init_109 : decode cX8_init 109 = .ok (.bipush 100, 2) := by decide +kernel
theorem dX8_init_111 : decode cX8_init 111 = .ok (.newarray .int, 2) := by decide +kernel
theorem dX8_init_113 : decode cX8_init 113 = .ok (.putfield 57, 3) := by decide +kernel
theorem dX8_init_116 : decode cX8_init 116 = .ok (.aload_n 0, 1) := by decide +kernel
theorem dX8_init_117 : decode cX8_init 117 = .ok (.bipush 100, 2) := by decide +kernel
theorem dX8_init_119 : decode cX8_init 119 = .ok (.newarray .int, 2) := by decide +kernel
theorem dX8_init_121 : decode cX8_init 121 = .ok (.putfield 60, 3) := by decide +kernel
theorem dX8_init_124 : decode cX8_init 124 = .ok (.aload_n 0, 1) := by decide +kernel
theorem dX8_init_125 : decode cX8_init 125 = .ok (.sipush 2000, 3) := by decide +kernel
theorem dX8_init_128 : decode cX8_init 128 = .ok (.newarray .boolean, 2) := by decide +kernel
theorem dX8_init_130 : decode cX8_init 130 = .ok (.putfield 63, 3) := by decide +kernel
theorem dX8_init_133 : decode cX8_init 133 = .ok (.aload_n 0, 1) := by decide +kernel
theorem dX8_init_134 : decode cX8_init 134 = .ok (.bipush 100, 2) := by decide +kernel
theorem dX8_init_136 : decode cX8_init 136 = .ok (.newarray .int, 2) := by decide +kernel
theorem dX8_init_138 : decode cX8_init 138 = .ok (.putfield 66, 3) := by decide +kernel
theorem dX8_init_141 : decode cX8_init 141 = .ok (.aload_n 0, 1) := by decide +kernel
theorem dX8_init_142 : decode cX8_init 142 = .ok (.bipush 100, 2) := by decide +kernel
theorem dX8_init_144 : decode cX8_init 144 = .ok (.newarray .int, 2) := by decide +kernel
theorem dX8_init_146 : decode cX8_init 146 = .ok (.putfield 69, 3) := by decide +kernel
theorem dX8_init_149 : decode cX8_init 149 = .ok (.aload_n 0, 1) := by decide +kernel
theorem dX8_init_150 : decode cX8_init 150 = .ok (.bipush 15, 2) := by decide +kernel
theorem dX8_init_152 : decode cX8_init 152 = .ok (.newarray .int, 2) := by decide +kernel
theorem dX8_init_154 : decode cX8_init 154 = .ok (.putfield 72, 3) := by decide +kernel
theorem dX8_init_157 : decode cX8_init 157 = .ok (.aload_n 0, 1) := by decide +kernel
theorem dX8_init_158 : decode cX8_init 158 = .ok (.iconst (-1), 1) := by decide +kernel
theorem dX8_init_159 : decode cX8_init 159 = .ok (.putfield 75, 3) := by decide +kernel
theorem dX8_init_162 : decode cX8_init 162 = .ok (.aload_n 0, 1) := by decide +kernel
theorem dX8_init_163 : decode cX8_init 163 = .ok (.iconst 4, 1) := by decide +kernel
theorem dX8_init_164 : decode cX8_init 164 = .ok (.newarray .boolean, 2) := by decide +kernel
theorem dX8_init_166 : decode cX8_init 166 = .ok (.putfield 78, 3) := by decide +kernel
theorem dX8_init_169 : decode cX8_init 169 = .ok (.aload_n 0, 1) := by decide +kernel
theorem dX8_init_170 : decode cX8_init 170 = .ok (.iconst 4, 1) := by decide +kernel
theorem dX8_init_171 : decode cX8_init 171 = .ok (.newarray .int, 2) := by decide +kernel
theorem dX8_init_173 : decode cX8_init 173 = .ok (.putfield 81, 3) := by decide +kernel
theorem dX8_init_176 : decode cX8_init 176 = .ok (.aload_n 0, 1) := by decide +kernel
theorem dX8_init_177 : decode cX8_init 177 = .ok (.iconst 4, 1) := by decide +kernel
theorem dX8_init_178 : decode cX8_init 178 = .ok (.newarray .int, 2) := by decide +kernel
theorem dX8_init_180 : decode cX8_init 180 = .ok (.putfield 84, 3) := by decide +kernel
theorem dX8_init_183 : decode cX8_init 183 = .ok (.aload_n 0, 1) := by decide +kernel
theorem dX8_init_184 : decode cX8_init 184 = .ok (.sipush 160, 3) := by decide +kernel
theorem dX8_init_187 : decode cX8_init 187 = .ok (.newarray .int, 2) := by decide +kernel
theorem dX8_init_189 : decode cX8_init 189 = .ok (.putfield 87, 3) := by decide +kernel
theorem dX8_init_192 : decode cX8_init 192 = .ok (.aload_n 0, 1) := by decide +kernel
theorem dX8_init_193 : decode cX8_init 193 = .ok (.iconst 0, 1) := by decide +kernel
theorem dX8_init_194 : decode cX8_init 194 = .ok (.bipush 115, 2) := by decide +kernel
theorem dX8_init_196 : decode cX8_init 196 = .ok (.bipush 119, 2) := by decide +kernel
theorem dX8_init_198 : decode cX8_init 198 = .ok (.bipush 101, 2) := by decide +kernel
theorem dX8_init_200 : decode cX8_init 200 = .ok (.bipush 108, 2) := by decide +kernel
theorem dX8_init_202 : decode cX8_init 202 = .ok (.bipush 108, 2) := by decide +kernel
theorem dX8_init_204 : decode cX8_init 204 = .ok (.bipush 115, 2) := by decide +kernel
theorem dX8_init_206 : decode cX8_init 206 = .ok (.bipush 32, 2) := by decide +kernel
theorem dX8_init_208 : decode cX8_init 208 = .ok (.bipush 40, 2) := by decide +kernel
theorem dX8_init_210 : decode cX8_init 210 = .ok (.invokevirtual 90, 3) := by decide +kernel
theorem dX8_init_213 : decode cX8_init 213 = .ok (.aload_n 0, 1) := by decide +kernel
theorem dX8_init_214 : decode cX8_init 214 = .ok (.bipush 8, 2) := by decide +kernel
theorem dX8_init_216 : decode cX8_init 216 = .ok (.bipush 32, 2) := by decide +kernel
theorem dX8_init_218 : decode cX8_init 218 = .ok (.bipush 49, 2) := by decide +kernel
theorem dX8_init_220 : decode cX8_init 220 = .ok (.bipush 50, 2) := by decide +kernel
theorem dX8_init_222 : decode cX8_init 222 = .ok (.bipush 32, 2) := by decide +kernel
theorem dX8_init_224 : decode cX8_init 224 = .ok (.bipush 60, 2) := by decide +kernel
theorem dX8_init_226 : decode cX8_init 226 = .ok (.bipush 32, 2) := by decide +kernel
theorem dX8_init_228 : decode cX8_init 228 = .ok (.bipush 104, 2) := by decide +kernel
theorem dX8_init_230 : decode cX8_init 230 = .ok (.bipush 111, 2) := by decide +kernel
theorem dX8_init_232 : decode cX8_init 232 = .ok (.invokevirtual 90, 3) := by decide +kernel
theorem dX8_init_235 : decode cX8_init 235 = .ok (.aload_n 0, 1) := by decide +kernel
theorem dX8_init_236 : decode cX8_init 236 = .ok (.bipush 16, 2) := by decide +kernel
theorem dX8_init_238 : decode cX8_init 238 = .ok (.bipush 117, 2) := by decide +kernel
theorem dX8_init_240 : decode cX8_init 240 = .ok (.bipush 114, 2) := by decide +kernel
theorem dX8_init_242 : decode cX8_init 242 = .ok (.bipush 32, 2) := by decide +kernel
theorem dX8_init_244 : decode cX8_init 244 = .ok (.bipush 41, 2) := by decide +kernel
theorem dX8_init_246 : decode cX8_init 246 = .ok (.bipush 32, 2) := by decide +kernel
theorem dX8_init_248 : decode cX8_init 248 = .ok (.bipush 42, 2) := by decide +kernel
theorem dX8_init_250 : decode cX8_init 250 = .ok (.bipush 32, 2) := by decide +kernel
theorem dX8_init_252 : decode cX8_init 252 = .ok (.bipush 51, 2) := by decide +kernel
theorem dX8_init_254 : decode cX8_init 254 = .ok (.invokevirtual 90, 3) := by decide +kernel
theorem dX8_init_257 : decode cX8_init 257 = .ok (.aload_n 0, 1) := by decide +kernel
theorem dX8_init_258 : decode cX8_init 258 = .ok (.bipush 24, 2) := by decide +kernel
theorem dX8_init_260 : decode cX8_init 260 = .ok (.bipush 32, 2) := by decide +kernel
theorem dX8_init_262 : decode cX8_init 262 = .ok (.bipush 59, 2) := by decide +kernel
theorem dX8_init_264 : decode cX8_init 264 = .ok (.bipush 32, 2) := by decide +kernel
theorem dX8_init_266 : decode cX8_init 266 = .ok (.bipush 114, 2) := by decide +kernel
theorem dX8_init_268 : decode cX8_init 268 = .ok (.bipush 117, 2) := by decide +kernel
theorem dX8_init_270 : decode cX8_init 270 = .ok (.bipush 98, 2) := by decide +kernel
theorem dX8_init_272 : decode cX8_init 272 = .ok (.bipush 115, 2) := by decide +kernel
theorem dX8_init_274 : decode cX8_init 274 = .ok (.bipush 32, 2) := by decide +kernel
theorem dX8_init_276 : decode cX8_init 276 = .ok (.invokevirtual 90, 3) := by decide +kernel
theorem dX8_init_279 : decode cX8_init 279 = .ok (.aload_n 0, 1) := by decide +kernel
theorem dX8_init_280 : decode cX8_init 280 = .ok (.bipush 32, 2) := by decide +kernel
theorem dX8_init_282 : decode cX8_init 282 = .ok (.bipush 97, 2) := by decide +kernel
theorem dX8_init_284 : decode cX8_init 284 = .ok (.bipush 112, 2) := by decide +kernel
theorem dX8_init_286 : decode cX8_init 286 = .ok (.bipush 97, 2) := by decide +kernel
theorem dX8_init_288 : decode cX8_init 288 = .ok (.bipush 114, 2) := by decide +kernel
theorem dX8_init_290 : decode cX8_init 290 = .ok (.bipush 116, 2) := by decide +kernel
theorem dX8_init_292 : decode cX8_init 292 = .ok (.bipush 32, 2) := by decide +kernel
theorem dX8_init_294 : decode cX8_init 294 = .ok (.bipush 59, 2) := by decide +kernel
theorem dX8_init_296 : decode cX8_init 296 = .ok (.bipush 32, 2) := by decide +kernel
theorem dX8_init_298 : decode cX8_init 298 = .ok (.invokevirtual 90, 3) := by decide +kernel
theorem dX8_init_301 : decode cX8_init 301 = .ok (.aload_n 0, 1) := by decide +kernel
theorem dX8_init_302 : decode cX8_init 302 = .ok (.bipush 40, 2) := by decide +kernel
theorem dX8_init_304 : decode cX8_init 304 = .ok (.bipush 112, 2) := by decide +kernel
theorem dX8_init_306 : decode cX8_init 306 = .ok (.bipush 114, 2) := by decide +kernel
theorem dX8_init_308 : decode cX8_init 308 = .ok (.bipush 105, 2) := by decide +kernel
theorem dX8_init_310 : decode cX8_init 310 = .ok (.bipush 99, 2) := by decide +kernel
theorem dX8_init_312 : decode cX8_init 312 = .ok (.bipush 101, 2) := by decide +kernel
theorem dX8_init_314 : decode cX8_init 314 = .ok (.bipush 32, 2) := by decide +kernel
theorem dX8_init_316 : decode cX8_init 316 = .ok (.bipush 50, 2) := by decide +kernel
theorem dX8_init_318 : decode cX8_init 318 = .ok (.bipush 48, 2) := by decide +kernel
theorem dX8_init_320 : decode cX8_init 320 = .ok (.invokevirtual 90, 3) := by decide +kernel
theorem dX8_init_323 : decode cX8_init 323 = .ok (.aload_n 0, 1) := by decide +kernel
theorem dX8_init_324 : decode cX8_init 324 = .ok (.bipush 48, 2) := by decide +kernel
theorem dX8_init_326 : decode cX8_init 326 = .ok (.bipush 32, 2) := by decide +kernel
theorem dX8_init_328 : decode cX8_init 328 = .ok (.bipush 43, 2) := by decide +kernel
theorem dX8_init_330 : decode cX8_init 330 = .ok (.bipush 32, 2) := by decide +kernel
theorem dX8_init_332 : decode cX8_init 332 = .ok (.bipush 115, 2) := by decide +kernel
theorem dX8_init_334 : decode cX8_init 334 = .ok (.bipush 105, 2) := by decide +kernel
theorem dX8_init_336 : decode cX8_init 336 = .ok (.bipush 122, 2) := by decide +kernel
theorem dX8_init_338 : decode cX8_init 338 = .ok (.bipush 101, 2) := by decide +kernel
theorem dX8_init_340 : decode cX8_init 340 = .ok (.bipush 32, 2) := by decide +kernel
theorem dX8_init_342 : decode cX8_init 342 = .ok (.invokevirtual 90, 3) := by decide +kernel
theorem dX8_init_345 : decode cX8_init 345 = .ok (.aload_n 0, 1) := by decide +kernel
theorem dX8_init_346 : decode cX8_init 346 = .ok (.bipush 56, 2) := by decide +kernel
theorem dX8_init_348 : decode cX8_init 348 = .ok (.bipush 59, 2) := by decide +kernel
theorem dX8_init_350 : decode cX8_init 350 = .ok (.bipush 32, 2) := by decide +kernel
theorem dX8_init_352 : decode cX8_init 352 = .ok (.bipush 32, 2) := by decide +kernel
theorem dX8_init_354 : decode cX8_init 354 = .ok (.bipush 32, 2) := by decide +kernel
theorem dX8_init_356 : decode cX8_init 356 = .ok (.bipush 32, 2) := by decide +kernel
theorem dX8_init_358 : decode cX8_init 358 = .ok (.bipush 32, 2) := by decide +kernel
theorem dX8_init_360 : decode cX8_init 360 = .ok (.bipush 32, 2) := by decide +kernel
theorem dX8_init_362 : decode cX8_init 362 = .ok (.bipush 32, 2) := by decide +kernel
theorem dX8_init_364 : decode cX8_init 364 = .ok (.invokevirtual 90, 3) := by decide +kernel
theorem dX8_init_367 : decode cX8_init 367 = .ok (.aload_n 0, 1) := by decide +kernel
theorem dX8_init_368 : decode cX8_init 368 = .ok (.getfield 17, 3) := by decide +kernel
theorem dX8_init_371 : decode cX8_init 371 = .ok (.iconst 0, 1) := by decide +kernel
theorem dX8_init_372 : decode cX8_init 372 = .ok (.bipush 64, 2) := by decide +kernel
theorem dX8_init_374 : decode cX8_init 374 = .ok (.iastore, 1) := by decide +kernel
theorem dX8_init_375 : decode cX8_init 375 = .ok (.aload_n 0, 1) := by decide +kernel
theorem dX8_init_376 : decode cX8_init 376 = .ok (.iconst 1, 1) := by decide +kernel
theorem dX8_init_377 : decode cX8_init 377 = .ok (.putfield 94, 3) := by decide +kernel
theorem dX8_init_380 : decode cX8_init 380 = .ok (.return_, 1) := by decide +kernel
theorem dX8_spell_0 : decode cX8_spell 0 = .ok (.aload_n 0, 1) := by decide +kernel
theorem dX8_spell_1 : decode cX8_spell 1 = .ok (.getfield 13, 3) := by decide +kernel
theorem dX8_spell_4 : decode cX8_spell 4 = .ok (.iload_n 1, 1) := by decide +kernel
theorem dX8_spell_5 : decode cX8_spell 5 = .ok (.iload_n 2, 1) := by decide +kernel
theorem dX8_spell_6 : decode cX8_spell 6 = .ok (.iastore, 1) := by decide +kernel
theorem dX8_spell_7 : decode cX8_spell 7 = .ok (.aload_n 0, 1) := by decide +kernel
theorem dX8_spell_8 : decode cX8_spell 8 = .ok (.getfield 13, 3) := by decide +kernel
theorem dX8_spell_11 : decode cX8_spell 11 = .ok (.iload_n 1, 1) := by decide +kernel
theorem dX8_spell_12 : decode cX8_spell 12 = .ok (.iconst 1, 1) := by decide +kernel
theorem dX8_spell_13 : decode cX8_spell 13 = .ok (.iadd, 1) := by decide +kernel
theorem dX8_spell_14 : decode cX8_spell 14 = .ok (.iload_n 3, 1) := by decide +kernel
theorem dX8_spell_15 : decode cX8_spell 15 = .ok (.iastore, 1) := by decide +kernel
theorem dX8_spell_16 : decode cX8_spell 16 = .ok (.aload_n 0, 1) := by decide +kernel
theorem dX8_spell_17 : decode cX8_spell 17 = .ok (.getfield 13, 3) := by decide +kernel
theorem dX8_spell_20 : decode cX8_spell 20 = .ok (.iload_n 1, 1) := by decide +kernel
theorem dX8_spell_21 : decode cX8_spell 21 = .ok (.iconst 2, 1) := by decide +kernel
theorem dX8_spell_22 : decode cX8_spell 22 = .ok (.iadd, 1) := by decide +kernel
theorem dX8_spell_23 : decode cX8_spell 23 = .ok (.iload 4, 2) := by decide +kernel
theorem dX8_spell_25 : decode cX8_spell 25 = .ok (.iastore, 1) := by decide +kernel
theorem dX8_spell_26 : decode cX8_spell 26 = .ok (.aload_n 0, 1) := by decide +kernel
theorem dX8_spell_27 : decode cX8_spell 27 = .ok (.getfield 13, 3) := by decide +kernel
theorem dX8_spell_30 : decode cX8_spell 30 = .ok (.iload_n 1, 1) := by decide +kernel
theorem dX8_spell_31 : decode cX8_spell 31 = .ok (.iconst 3, 1) := by decide +kernel
theorem dX8_spell_32 : decode cX8_spell 32 = .ok (.iadd, 1) := by decide +kernel
theorem dX8_spell_33 : decode cX8_spell 33 = .ok (.iload 5, 2) := by decide +kernel
theorem dX8_spell_35 : decode cX8_spell 35 = .ok (.iastore, 1) := by decide +kernel
theorem dX8_spell_36 : decode cX8_spell 36 = .ok (.aload_n 0, 1) := by decide +kernel
theorem dX8_spell_37 : decode cX8_spell 37 = .ok (.getfield 13, 3) := by decide +kernel
theorem dX8_spell_40 : decode cX8_spell 40 = .ok (.iload_n 1, 1) := by decide +kernel
theorem dX8_spell_41 : decode cX8_spell 41 = .ok (.iconst 4, 1) := by decide +kernel
theorem dX8_spell_42 : decode cX8_spell 42 = .ok (.iadd, 1) := by decide +kernel
theorem dX8_spell_43 : decode cX8_spell 43 = .ok (.iload 6, 2) := by decide +kernel
theorem dX8_spell_45 : decode cX8_spell 45 = .ok (.iastore, 1) := by decide +kernel
theorem dX8_spell_46 : decode cX8_spell 46 = .ok (.aload_n 0, 1) := by decide +kernel
theorem dX8_spell_47 : decode cX8_spell 47 = .ok (.getfield 13, 3) := by decide +kernel
theorem dX8_spell_50 : decode cX8_spell 50 = .ok (.iload_n 1, 1) := by decide +kernel
theorem dX8_spell_51 : decode cX8_spell 51 = .ok (.iconst 5, 1) := by decide +kernel
theorem dX8_spell_52 : decode cX8_spell 52 = .ok (.iadd, 1) := by decide +kernel
theorem dX8_spell_53 : decode cX8_spell 53 = .ok (.iload 7, 2) := by decide +kernel
theorem dX8_spell_55 : decode cX8_spell 55 = .ok (.iastore, 1) := by decide +kernel
theorem dX8_spell_56 : decode cX8_spell 56 = .ok (.aload_n 0, 1) := by decide +kernel
theorem dX8_spell_57 : decode cX8_spell 57 = .ok (.getfield 13, 3) := by decide +kernel
theorem dX8_spell_60 : decode cX8_spell 60 = .ok (.iload_n 1, 1) := by decide +kernel
theorem dX8_spell_61 : decode cX8_spell 61 = .ok (.bipush 6, 2) := by decide +kernel
theorem dX8_spell_63 : decode cX8_spell 63 = .ok (.iadd, 1) := by decide +kernel
theorem dX8_spell_64 : decode cX8_spell 64 = .ok (.iload 8, 2) := by decide +kernel
theorem dX8_spell_66 : decode cX8_spell 66 = .ok (.iastore, 1) := by decide +kernel
theorem dX8_spell_67 : decode cX8_spell 67 = .ok (.aload_n 0, 1) := by decide +kernel
theorem dX8_spell_68 : decode cX8_spell 68 = .ok (.getfield 13, 3) := by decide +kernel
theorem dX8_spell_71 : decode cX8_spell 71 = .ok (.iload_n 1, 1) := by decide +kernel
theorem dX8_spell_72 : decode cX8_spell 72 = .ok (.bipush 7, 2) := by decide +kernel
theorem dX8_spell_74 : decode cX8_spell 74 = .ok (.iadd, 1) := by decide +kernel
theorem dX8_spell_75 : decode cX8_spell 75 = .ok (.iload 9, 2) := by decide +kernel
theorem dX8_spell_77 : decode cX8_spell 77 = .ok (.iastore, 1) := by decide +kernel
theorem dX8_spell_78 : decode cX8_spell 78 = .ok (.return_, 1) := by decide +kernel
theorem dX8_isMake_0 : decode cX8_isMake 0 = .ok (.iload_n 1, 1) := by decide +kernel
theorem dX8_isMake_1 : decode cX8_isMake 1 = .ok (.i2l, 1) := by decide +kernel
theorem dX8_isMake_2 : decode cX8_isMake 2 = .ok (.lconst 0, 1) := by decide +kernel
theorem dX8_isMake_3 : decode cX8_isMake 3 = .ok (.aload_n 0, 1) := by decide +kernel
theorem dX8_isMake_4 : decode cX8_isMake 4 = .ok (.getfield 97, 3) := by decide +kernel
theorem dX8_isMake_7 : decode cX8_isMake 7 = .ok (.iconst 1, 1) := by decide +kernel
theorem dX8_isMake_8 : decode cX8_isMake 8 = .ok (.isub, 1) := by decide +kernel
theorem dX8_isMake_9 : decode cX8_isMake 9 = .ok (.i2l, 1) := by decide +kernel
theorem dX8_isMake_10 : decode cX8_isMake 10 = .ok (.invokestatic 100, 3) := by decide +kernel
theorem dX8_isMake_13 : decode cX8_isMake 13 = .ok (.ireturn, 1) := by decide +kernel
theorem dX8_isFoot_0 : decode cX8_isFoot 0 = .ok (.iload_n 0, 1) := by decide +kernel
theorem dX8_isFoot_1 : decode cX8_isFoot 1 = .ok (.i2l, 1) := by decide +kernel
theorem dX8_isFoot_2 : decode cX8_isFoot 2 = .ok (.lconst 0, 1) := by decide +kernel
theorem dX8_isFoot_3 : decode cX8_isFoot 3 = .ok (.ldc2_w 104, 3) := by decide +kernel
theorem dX8_isFoot_6 : decode cX8_isFoot 6 = .ok (.invokestatic 100, 3) := by decide +kernel
theorem dX8_isFoot_9 : decode cX8_isFoot 9 = .ok (.ireturn, 1) := by decide +kernel
theorem dX8_set_0 : decode cX8_set 0 = .ok (.iload_n 1, 1) := by decide +kernel
theorem dX8_set_1 : decode cX8_set 1 = .ok (.i2l, 1) := by decide +kernel
theorem dX8_set_2 : decode cX8_set 2 = .ok (.lconst 0, 1) := by decide +kernel
theorem dX8_set_3 : decode cX8_set 3 = .ok (.ldc2_w 106, 3) := by decide +kernel
theorem dX8_set_6 : decode cX8_set 6 = .ok (.invokestatic 100, 3) := by decide +kernel
theorem dX8_set_9 : decode cX8_set 9 = .ok (.ifCond .eq 28, 3) := by decide +kernel
theorem dX8_set_12 : decode cX8_set 12 = .ok (.iload_n 1, 1) := by decide +kernel
theorem dX8_set_13 : decode cX8_set 13 = .ok (.iconst 3, 1) := by decide +kernel
theorem dX8_set_14 : decode cX8_set 14 = .ok (.if_icmp .ne 10, 3) := by decide +kernel
theorem dX8_set_17 : decode cX8_set 17 = .ok (.iload_n 2, 1) := by decide +kernel
theorem dX8_set_18 : decode cX8_set 18 = .ok (.invokestatic 108, 3) := by decide +kernel
theorem dX8_set_21 : decode cX8_set 21 = .ok (.ifCond .eq 16, 3) := by decide +kernel
theorem dX8_set_24 : decode cX8_set 24 = .ok (.iload_n 1, 1) := by decide +kernel
theorem dX8_set_25 : decode cX8_set 25 = .ok (.iconst 3, 1) := by decide +kernel
theorem dX8_set_26 : decode cX8_set 26 = .ok (.if_icmp .le 14, 3) := by decide +kernel
theorem dX8_set_29 : decode cX8_set 29 = .ok (.aload_n 0, 1) := by decide +kernel
theorem dX8_set_30 : decode cX8_set 30 = .ok (.iload_n 2, 1) := by decide +kernel
theorem dX8_set_31 : decode cX8_set 31 = .ok (.invokevirtual 112, 3) := by decide +kernel
theorem dX8_set_34 : decode cX8_set 34 = .ok (.ifCond .ne 6, 3) := by decide +kernel
theorem dX8_set_37 : decode cX8_set 37 = .ok (.bipush (-100), 2) := by decide +kernel
theorem dX8_set_39 : decode cX8_set 39 = .ok (.ireturn, 1) := by decide +kernel
theorem dX8_set_40 : decode cX8_set 40 = .ok (.iload_n 3, 1) := by decide +kernel
theorem dX8_set_41 : decode cX8_set 41 = .ok (.i2l, 1) := by decide +kernel
theorem dX8_set_42 : decode cX8_set 42 = .ok (.iload_n 1, 1) := by decide +kernel
theorem dX8_set_43 : decode cX8_set 43 = .ok (.iconst 5, 1) := by decide +kernel
theorem dX8_set_44 : decode cX8_set 44 = .ok (.if_icmp .ne 9, 3) := by decide +kernel
theorem dX8_set_47 : decode cX8_set 47 = .ok (.ldc2_w 115, 3) := by decide +kernel
theorem dX8_set_50 : decode cX8_set 50 = .ok (.goto 4, 3) := by decide +kernel
theorem dX8_set_53 : decode cX8_set 53 = .ok (.lconst 0, 1) := by decide +kernel
theorem dX8_set_54 : decode cX8_set 54 = .ok (.iload_n 1, 1) := by decide +kernel
theorem dX8_set_55 : decode cX8_set 55 = .ok (.iconst 2, 1) := by decide +kernel
theorem dX8_set_56 : decode cX8_set 56 = .ok (.if_icmp .ge 9, 3) := by decide +kernel
theorem dX8_set_59 : decode cX8_set 59 = .ok (.ldc2_w 104, 3) := by decide +kernel
theorem dX8_set_62 : decode cX8_set 62 = .ok (.goto 29, 3) := by decide +kernel
theorem dX8_set_65 : decode cX8_set 65 = .ok (.iload_n 1, 1) := by decide +kernel
theorem dX8_set_66 : decode cX8_set 66 = .ok (.iconst 2, 1) := by decide +kernel
theorem dX8_set_67 : decode cX8_set 67 = .ok (.if_icmp .ne 9, 3) := by decide +kernel
theorem dX8_set_70 : decode cX8_set 70 = .ok (.ldc2_w 117, 3) := by decide +kernel
theorem dX8_set_73 : decode cX8_set 73 = .ok (.goto 18, 3) := by decide +kernel
theorem dX8_set_76 : decode cX8_set 76 = .ok (.iload_n 1, 1) := by decide +kernel
theorem dX8_set_77 : decode cX8_set 77 = .ok (.bipush 6, 2) := by decide +kernel
theorem dX8_set_79 : decode cX8_set 79 = .ok (.if_icmp .ne 9, 3) := by decide +kernel
theorem dX8_set_82 : decode cX8_set 82 = .ok (.ldc2_w 119, 3) := by decide +kernel
theorem dX8_set_85 : decode cX8_set 85 = .ok (.goto 6, 3) := by decide +kernel
theorem dX8_set_88 : decode cX8_set 88 = .ok (.ldc2_w 121, 3) := by decide +kernel
theorem dX8_set_91 : decode cX8_set 91 = .ok (.invokestatic 100, 3) := by decide +kernel
theorem dX8_set_94 : decode cX8_set 94 = .ok (.ifCond .ne 6, 3) := by decide +kernel
theorem dX8_set_97 : decode cX8_set 97 = .ok (.bipush (-100), 2) := by decide +kernel
theorem dX8_set_99 : decode cX8_set 99 = .ok (.ireturn, 1) := by decide +kernel
theorem dX8_set_100 : decode cX8_set 100 = .ok (.aload_n 0, 1) := by decide +kernel
theorem dX8_set_101 : decode cX8_set 101 = .ok (.iload_n 2, 1) := by decide +kernel
theorem dX8_set_102 : decode cX8_set 102 = .ok (.iload_n 1, 1) := by decide +kernel
theorem dX8_set_103 : decode cX8_set 103 = .ok (.invokevirtual 123, 3) := by decide +kernel
theorem dX8_set_106 : decode cX8_set 106 = .ok (.istore 4, 2) := by decide +kernel
theorem dX8_set_108 : decode cX8_set 108 = .ok (.iload_n 1, 1) := by decide +kernel
theorem dX8_set_109 : decode cX8_set 109 = .ok (.ifCond .ne 11, 3) := by decide +kernel
theorem dX8_set_112 : decode cX8_set 112 = .ok (.aload_n 0, 1) := by decide +kernel
theorem dX8_set_113 : decode cX8_set 113 = .ok (.iload_n 3, 1) := by decide +kernel
theorem dX8_set_114 : decode cX8_set 114 = .ok (.putfield 23, 3) := by decide +kernel
theorem dX8_set_117 : decode cX8_set 117 = .ok (.goto 81, 3) := by decide +kernel
theorem dX8_set_120 : decode cX8_set 120 = .ok (.iload_n 1, 1) := by decide +kernel
theorem dX8_set_121 : decode cX8_set 121 = .ok (.iconst 1, 1) := by decide +kernel
theorem dX8_set_122 : decode cX8_set 122 = .ok (.if_icmp .ne 11, 3) := by decide +kernel
theorem dX8_set_125 : decode cX8_set 125 = .ok (.aload_n 0, 1) := by decide +kernel
theorem dX8_set_126 : decode cX8_set 126 = .ok (.iload_n 3, 1) := by decide +kernel
theorem dX8_set_127 : decode cX8_set 127 = .ok (.putfield 26, 3) := by decide +kernel
theorem dX8_set_130 : decode cX8_set 130 = .ok (.goto 68, 3) := by decide +kernel
theorem dX8_set_133 : decode cX8_set 133 = .ok (.iload_n 1, 1) := by decide +kernel
theorem dX8_set_134 : decode cX8_set 134 = .ok (.iconst 2, 1) := by decide +kernel
theorem dX8_set_135 : decode cX8_set 135 = .ok (.if_icmp .ne 11, 3) := by decide +kernel
theorem dX8_set_138 : decode cX8_set 138 = .ok (.aload_n 0, 1) := by decide +kernel
theorem dX8_set_139 : decode cX8_set 139 = .ok (.iload_n 3, 1) := by decide +kernel
theorem dX8_set_140 : decode cX8_set 140 = .ok (.putfield 29, 3) := by decide +kernel
theorem dX8_set_143 : decode cX8_set 143 = .ok (.goto 55, 3) := by decide +kernel
theorem dX8_set_146 : decode cX8_set 146 = .ok (.iload_n 1, 1) := by decide +kernel
theorem dX8_set_147 : decode cX8_set 147 = .ok (.iconst 3, 1) := by decide +kernel
theorem dX8_set_148 : decode cX8_set 148 = .ok (.if_icmp .ne 13, 3) := by decide +kernel
theorem dX8_set_151 : decode cX8_set 151 = .ok (.aload_n 0, 1) := by decide +kernel
theorem dX8_set_152 : decode cX8_set 152 = .ok (.getfield 32, 3) := by decide +kernel
theorem dX8_set_155 : decode cX8_set 155 = .ok (.iload_n 2, 1) := by decide +kernel
theorem dX8_set_156 : decode cX8_set 156 = .ok (.iload_n 3, 1) := by decide +kernel
theorem dX8_set_157 : decode cX8_set 157 = .ok (.iastore, 1) := by decide +kernel
theorem dX8_set_158 : decode cX8_set 158 = .ok (.goto 40, 3) := by decide +kernel
theorem dX8_set_161 : decode cX8_set 161 = .ok (.iload_n 1, 1) := by decide +kernel
theorem dX8_set_162 : decode cX8_set 162 = .ok (.iconst 4, 1) := by decide +kernel
theorem dX8_set_163 : decode cX8_set 163 = .ok (.if_icmp .ne 13, 3) := by decide +kernel
theorem dX8_set_166 : decode cX8_set 166 = .ok (.aload_n 0, 1) := by decide +kernel
theorem dX8_set_167 : decode cX8_set 167 = .ok (.getfield 38, 3) := by decide +kernel
theorem dX8_set_170 : decode cX8_set 170 = .ok (.iload_n 2, 1) := by decide +kernel
theorem dX8_set_171 : decode cX8_set 171 = .ok (.iload_n 3, 1) := by decide +kernel
theorem dX8_set_172 : decode cX8_set 172 = .ok (.iastore, 1) := by decide +kernel
theorem dX8_set_173 : decode cX8_set 173 = .ok (.goto 25, 3) := by decide +kernel
theorem dX8_set_176 : decode cX8_set 176 = .ok (.iload_n 1, 1) := by decide +kernel
theorem dX8_set_177 : decode cX8_set 177 = .ok (.iconst 5, 1) := by decide +kernel
theorem dX8_set_178 : decode cX8_set 178 = .ok (.if_icmp .ne 13, 3) := by decide +kernel
theorem dX8_set_181 : decode cX8_set 181 = .ok (.aload_n 0, 1) := by decide +kernel
theorem dX8_set_182 : decode cX8_set 182 = .ok (.getfield 41, 3) := by decide +kernel
theorem dX8_set_185 : decode cX8_set 185 = .ok (.iload_n 2, 1) := by decide +kernel
theorem dX8_set_186 : decode cX8_set 186 = .ok (.iload_n 3, 1) := by decide +kernel
theorem dX8_set_187 : decode cX8_set 187 = .ok (.iastore, 1) := by decide +kernel
theorem dX8_set_188 : decode cX8_set 188 = .ok (.goto 10, 3) := by decide +kernel
theorem dX8_set_191 : decode cX8_set 191 = .ok (.aload_n 0, 1) := by decide +kernel
theorem dX8_set_192 : decode cX8_set 192 = .ok (.getfield 44, 3) := by decide +kernel
theorem dX8_set_195 : decode cX8_set 195 = .ok (.iload_n 2, 1) := by decide +kernel
theorem dX8_set_196 : decode cX8_set 196 = .ok (.iload_n 3, 1) := by decide +kernel
theorem dX8_set_197 : decode cX8_set 197 = .ok (.iastore, 1) := by decide +kernel
theorem dX8_set_198 : decode cX8_set 198 = .ok (.iload 4, 2) := by decide +kernel
theorem dX8_set_200 : decode cX8_set 200 = .ok (.ireturn, 1) := by decide +kernel
theorem dX8_make_0 : decode cX8_make 0 = .ok (.iload_n 1, 1) := by decide +kernel
theorem dX8_make_1 : decode cX8_make 1 = .ok (.i2l, 1) := by decide +kernel
theorem dX8_make_2 : decode cX8_make 2 = .ok (.lconst 0, 1) := by decide +kernel
theorem dX8_make_3 : decode cX8_make 3 = .ok (.ldc2_w 127, 3) := by decide +kernel
theorem dX8_make_6 : decode cX8_make 6 = .ok (.invokestatic 100, 3) := by decide +kernel
theorem dX8_make_9 : decode cX8_make 9 = .ok (.ifCond .eq 36, 3) := by decide +kernel
theorem dX8_make_12 : decode cX8_make 12 = .ok (.iload_n 2, 1) := by decide +kernel
theorem dX8_make_13 : decode cX8_make 13 = .ok (.i2l, 1) := by decide +kernel
theorem dX8_make_14 : decode cX8_make 14 = .ok (.lconst 0, 1) := by decide +kernel
theorem dX8_make_15 : decode cX8_make 15 = .ok (.ldc2_w 129, 3) := by decide +kernel
theorem dX8_make_18 : decode cX8_make 18 = .ok (.invokestatic 100, 3) := by decide +kernel
theorem dX8_make_21 : decode cX8_make 21 = .ok (.ifCond .eq 24, 3) := by decide +kernel
theorem dX8_make_24 : decode cX8_make 24 = .ok (.iload_n 2, 1) := by decide +kernel
theorem dX8_make_25 : decode cX8_make 25 = .ok (.bipush 100, 2) := by decide +kernel
theorem dX8_make_27 : decode cX8_make 27 = .ok (.irem, 1) := by decide +kernel
theorem dX8_make_28 : decode cX8_make 28 = .ok (.bipush 18, 2) := by decide +kernel
theorem dX8_make_30 : decode cX8_make 30 = .ok (.if_icmp .gt 15, 3) := by decide +kernel
theorem dX8_make_33 : decode cX8_make 33 = .ok (.iload_n 3, 1) := by decide +kernel
theorem dX8_make_34 : decode cX8_make 34 = .ok (.i2l, 1) := by decide +kernel
theorem dX8_make_35 : decode cX8_make 35 = .ok (.lconst 0, 1) := by decide +kernel
theorem dX8_make_36 : decode cX8_make 36 = .ok (.ldc2_w 119, 3) := by decide +kernel
theorem dX8_make_39 : decode cX8_make 39 = .ok (.invokestatic 100, 3) := by decide +kernel
theorem dX8_make_42 : decode cX8_make 42 = .ok (.ifCond .ne 6, 3) := by decide +kernel
theorem dX8_make_45 : decode cX8_make 45 = .ok (.bipush (-2), 2) := by decide +kernel
theorem dX8_make_47 : decode cX8_make 47 = .ok (.ireturn, 1) := by decide +kernel
theorem dX8_make_48 : decode cX8_make 48 = .ok (.aload_n 0, 1) := by decide +kernel
theorem dX8_make_49 : decode cX8_make 49 = .ok (.getfield 97, 3) := by decide +kernel
theorem dX8_make_52 : decode cX8_make 52 = .ok (.iconst 5, 1) := by decide +kernel
theorem dX8_make_53 : decode cX8_make 53 = .ok (.if_icmp .ne 6, 3) := by decide +kernel
theorem dX8_make_56 : decode cX8_make 56 = .ok (.bipush (-4), 2) := by decide +kernel
theorem dX8_make_58 : decode cX8_make 58 = .ok (.ireturn, 1) := by decide +kernel
theorem dX8_make_59 : decode cX8_make 59 = .ok (.aload_n 0, 1) := by decide +kernel
theorem dX8_make_60 : decode cX8_make 60 = .ok (.getfield 35, 3) := by decide +kernel
theorem dX8_make_63 : decode cX8_make 63 = .ok (.aload_n 0, 1) := by decide +kernel
theorem dX8_make_64 : decode cX8_make 64 = .ok (.getfield 97, 3) := by decide +kernel
theorem dX8_make_67 : decode cX8_make 67 = .ok (.iload_n 1, 1) := by decide +kernel
theorem dX8_make_68 : decode cX8_make 68 = .ok (.iastore, 1) := by decide +kernel
theorem dX8_make_69 : decode cX8_make 69 = .ok (.aload_n 0, 1) := by decide +kernel
theorem dX8_make_70 : decode cX8_make 70 = .ok (.getfield 38, 3) := by decide +kernel
theorem dX8_make_73 : decode cX8_make 73 = .ok (.aload_n 0, 1) := by decide +kernel
theorem dX8_make_74 : decode cX8_make 74 = .ok (.getfield 97, 3) := by decide +kernel
theorem dX8_make_77 : decode cX8_make 77 = .ok (.iload_n 2, 1) := by decide +kernel
theorem dX8_make_78 : decode cX8_make 78 = .ok (.bipush 100, 2) := by decide +kernel
theorem dX8_make_80 : decode cX8_make 80 = .ok (.idiv, 1) := by decide +kernel
theorem dX8_make_81 : decode cX8_make 81 = .ok (.iastore, 1) := by decide +kernel
theorem dX8_make_82 : decode cX8_make 82 = .ok (.aload_n 0, 1) := by decide +kernel
theorem dX8_make_83 : decode cX8_make 83 = .ok (.getfield 41, 3) := by decide +kernel
theorem dX8_make_86 : decode cX8_make 86 = .ok (.aload_n 0, 1) := by decide +kernel
theorem dX8_make_87 : decode cX8_make 87 = .ok (.getfield 97, 3) := by decide +kernel
theorem dX8_make_90 : decode cX8_make 90 = .ok (.iload_n 2, 1) := by decide +kernel
theorem dX8_make_91 : decode cX8_make 91 = .ok (.bipush 100, 2) := by decide +kernel
theorem dX8_make_93 : decode cX8_make 93 = .ok (.irem, 1) := by decide +kernel
theorem dX8_make_94 : decode cX8_make 94 = .ok (.bipush 9, 2) := by decide +kernel
theorem dX8_make_96 : decode cX8_make 96 = .ok (.isub, 1) := by decide +kernel
theorem dX8_make_97 : decode cX8_make 97 = .ok (.iastore, 1) := by decide +kernel
theorem dX8_make_98 : decode cX8_make 98 = .ok (.aload_n 0, 1) := by decide +kernel
theorem dX8_make_99 : decode cX8_make 99 = .ok (.getfield 44, 3) := by decide +kernel
theorem dX8_make_102 : decode cX8_make 102 = .ok (.aload_n 0, 1) := by decide +kernel
theorem dX8_make_103 : decode cX8_make 103 = .ok (.getfield 97, 3) := by decide +kernel
theorem dX8_make_106 : decode cX8_make 106 = .ok (.iload_n 3, 1) := by decide +kernel
theorem dX8_make_107 : decode cX8_make 107 = .ok (.iastore, 1) := by decide +kernel
theorem dX8_make_108 : decode cX8_make 108 = .ok (.aload_n 0, 1) := by decide +kernel
theorem dX8_make_109 : decode cX8_make 109 = .ok (.dup, 1) := by decide +kernel
theorem dX8_make_110 : decode cX8_make 110 = .ok (.getfield 97, 3) := by decide +kernel
theorem dX8_make_113 : decode cX8_make 113 = .ok (.iconst 1, 1) := by decide +kernel
theorem dX8_make_114 : decode cX8_make 114 = .ok (.iadd, 1) := by decide +kernel
theorem dX8_make_115 : decode cX8_make 115 = .ok (.putfield 97, 3) := by decide +kernel
theorem dX8_make_118 : decode cX8_make 118 = .ok (.aload_n 0, 1) := by decide +kernel
theorem dX8_make_119 : decode cX8_make 119 = .ok (.getfield 97, 3) := by decide +kernel
theorem dX8_make_122 : decode cX8_make 122 = .ok (.iconst 1, 1) := by decide +kernel
theorem dX8_make_123 : decode cX8_make 123 = .ok (.isub, 1) := by decide +kernel
theorem dX8_make_124 : decode cX8_make 124 = .ok (.ireturn, 1) := by decide +kernel
theorem dX8_told_0 : decode cX8_told 0 = .ok (.iload_n 2, 1) := by decide +kernel
theorem dX8_told_1 : decode cX8_told 1 = .ok (.i2l, 1) := by decide +kernel
theorem dX8_told_2 : decode cX8_told 2 = .ok (.lconst 0, 1) := by decide +kernel
theorem dX8_told_3 : decode cX8_told 3 = .ok (.ldc2_w 121, 3) := by decide +kernel
theorem dX8_told_6 : decode cX8_told 6 = .ok (.invokestatic 100, 3) := by decide +kernel
theorem dX8_told_9 : decode cX8_told 9 = .ok (.ifCond .eq 37, 3) := by decide +kernel
theorem dX8_told_12 : decode cX8_told 12 = .ok (.iload_n 2, 1) := by decide +kernel
theorem dX8_told_13 : decode cX8_told 13 = .ok (.iconst 3, 1) := by decide +kernel
theorem dX8_told_14 : decode cX8_told 14 = .ok (.if_icmp .ne 10, 3) := by decide +kernel
theorem dX8_told_17 : decode cX8_told 17 = .ok (.iload_n 1, 1) := by decide +kernel
theorem dX8_told_18 : decode cX8_told 18 = .ok (.invokestatic 108, 3) := by decide +kernel
theorem dX8_told_21 : decode cX8_told 21 = .ok (.ifCond .eq 25, 3) := by decide +kernel
theorem dX8_told_24 : decode cX8_told 24 = .ok (.iload_n 2, 1) := by decide +kernel
theorem dX8_told_25 : decode cX8_told 25 = .ok (.i2l, 1) := by decide +kernel
theorem dX8_told_26 : decode cX8_told 26 = .ok (.ldc2_w 131, 3) := by decide +kernel
theorem dX8_told_29 : decode cX8_told 29 = .ok (.ldc2_w 133, 3) := by decide +kernel
theorem dX8_told_32 : decode cX8_told 32 = .ok (.invokestatic 100, 3) := by decide +kernel
theorem dX8_told_35 : decode cX8_told 35 = .ok (.ifCond .eq 14, 3) := by decide +kernel
theorem dX8_told_38 : decode cX8_told 38 = .ok (.aload_n 0, 1) := by decide +kernel
theorem dX8_told_39 : decode cX8_told 39 = .ok (.iload_n 1, 1) := by decide +kernel
theorem dX8_told_40 : decode cX8_told 40 = .ok (.invokevirtual 112, 3) := by decide +kernel
theorem dX8_told_43 : decode cX8_told 43 = .ok (.ifCond .ne 6, 3) := by decide +kernel
theorem dX8_told_46 : decode cX8_told 46 = .ok (.bipush (-100), 2) := by decide +kernel
theorem dX8_told_48 : decode cX8_told 48 = .ok (.ireturn, 1) := by decide +kernel
theorem dX8_told_49 : decode cX8_told 49 = .ok (.iload_n 2, 1) := by decide +kernel
theorem dX8_told_50 : decode cX8_told 50 = .ok (.iconst 4, 1) := by decide +kernel
theorem dX8_told_51 : decode cX8_told 51 = .ok (.if_icmp .ge 45, 3) := by decide +kernel
theorem dX8_told_54 : decode cX8_told 54 = .ok (.iload_n 2, 1) := by decide +kernel
theorem dX8_told_55 : decode cX8_told 55 = .ok (.ifCond .ne 10, 3) := by decide +kernel
theorem dX8_told_58 : decode cX8_told 58 = .ok (.aload_n 0, 1) := by decide +kernel
theorem dX8_told_59 : decode cX8_told 59 = .ok (.getfield 23, 3) := by decide +kernel
theorem dX8_told_62 : decode cX8_told 62 = .ok (.goto 33, 3) := by decide +kernel
theorem dX8_told_65 : decode cX8_told 65 = .ok (.iload_n 2, 1) := by decide +kernel
theorem dX8_told_66 : decode cX8_told 66 = .ok (.iconst 1, 1) := by decide +kernel
theorem dX8_told_67 : decode cX8_told 67 = .ok (.if_icmp .ne 10, 3) := by decide +kernel
theorem dX8_told_70 : decode cX8_told 70 = .ok (.aload_n 0, 1) := by decide +kernel
theorem dX8_told_71 : decode cX8_told 71 = .ok (.getfield 26, 3) := by decide +kernel
theorem dX8_told_74 : decode cX8_told 74 = .ok (.goto 21, 3) := by decide +kernel
theorem dX8_told_77 : decode cX8_told 77 = .ok (.iload_n 2, 1) := by decide +kernel
theorem dX8_told_78 : decode cX8_told 78 = .ok (.iconst 2, 1) := by decide +kernel
theorem dX8_told_79 : decode cX8_told 79 = .ok (.if_icmp .ne 10, 3) := by decide +kernel
theorem dX8_told_82 : decode cX8_told 82 = .ok (.aload_n 0, 1) := by decide +kernel
theorem dX8_told_83 : decode cX8_told 83 = .ok (.getfield 29, 3) := by decide +kernel
