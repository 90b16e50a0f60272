theorem dX8_told_86 : decode cX8_told 86 = .ok (.goto 9, 3) := by decide +kernel
theorem dX8_told_89 : decode cX8_told 89 = .ok (.aload_n 0, 1) := by decide +kernel
theorem dX8_told_90 : decode cX8_told 90 = .ok (.getfield 32, 3) := by decide +kernel
theorem dX8_told_93 : decode cX8_told 93 = .ok (.iload_n 1, 1) := by decide +kernel
theorem dX8_told_94 : decode cX8_told 94 = .ok (.iaload, 1) := by decide +kernel
theorem dX8_told_95 : decode cX8_told 95 = .ok (.ireturn, 1) := by decide +kernel
theorem dX8_told_96 : decode cX8_told 96 = .ok (.iload_n 2, 1) := by decide +kernel
theorem dX8_told_97 : decode cX8_told 97 = .ok (.bipush 7, 2) := by decide +kernel
theorem dX8_told_99 : decode cX8_told 99 = .ok (.if_icmp .le 12, 3) := by decide +kernel
theorem dX8_told_102 : decode cX8_told 102 = .ok (.aload_n 0, 1) := by decide +kernel
theorem dX8_told_103 : decode cX8_told 103 = .ok (.iload_n 2, 1) := by decide +kernel
theorem dX8_told_104 : decode cX8_told 104 = .ok (.bipush 8, 2) := by decide +kernel
theorem dX8_told_106 : decode cX8_told 106 = .ok (.isub, 1) := by decide +kernel
theorem dX8_told_107 : decode cX8_told 107 = .ok (.invokevirtual 135, 3) := by decide +kernel
theorem dX8_told_110 : decode cX8_told 110 = .ok (.ireturn, 1) := by decide +kernel
theorem dX8_told_111 : decode cX8_told 111 = .ok (.iload_n 2, 1) := by decide +kernel
theorem dX8_told_112 : decode cX8_told 112 = .ok (.iconst 4, 1) := by decide +kernel
theorem dX8_told_113 : decode cX8_told 113 = .ok (.if_icmp .ne 12, 3) := by decide +kernel
theorem dX8_told_116 : decode cX8_told 116 = .ok (.aload_n 0, 1) := by decide +kernel
theorem dX8_told_117 : decode cX8_told 117 = .ok (.getfield 38, 3) := by decide +kernel
theorem dX8_told_120 : decode cX8_told 120 = .ok (.iload_n 1, 1) := by decide +kernel
theorem dX8_told_121 : decode cX8_told 121 = .ok (.iaload, 1) := by decide +kernel
theorem dX8_told_122 : decode cX8_told 122 = .ok (.goto 38, 3) := by decide +kernel
theorem dX8_told_125 : decode cX8_told 125 = .ok (.iload_n 2, 1) := by decide +kernel
theorem dX8_told_126 : decode cX8_told 126 = .ok (.iconst 5, 1) := by decide +kernel
theorem dX8_told_127 : decode cX8_told 127 = .ok (.if_icmp .ne 12, 3) := by decide +kernel
theorem dX8_told_130 : decode cX8_told 130 = .ok (.aload_n 0, 1) := by decide +kernel
theorem dX8_told_131 : decode cX8_told 131 = .ok (.getfield 41, 3) := by decide +kernel
theorem dX8_told_134 : decode cX8_told 134 = .ok (.iload_n 1, 1) := by decide +kernel
theorem dX8_told_135 : decode cX8_told 135 = .ok (.iaload, 1) := by decide +kernel
theorem dX8_told_136 : decode cX8_told 136 = .ok (.goto 24, 3) := by decide +kernel
theorem dX8_told_139 : decode cX8_told 139 = .ok (.iload_n 2, 1) := by decide +kernel
theorem dX8_told_140 : decode cX8_told 140 = .ok (.bipush 6, 2) := by decide +kernel
theorem dX8_told_142 : decode cX8_told 142 = .ok (.if_icmp .ne 12, 3) := by decide +kernel
theorem dX8_told_145 : decode cX8_told 145 = .ok (.aload_n 0, 1) := by decide +kernel
theorem dX8_told_146 : decode cX8_told 146 = .ok (.getfield 44, 3) := by decide +kernel
theorem dX8_told_149 : decode cX8_told 149 = .ok (.iload_n 1, 1) := by decide +kernel
theorem dX8_told_150 : decode cX8_told 150 = .ok (.iaload, 1) := by decide +kernel
theorem dX8_told_151 : decode cX8_told 151 = .ok (.goto 9, 3) := by decide +kernel
theorem dX8_told_154 : decode cX8_told 154 = .ok (.aload_n 0, 1) := by decide +kernel
theorem dX8_told_155 : decode cX8_told 155 = .ok (.getfield 35, 3) := by decide +kernel
theorem dX8_told_158 : decode cX8_told 158 = .ok (.iload_n 1, 1) := by decide +kernel
theorem dX8_told_159 : decode cX8_told 159 = .ok (.iaload, 1) := by decide +kernel
theorem dX8_told_160 : decode cX8_told 160 = .ok (.ireturn, 1) := by decide +kernel
theorem dX8_longOf_0 : decode cX8_longOf 0 = .ok (.iload_n 1, 1) := by decide +kernel
theorem dX8_longOf_1 : decode cX8_longOf 1 = .ok (.bipush 20, 2) := by decide +kernel
theorem dX8_longOf_3 : decode cX8_longOf 3 = .ok (.idiv, 1) := by decide +kernel
theorem dX8_longOf_4 : decode cX8_longOf 4 = .ok (.istore_n 2, 1) := by decide +kernel
theorem dX8_longOf_5 : decode cX8_longOf 5 = .ok (.iload_n 1, 1) := by decide +kernel
theorem dX8_longOf_6 : decode cX8_longOf 6 = .ok (.bipush 20, 2) := by decide +kernel
theorem dX8_longOf_8 : decode cX8_longOf 8 = .ok (.irem, 1) := by decide +kernel
theorem dX8_longOf_9 : decode cX8_longOf 9 = .ok (.istore_n 3, 1) := by decide +kernel
theorem dX8_longOf_10 : decode cX8_longOf 10 = .ok (.aload_n 0, 1) := by decide +kernel
theorem dX8_longOf_11 : decode cX8_longOf 11 = .ok (.getfield 35, 3) := by decide +kernel
theorem dX8_longOf_14 : decode cX8_longOf 14 = .ok (.iload_n 2, 1) := by decide +kernel
theorem dX8_longOf_15 : decode cX8_longOf 15 = .ok (.iaload, 1) := by decide +kernel
theorem dX8_longOf_16 : decode cX8_longOf 16 = .ok (.istore 4, 2) := by decide +kernel
theorem dX8_longOf_18 : decode cX8_longOf 18 = .ok (.iload 4, 2) := by decide +kernel
theorem dX8_longOf_20 : decode cX8_longOf 20 = .ok (.iconst 5, 1) := by decide +kernel
theorem dX8_longOf_21 : decode cX8_longOf 21 = .ok (.if_icmp .ne 17, 3) := by decide +kernel
theorem dX8_longOf_24 : decode cX8_longOf 24 = .ok (.bipush 10, 2) := by decide +kernel
theorem dX8_longOf_26 : decode cX8_longOf 26 = .ok (.iload_n 3, 1) := by decide +kernel
theorem dX8_longOf_27 : decode cX8_longOf 27 = .ok (.iconst 2, 1) := by decide +kernel
theorem dX8_longOf_28 : decode cX8_longOf 28 = .ok (.idiv, 1) := by decide +kernel
theorem dX8_longOf_29 : decode cX8_longOf 29 = .ok (.imul, 1) := by decide +kernel
theorem dX8_longOf_30 : decode cX8_longOf 30 = .ok (.aload_n 0, 1) := by decide +kernel
theorem dX8_longOf_31 : decode cX8_longOf 31 = .ok (.getfield 41, 3) := by decide +kernel
theorem dX8_longOf_34 : decode cX8_longOf 34 = .ok (.iload_n 2, 1) := by decide +kernel
theorem dX8_longOf_35 : decode cX8_longOf 35 = .ok (.iaload, 1) := by decide +kernel
theorem dX8_longOf_36 : decode cX8_longOf 36 = .ok (.iadd, 1) := by decide +kernel
theorem dX8_longOf_37 : decode cX8_longOf 37 = .ok (.ireturn, 1) := by decide +kernel
theorem dX8_longOf_38 : decode cX8_longOf 38 = .ok (.iconst 5, 1) := by decide +kernel
theorem dX8_longOf_39 : decode cX8_longOf 39 = .ok (.iload_n 3, 1) := by decide +kernel
theorem dX8_longOf_40 : decode cX8_longOf 40 = .ok (.imul, 1) := by decide +kernel
theorem dX8_longOf_41 : decode cX8_longOf 41 = .ok (.aload_n 0, 1) := by decide +kernel
theorem dX8_longOf_42 : decode cX8_longOf 42 = .ok (.getfield 41, 3) := by decide +kernel
theorem dX8_longOf_45 : decode cX8_longOf 45 = .ok (.iload_n 2, 1) := by decide +kernel
theorem dX8_longOf_46 : decode cX8_longOf 46 = .ok (.iaload, 1) := by decide +kernel
theorem dX8_longOf_47 : decode cX8_longOf 47 = .ok (.iadd, 1) := by decide +kernel
theorem dX8_longOf_48 : decode cX8_longOf 48 = .ok (.istore 5, 2) := by decide +kernel
theorem dX8_longOf_50 : decode cX8_longOf 50 = .ok (.iload 4, 2) := by decide +kernel
theorem dX8_longOf_52 : decode cX8_longOf 52 = .ok (.iconst 1, 1) := by decide +kernel
theorem dX8_longOf_53 : decode cX8_longOf 53 = .ok (.if_icmp .ne 15, 3) := by decide +kernel
theorem dX8_longOf_56 : decode cX8_longOf 56 = .ok (.iload 5, 2) := by decide +kernel
theorem dX8_longOf_58 : decode cX8_longOf 58 = .ok (.aload_n 0, 1) := by decide +kernel
theorem dX8_longOf_59 : decode cX8_longOf 59 = .ok (.getfield 38, 3) := by decide +kernel
theorem dX8_longOf_62 : decode cX8_longOf 62 = .ok (.iload_n 2, 1) := by decide +kernel
theorem dX8_longOf_63 : decode cX8_longOf 63 = .ok (.iaload, 1) := by decide +kernel
theorem dX8_longOf_64 : decode cX8_longOf 64 = .ok (.isub, 1) := by decide +kernel
theorem dX8_longOf_65 : decode cX8_longOf 65 = .ok (.goto 38, 3) := by decide +kernel
theorem dX8_longOf_68 : decode cX8_longOf 68 = .ok (.iload 4, 2) := by decide +kernel
theorem dX8_longOf_70 : decode cX8_longOf 70 = .ok (.iconst 3, 1) := by decide +kernel
theorem dX8_longOf_71 : decode cX8_longOf 71 = .ok (.if_icmp .ne 17, 3) := by decide +kernel
theorem dX8_longOf_74 : decode cX8_longOf 74 = .ok (.iload 5, 2) := by decide +kernel
theorem dX8_longOf_76 : decode cX8_longOf 76 = .ok (.aload_n 0, 1) := by decide +kernel
theorem dX8_longOf_77 : decode cX8_longOf 77 = .ok (.getfield 38, 3) := by decide +kernel
theorem dX8_longOf_80 : decode cX8_longOf 80 = .ok (.iload_n 2, 1) := by decide +kernel
theorem dX8_longOf_81 : decode cX8_longOf 81 = .ok (.iaload, 1) := by decide +kernel
theorem dX8_longOf_82 : decode cX8_longOf 82 = .ok (.isub, 1) := by decide +kernel
theorem dX8_longOf_83 : decode cX8_longOf 83 = .ok (.iconst 3, 1) := by decide +kernel
theorem dX8_longOf_84 : decode cX8_longOf 84 = .ok (.isub, 1) := by decide +kernel
theorem dX8_longOf_85 : decode cX8_longOf 85 = .ok (.goto 18, 3) := by decide +kernel
theorem dX8_longOf_88 : decode cX8_longOf 88 = .ok (.iload 4, 2) := by decide +kernel
theorem dX8_longOf_90 : decode cX8_longOf 90 = .ok (.iconst 4, 1) := by decide +kernel
theorem dX8_longOf_91 : decode cX8_longOf 91 = .ok (.if_icmp .ne 10, 3) := by decide +kernel
theorem dX8_longOf_94 : decode cX8_longOf 94 = .ok (.iload 5, 2) := by decide +kernel
theorem dX8_longOf_96 : decode cX8_longOf 96 = .ok (.iconst 2, 1) := by decide +kernel
theorem dX8_longOf_97 : decode cX8_longOf 97 = .ok (.iadd, 1) := by decide +kernel
theorem dX8_longOf_98 : decode cX8_longOf 98 = .ok (.goto 5, 3) := by decide +kernel
theorem dX8_longOf_101 : decode cX8_longOf 101 = .ok (.iload 5, 2) := by decide +kernel
theorem dX8_longOf_103 : decode cX8_longOf 103 = .ok (.ireturn, 1) := by decide +kernel
theorem dX8_plainly_0 : decode cX8_plainly 0 = .ok (.iload_n 0, 1) := by decide +kernel
theorem dX8_plainly_1 : decode cX8_plainly 1 = .ok (.bipush (-4), 2) := by decide +kernel
theorem dX8_plainly_3 : decode cX8_plainly 3 = .ok (.if_icmp .ge 8, 3) := by decide +kernel
theorem dX8_plainly_6 : decode cX8_plainly 6 = .ok (.bipush (-2), 2) := by decide +kernel
theorem dX8_plainly_8 : decode cX8_plainly 8 = .ok (.goto 32, 3) := by decide +kernel
theorem dX8_plainly_11 : decode cX8_plainly 11 = .ok (.iload_n 0, 1) := by decide +kernel
theorem dX8_plainly_12 : decode cX8_plainly 12 = .ok (.iconst (-1), 1) := by decide +kernel
theorem dX8_plainly_13 : decode cX8_plainly 13 = .ok (.if_icmp .ge 7, 3) := by decide +kernel
theorem dX8_plainly_16 : decode cX8_plainly 16 = .ok (.iconst (-1), 1) := by decide +kernel
theorem dX8_plainly_17 : decode cX8_plainly 17 = .ok (.goto 23, 3) := by decide +kernel
theorem dX8_plainly_20 : decode cX8_plainly 20 = .ok (.iload_n 0, 1) := by decide +kernel
theorem dX8_plainly_21 : decode cX8_plainly 21 = .ok (.iconst 5, 1) := by decide +kernel
theorem dX8_plainly_22 : decode cX8_plainly 22 = .ok (.if_icmp .ge 7, 3) := by decide +kernel
theorem dX8_plainly_25 : decode cX8_plainly 25 = .ok (.iconst 0, 1) := by decide +kernel
theorem dX8_plainly_26 : decode cX8_plainly 26 = .ok (.goto 14, 3) := by decide +kernel
theorem dX8_plainly_29 : decode cX8_plainly 29 = .ok (.iload_n 0, 1) := by decide +kernel
theorem dX8_plainly_30 : decode cX8_plainly 30 = .ok (.bipush 9, 2) := by decide +kernel
theorem dX8_plainly_32 : decode cX8_plainly 32 = .ok (.if_icmp .ge 7, 3) := by decide +kernel
theorem dX8_plainly_35 : decode cX8_plainly 35 = .ok (.iconst 1, 1) := by decide +kernel
theorem dX8_plainly_36 : decode cX8_plainly 36 = .ok (.goto 4, 3) := by decide +kernel
theorem dX8_plainly_39 : decode cX8_plainly 39 = .ok (.iconst 2, 1) := by decide +kernel
theorem dX8_plainly_40 : decode cX8_plainly 40 = .ok (.ireturn, 1) := by decide +kernel
theorem dX8_saysOf_0 : decode cX8_saysOf 0 = .ok (.iload_n 1, 1) := by decide +kernel
theorem dX8_saysOf_1 : decode cX8_saysOf 1 = .ok (.bipush 20, 2) := by decide +kernel
theorem dX8_saysOf_3 : decode cX8_saysOf 3 = .ok (.idiv, 1) := by decide +kernel
theorem dX8_saysOf_4 : decode cX8_saysOf 4 = .ok (.istore_n 3, 1) := by decide +kernel
theorem dX8_saysOf_5 : decode cX8_saysOf 5 = .ok (.aload_n 0, 1) := by decide +kernel
theorem dX8_saysOf_6 : decode cX8_saysOf 6 = .ok (.getfield 35, 3) := by decide +kernel
theorem dX8_saysOf_9 : decode cX8_saysOf 9 = .ok (.iload_n 3, 1) := by decide +kernel
theorem dX8_saysOf_10 : decode cX8_saysOf 10 = .ok (.iaload, 1) := by decide +kernel
theorem dX8_saysOf_11 : decode cX8_saysOf 11 = .ok (.istore 4, 2) := by decide +kernel
theorem dX8_saysOf_13 : decode cX8_saysOf 13 = .ok (.aload_n 0, 1) := by decide +kernel
theorem dX8_saysOf_14 : decode cX8_saysOf 14 = .ok (.iload_n 1, 1) := by decide +kernel
theorem dX8_saysOf_15 : decode cX8_saysOf 15 = .ok (.invokevirtual 139, 3) := by decide +kernel
theorem dX8_saysOf_18 : decode cX8_saysOf 18 = .ok (.iload_n 2, 1) := by decide +kernel
theorem dX8_saysOf_19 : decode cX8_saysOf 19 = .ok (.isub, 1) := by decide +kernel
theorem dX8_saysOf_20 : decode cX8_saysOf 20 = .ok (.istore 5, 2) := by decide +kernel
theorem dX8_saysOf_22 : decode cX8_saysOf 22 = .ok (.iload 4, 2) := by decide +kernel
theorem dX8_saysOf_24 : decode cX8_saysOf 24 = .ok (.iconst 2, 1) := by decide +kernel
theorem dX8_saysOf_25 : decode cX8_saysOf 25 = .ok (.if_icmp .eq 9, 3) := by decide +kernel
theorem dX8_saysOf_28 : decode cX8_saysOf 28 = .ok (.iload 4, 2) := by decide +kernel
theorem dX8_saysOf_30 : decode cX8_saysOf 30 = .ok (.iconst 4, 1) := by decide +kernel
theorem dX8_saysOf_31 : decode cX8_saysOf 31 = .ok (.if_icmp .ne 17, 3) := by decide +kernel
theorem dX8_saysOf_34 : decode cX8_saysOf 34 = .ok (.iload 5, 2) := by decide +kernel
theorem dX8_saysOf_36 : decode cX8_saysOf 36 = .ok (.aload_n 0, 1) := by decide +kernel
theorem dX8_saysOf_37 : decode cX8_saysOf 37 = .ok (.getfield 38, 3) := by decide +kernel
theorem dX8_saysOf_40 : decode cX8_saysOf 40 = .ok (.iload_n 3, 1) := by decide +kernel
theorem dX8_saysOf_41 : decode cX8_saysOf 41 = .ok (.iaload, 1) := by decide +kernel
theorem dX8_saysOf_42 : decode cX8_saysOf 42 = .ok (.iconst 3, 1) := by decide +kernel
theorem dX8_saysOf_43 : decode cX8_saysOf 43 = .ok (.idiv, 1) := by decide +kernel
theorem dX8_saysOf_44 : decode cX8_saysOf 44 = .ok (.iadd, 1) := by decide +kernel
theorem dX8_saysOf_45 : decode cX8_saysOf 45 = .ok (.goto 5, 3) := by decide +kernel
theorem dX8_saysOf_48 : decode cX8_saysOf 48 = .ok (.iload 5, 2) := by decide +kernel
theorem dX8_saysOf_50 : decode cX8_saysOf 50 = .ok (.invokestatic 142, 3) := by decide +kernel
theorem dX8_saysOf_53 : decode cX8_saysOf 53 = .ok (.istore 6, 2) := by decide +kernel
theorem dX8_saysOf_55 : decode cX8_saysOf 55 = .ok (.iload 4, 2) := by decide +kernel
theorem dX8_saysOf_57 : decode cX8_saysOf 57 = .ok (.iconst 3, 1) := by decide +kernel
theorem dX8_saysOf_58 : decode cX8_saysOf 58 = .ok (.if_icmp .ne 15, 3) := by decide +kernel
theorem dX8_saysOf_61 : decode cX8_saysOf 61 = .ok (.iload 6, 2) := by decide +kernel
theorem dX8_saysOf_63 : decode cX8_saysOf 63 = .ok (.ifCond .lt 10, 3) := by decide +kernel
theorem dX8_saysOf_66 : decode cX8_saysOf 66 = .ok (.iload 6, 2) := by decide +kernel
theorem dX8_saysOf_68 : decode cX8_saysOf 68 = .ok (.iconst 1, 1) := by decide +kernel
theorem dX8_saysOf_69 : decode cX8_saysOf 69 = .ok (.isub, 1) := by decide +kernel
theorem dX8_saysOf_70 : decode cX8_saysOf 70 = .ok (.goto 21, 3) := by decide +kernel
theorem dX8_saysOf_73 : decode cX8_saysOf 73 = .ok (.iload 4, 2) := by decide +kernel
theorem dX8_saysOf_75 : decode cX8_saysOf 75 = .ok (.iconst 5, 1) := by decide +kernel
theorem dX8_saysOf_76 : decode cX8_saysOf 76 = .ok (.if_icmp .ne 13, 3) := by decide +kernel
theorem dX8_saysOf_79 : decode cX8_saysOf 79 = .ok (.iload 6, 2) := by decide +kernel
theorem dX8_saysOf_81 : decode cX8_saysOf 81 = .ok (.iconst 1, 1) := by decide +kernel
theorem dX8_saysOf_82 : decode cX8_saysOf 82 = .ok (.if_icmp .ne 7, 3) := by decide +kernel
theorem dX8_saysOf_85 : decode cX8_saysOf 85 = .ok (.iconst 0, 1) := by decide +kernel
theorem dX8_saysOf_86 : decode cX8_saysOf 86 = .ok (.goto 5, 3) := by decide +kernel
theorem dX8_saysOf_89 : decode cX8_saysOf 89 = .ok (.iload 6, 2) := by decide +kernel
theorem dX8_saysOf_91 : decode cX8_saysOf 91 = .ok (.ireturn, 1) := by decide +kernel
theorem dX8_isShoe_0 : decode cX8_isShoe 0 = .ok (.iload_n 1, 1) := by decide +kernel
theorem dX8_isShoe_1 : decode cX8_isShoe 1 = .ok (.i2l, 1) := by decide +kernel
theorem dX8_isShoe_2 : decode cX8_isShoe 2 = .ok (.lconst 0, 1) := by decide +kernel
theorem dX8_isShoe_3 : decode cX8_isShoe 3 = .ok (.bipush 20, 2) := by decide +kernel
theorem dX8_isShoe_5 : decode cX8_isShoe 5 = .ok (.aload_n 0, 1) := by decide +kernel
theorem dX8_isShoe_6 : decode cX8_isShoe 6 = .ok (.getfield 97, 3) := by decide +kernel
theorem dX8_isShoe_9 : decode cX8_isShoe 9 = .ok (.imul, 1) := by decide +kernel
theorem dX8_isShoe_10 : decode cX8_isShoe 10 = .ok (.iconst 1, 1) := by decide +kernel
theorem dX8_isShoe_11 : decode cX8_isShoe 11 = .ok (.isub, 1) := by decide +kernel
theorem dX8_isShoe_12 : decode cX8_isShoe 12 = .ok (.i2l, 1) := by decide +kernel
theorem dX8_isShoe_13 : decode cX8_isShoe 13 = .ok (.invokestatic 100, 3) := by decide +kernel
theorem dX8_isShoe_16 : decode cX8_isShoe 16 = .ok (.ireturn, 1) := by decide +kernel
theorem dX8_isStock_0 : decode cX8_isStock 0 = .ok (.aload_n 0, 1) := by decide +kernel
theorem dX8_isStock_1 : decode cX8_isStock 1 = .ok (.getfield 44, 3) := by decide +kernel
theorem dX8_isStock_4 : decode cX8_isStock 4 = .ok (.iload_n 1, 1) := by decide +kernel
theorem dX8_isStock_5 : decode cX8_isStock 5 = .ok (.bipush 20, 2) := by decide +kernel
theorem dX8_isStock_7 : decode cX8_isStock 7 = .ok (.idiv, 1) := by decide +kernel
theorem dX8_isStock_8 : decode cX8_isStock 8 = .ok (.iaload, 1) := by decide +kernel
theorem dX8_isStock_9 : decode cX8_isStock 9 = .ok (.iload_n 1, 1) := by decide +kernel
theorem dX8_isStock_10 : decode cX8_isStock 10 = .ok (.bipush 20, 2) := by decide +kernel
theorem dX8_isStock_12 : decode cX8_isStock 12 = .ok (.irem, 1) := by decide +kernel
theorem dX8_isStock_13 : decode cX8_isStock 13 = .ok (.ishr, 1) := by decide +kernel
theorem dX8_isStock_14 : decode cX8_isStock 14 = .ok (.iconst 1, 1) := by decide +kernel
theorem dX8_isStock_15 : decode cX8_isStock 15 = .ok (.iand, 1) := by decide +kernel
theorem dX8_isStock_16 : decode cX8_isStock 16 = .ok (.iconst 1, 1) := by decide +kernel
theorem dX8_isStock_17 : decode cX8_isStock 17 = .ok (.if_icmp .ne 7, 3) := by decide +kernel
theorem dX8_isStock_20 : decode cX8_isStock 20 = .ok (.iconst 1, 1) := by decide +kernel
theorem dX8_isStock_21 : decode cX8_isStock 21 = .ok (.goto 4, 3) := by decide +kernel
theorem dX8_isStock_24 : decode cX8_isStock 24 = .ok (.iconst 0, 1) := by decide +kernel
theorem dX8_isStock_25 : decode cX8_isStock 25 = .ok (.ireturn, 1) := by decide +kernel
theorem dX8_fit_0 : decode cX8_fit 0 = .ok (.aload_n 0, 1) := by decide +kernel
theorem dX8_fit_1 : decode cX8_fit 1 = .ok (.iload_n 1, 1) := by decide +kernel
theorem dX8_fit_2 : decode cX8_fit 2 = .ok (.invokevirtual 145, 3) := by decide +kernel
theorem dX8_fit_5 : decode cX8_fit 5 = .ok (.ifCond .eq 15, 3) := by decide +kernel
theorem dX8_fit_8 : decode cX8_fit 8 = .ok (.iload_n 2, 1) := by decide +kernel
theorem dX8_fit_9 : decode cX8_fit 9 = .ok (.iconst (-1), 1) := by decide +kernel
theorem dX8_fit_10 : decode cX8_fit 10 = .ok (.if_icmp .eq 14, 3) := by decide +kernel
theorem dX8_fit_13 : decode cX8_fit 13 = .ok (.iload_n 2, 1) := by decide +kernel
theorem dX8_fit_14 : decode cX8_fit 14 = .ok (.invokestatic 108, 3) := by decide +kernel
theorem dX8_fit_17 : decode cX8_fit 17 = .ok (.ifCond .ne 7, 3) := by decide +kernel
theorem dX8_fit_20 : decode cX8_fit 20 = .ok (.sipush (-1000), 3) := by decide +kernel
theorem dX8_fit_23 : decode cX8_fit 23 = .ok (.ireturn, 1) := by decide +kernel
theorem dX8_fit_24 : decode cX8_fit 24 = .ok (.iload_n 2, 1) := by decide +kernel
theorem dX8_fit_25 : decode cX8_fit 25 = .ok (.iconst (-1), 1) := by decide +kernel
theorem dX8_fit_26 : decode cX8_fit 26 = .ok (.if_icmp .ne 11, 3) := by decide +kernel
theorem dX8_fit_29 : decode cX8_fit 29 = .ok (.aload_n 0, 1) := by decide +kernel
theorem dX8_fit_30 : decode cX8_fit 30 = .ok (.iload_n 1, 1) := by decide +kernel
theorem dX8_fit_31 : decode cX8_fit 31 = .ok (.invokevirtual 139, 3) := by decide +kernel
theorem dX8_fit_34 : decode cX8_fit 34 = .ok (.goto 9, 3) := by decide +kernel
theorem dX8_fit_37 : decode cX8_fit 37 = .ok (.aload_n 0, 1) := by decide +kernel
theorem dX8_fit_38 : decode cX8_fit 38 = .ok (.iload_n 1, 1) := by decide +kernel
theorem dX8_fit_39 : decode cX8_fit 39 = .ok (.iload_n 2, 1) := by decide +kernel
theorem dX8_fit_40 : decode cX8_fit 40 = .ok (.invokevirtual 148, 3) := by decide +kernel
theorem dX8_fit_43 : decode cX8_fit 43 = .ok (.ireturn, 1) := by decide +kernel
theorem dX8_feed_0 : decode cX8_feed 0 = .ok (.iload_n 1, 1) := by decide +kernel
theorem dX8_feed_1 : decode cX8_feed 1 = .ok (.i2l, 1) := by decide +kernel
theorem dX8_feed_2 : decode cX8_feed 2 = .ok (.lconst 0, 1) := by decide +kernel
theorem dX8_feed_3 : decode cX8_feed 3 = .ok (.ldc2_w 151, 3) := by decide +kernel
theorem dX8_feed_6 : decode cX8_feed 6 = .ok (.invokestatic 100, 3) := by decide +kernel
theorem dX8_feed_9 : decode cX8_feed 9 = .ok (.ifCond .ne 6, 3) := by decide +kernel
theorem dX8_feed_12 : decode cX8_feed 12 = .ok (.bipush (-2), 2) := by decide +kernel
theorem dX8_feed_14 : decode cX8_feed 14 = .ok (.ireturn, 1) := by decide +kernel
theorem dX8_feed_15 : decode cX8_feed 15 = .ok (.aload_n 0, 1) := by decide +kernel
theorem dX8_feed_16 : decode cX8_feed 16 = .ok (.getfield 153, 3) := by decide +kernel
theorem dX8_feed_19 : decode cX8_feed 19 = .ok (.sipush 160, 3) := by decide +kernel
theorem dX8_feed_22 : decode cX8_feed 22 = .ok (.if_icmp .ne 6, 3) := by decide +kernel
theorem dX8_feed_25 : decode cX8_feed 25 = .ok (.bipush (-4), 2) := by decide +kernel
theorem dX8_feed_27 : decode cX8_feed 27 = .ok (.ireturn, 1) := by decide +kernel
theorem dX8_feed_28 : decode cX8_feed 28 = .ok (.aload_n 0, 1) := by decide +kernel
theorem dX8_feed_29 : decode cX8_feed 29 = .ok (.getfield 20, 3) := by decide +kernel
theorem dX8_feed_32 : decode cX8_feed 32 = .ok (.aload_n 0, 1) := by decide +kernel
theorem dX8_feed_33 : decode cX8_feed 33 = .ok (.getfield 153, 3) := by decide +kernel
theorem dX8_feed_36 : decode cX8_feed 36 = .ok (.iload_n 1, 1) := by decide +kernel
theorem dX8_feed_37 : decode cX8_feed 37 = .ok (.iastore, 1) := by decide +kernel
theorem dX8_feed_38 : decode cX8_feed 38 = .ok (.aload_n 0, 1) := by decide +kernel
theorem dX8_feed_39 : decode cX8_feed 39 = .ok (.dup, 1) := by decide +kernel
theorem dX8_feed_40 : decode cX8_feed 40 = .ok (.getfield 153, 3) := by decide +kernel
theorem dX8_feed_43 : decode cX8_feed 43 = .ok (.iconst 1, 1) := by decide +kernel
theorem dX8_feed_44 : decode cX8_feed 44 = .ok (.iadd, 1) := by decide +kernel
theorem dX8_feed_45 : decode cX8_feed 45 = .ok (.putfield 153, 3) := by decide +kernel
theorem dX8_feed_48 : decode cX8_feed 48 = .ok (.aload_n 0, 1) := by decide +kernel
theorem dX8_feed_49 : decode cX8_feed 49 = .ok (.getfield 153, 3) := by decide +kernel
theorem dX8_feed_52 : decode cX8_feed 52 = .ok (.ireturn, 1) := by decide +kernel
theorem dX8_byteAt_0 : decode cX8_byteAt 0 = .ok (.iload_n 1, 1) := by decide +kernel
theorem dX8_byteAt_1 : decode cX8_byteAt 1 = .ok (.aload_n 0, 1) := by decide +kernel
theorem dX8_byteAt_2 : decode cX8_byteAt 2 = .ok (.getfield 156, 3) := by decide +kernel
theorem dX8_byteAt_5 : decode cX8_byteAt 5 = .ok (.if_icmp .ge 17, 3) := by decide +kernel
theorem dX8_byteAt_8 : decode cX8_byteAt 8 = .ok (.aload_n 0, 1) := by decide +kernel
theorem dX8_byteAt_9 : decode cX8_byteAt 9 = .ok (.getfield 13, 3) := by decide +kernel
theorem dX8_byteAt_12 : decode cX8_byteAt 12 = .ok (.aload_n 0, 1) := by decide +kernel
theorem dX8_byteAt_13 : decode cX8_byteAt 13 = .ok (.getfield 159, 3) := by decide +kernel
theorem dX8_byteAt_16 : decode cX8_byteAt 16 = .ok (.iload_n 1, 1) := by decide +kernel
theorem dX8_byteAt_17 : decode cX8_byteAt 17 = .ok (.iadd, 1) := by decide +kernel
theorem dX8_byteAt_18 : decode cX8_byteAt 18 = .ok (.iaload, 1) := by decide +kernel
theorem dX8_byteAt_19 : decode cX8_byteAt 19 = .ok (.goto 4, 3) := by decide +kernel
theorem dX8_byteAt_22 : decode cX8_byteAt 22 = .ok (.iconst (-1), 1) := by decide +kernel
theorem dX8_byteAt_23 : decode cX8_byteAt 23 = .ok (.ireturn, 1) := by decide +kernel
theorem dX8_next_0 : decode cX8_next 0 = .ok (.aload_n 0, 1) := by decide +kernel
theorem dX8_next_1 : decode cX8_next 1 = .ok (.aload_n 0, 1) := by decide +kernel
theorem dX8_next_2 : decode cX8_next 2 = .ok (.getfield 162, 3) := by decide +kernel
theorem dX8_next_5 : decode cX8_next 5 = .ok (.invokevirtual 165, 3) := by decide +kernel
theorem dX8_next_8 : decode cX8_next 8 = .ok (.bipush 32, 2) := by decide +kernel
theorem dX8_next_10 : decode cX8_next 10 = .ok (.if_icmp .eq 16, 3) := by decide +kernel
theorem dX8_next_13 : decode cX8_next 13 = .ok (.aload_n 0, 1) := by decide +kernel
theorem dX8_next_14 : decode cX8_next 14 = .ok (.aload_n 0, 1) := by decide +kernel
theorem dX8_next_15 : decode cX8_next 15 = .ok (.getfield 162, 3) := by decide +kernel
theorem dX8_next_18 : decode cX8_next 18 = .ok (.invokevirtual 165, 3) := by decide +kernel
theorem dX8_next_21 : decode cX8_next 21 = .ok (.bipush 10, 2) := by decide +kernel
theorem dX8_next_23 : decode cX8_next 23 = .ok (.if_icmp .ne 16, 3) := by decide +kernel
theorem dX8_next_26 : decode cX8_next 26 = .ok (.aload_n 0, 1) := by decide +kernel
theorem dX8_next_27 : decode cX8_next 27 = .ok (.dup, 1) := by decide +kernel
theorem dX8_next_28 : decode cX8_next 28 = .ok (.getfield 162, 3) := by decide +kernel
theorem dX8_next_31 : decode cX8_next 31 = .ok (.iconst 1, 1) := by decide +kernel
theorem dX8_next_32 : decode cX8_next 32 = .ok (.iadd, 1) := by decide +kernel
theorem dX8_next_33 : decode cX8_next 33 = .ok (.putfield 162, 3) := by decide +kernel
theorem dX8_next_36 : decode cX8_next 36 = .ok (.goto (-36), 3) := by decide +kernel
theorem dX8_next_39 : decode cX8_next 39 = .ok (.aload_n 0, 1) := by decide +kernel
theorem dX8_next_40 : decode cX8_next 40 = .ok (.aload_n 0, 1) := by decide +kernel
theorem dX8_next_41 : decode cX8_next 41 = .ok (.getfield 162, 3) := by decide +kernel
theorem dX8_next_44 : decode cX8_next 44 = .ok (.putfield 168, 3) := by decide +kernel
theorem dX8_next_47 : decode cX8_next 47 = .ok (.aload_n 0, 1) := by decide +kernel
theorem dX8_next_48 : decode cX8_next 48 = .ok (.aload_n 0, 1) := by decide +kernel
theorem dX8_next_49 : decode cX8_next 49 = .ok (.getfield 162, 3) := by decide +kernel
theorem dX8_next_52 : decode cX8_next 52 = .ok (.invokevirtual 165, 3) := by decide +kernel
theorem dX8_next_55 : decode cX8_next 55 = .ok (.istore_n 1, 1) := by decide +kernel
theorem dX8_next_56 : decode cX8_next 56 = .ok (.aload_n 0, 1) := by decide +kernel
theorem dX8_next_57 : decode cX8_next 57 = .ok (.iconst 4, 1) := by decide +kernel
theorem dX8_next_58 : decode cX8_next 58 = .ok (.putfield 171, 3) := by decide +kernel
theorem dX8_next_61 : decode cX8_next 61 = .ok (.iload_n 1, 1) := by decide +kernel
theorem dX8_next_62 : decode cX8_next 62 = .ok (.ifCond .ge 19, 3) := by decide +kernel
theorem dX8_next_65 : decode cX8_next 65 = .ok (.aload_n 0, 1) := by decide +kernel
theorem dX8_next_66 : decode cX8_next 66 = .ok (.iconst 0, 1) := by decide +kernel
theorem dX8_next_67 : decode cX8_next 67 = .ok (.putfield 171, 3) := by decide +kernel
theorem dX8_next_70 : decode cX8_next 70 = .ok (.aload_n 0, 1) := by decide +kernel
theorem dX8_next_71 : decode cX8_next 71 = .ok (.aload_n 0, 1) := by decide +kernel
theorem dX8_next_72 : decode cX8_next 72 = .ok (.getfield 156, 3) := by decide +kernel
theorem dX8_next_75 : decode cX8_next 75 = .ok (.putfield 168, 3) := by decide +kernel
theorem dX8_next_78 : decode cX8_next 78 = .ok (.goto 243, 3) := by decide +kernel
theorem dX8_next_81 : decode cX8_next 81 = .ok (.iload_n 1, 1) := by decide +kernel
theorem dX8_next_82 : decode cX8_next 82 = .ok (.i2l, 1) := by decide +kernel
theorem dX8_next_83 : decode cX8_next 83 = .ok (.ldc2_w 174, 3) := by decide +kernel
theorem dX8_next_86 : decode cX8_next 86 = .ok (.ldc2_w 176, 3) := by decide +kernel
theorem dX8_next_89 : decode cX8_next 89 = .ok (.invokestatic 100, 3) := by decide +kernel
theorem dX8_next_92 : decode cX8_next 92 = .ok (.ifCond .eq 42, 3) := by decide +kernel
theorem dX8_next_95 : decode cX8_next 95 = .ok (.aload_n 0, 1) := by decide +kernel
theorem dX8_next_96 : decode cX8_next 96 = .ok (.iconst 1, 1) := by decide +kernel
theorem dX8_next_97 : decode cX8_next 97 = .ok (.putfield 171, 3) := by decide +kernel
theorem dX8_next_100 : decode cX8_next 100 = .ok (.aload_n 0, 1) := by decide +kernel
theorem dX8_next_101 : decode cX8_next 101 = .ok (.aload_n 0, 1) := by decide +kernel
theorem dX8_next_102 : decode cX8_next 102 = .ok (.getfield 162, 3) := by decide +kernel
theorem dX8_next_105 : decode cX8_next 105 = .ok (.invokevirtual 165, 3) := by decide +kernel
theorem dX8_next_108 : decode cX8_next 108 = .ok (.i2l, 1) := by decide +kernel
theorem dX8_next_109 : decode cX8_next 109 = .ok (.ldc2_w 174, 3) := by decide +kernel
theorem dX8_next_112 : decode cX8_next 112 = .ok (.ldc2_w 176, 3) := by decide +kernel
theorem dX8_next_115 : decode cX8_next 115 = .ok (.invokestatic 100, 3) := by decide +kernel
theorem dX8_next_118 : decode cX8_next 118 = .ok (.ifCond .eq 203, 3) := by decide +kernel
theorem dX8_next_121 : decode cX8_next 121 = .ok (.aload_n 0, 1) := by decide +kernel
theorem dX8_next_122 : decode cX8_next 122 = .ok (.dup, 1) := by decide +kernel
theorem dX8_next_123 : decode cX8_next 123 = .ok (.getfield 162, 3) := by decide +kernel
theorem dX8_next_126 : decode cX8_next 126 = .ok (.iconst 1, 1) := by decide +kernel
theorem dX8_next_127 : decode cX8_next 127 = .ok (.iadd, 1) := by decide +kernel
theorem dX8_next_128 : decode cX8_next 128 = .ok (.putfield 162, 3) := by decide +kernel
theorem dX8_next_131 : decode cX8_next 131 = .ok (.goto (-31), 3) := by decide +kernel
theorem dX8_next_134 : decode cX8_next 134 = .ok (.iload_n 1, 1) := by decide +kernel
theorem dX8_next_135 : decode cX8_next 135 = .ok (.i2l, 1) := by decide +kernel
theorem dX8_next_136 : decode cX8_next 136 = .ok (.ldc2_w 178, 3) := by decide +kernel
theorem dX8_next_139 : decode cX8_next 139 = .ok (.ldc2_w 180, 3) := by decide +kernel
theorem dX8_next_142 : decode cX8_next 142 = .ok (.invokestatic 100, 3) := by decide +kernel
theorem dX8_next_145 : decode cX8_next 145 = .ok (.ifCond .eq 107, 3) := by decide +kernel
theorem dX8_next_148 : decode cX8_next 148 = .ok (.aload_n 0, 1) := by decide +kernel
theorem dX8_next_149 : decode cX8_next 149 = .ok (.iconst 2, 1) := by decide +kernel
theorem dX8_next_150 : decode cX8_next 150 = .ok (.putfield 171, 3) := by decide +kernel
theorem dX8_next_153 : decode cX8_next 153 = .ok (.aload_n 0, 1) := by decide +kernel
theorem dX8_next_154 : decode cX8_next 154 = .ok (.lconst 0, 1) := by decide +kernel
theorem dX8_next_155 : decode cX8_next 155 = .ok (.putfield 182, 3) := by decide +kernel
theorem dX8_next_158 : decode cX8_next 158 = .ok (.iconst 0, 1) := by decide +kernel
theorem dX8_next_159 : decode cX8_next 159 = .ok (.istore_n 2, 1) := by decide +kernel
theorem dX8_next_160 : decode cX8_next 160 = .ok (.aload_n 0, 1) := by decide +kernel
theorem dX8_next_161 : decode cX8_next 161 = .ok (.aload_n 0, 1) := by decide +kernel
theorem dX8_next_162 : decode cX8_next 162 = .ok (.getfield 162, 3) := by decide +kernel
theorem dX8_next_165 : decode cX8_next 165 = .ok (.invokevirtual 165, 3) := by decide +kernel
theorem dX8_next_168 : decode cX8_next 168 = .ok (.i2l, 1) := by decide +kernel
theorem dX8_next_169 : decode cX8_next 169 = .ok (.ldc2_w 178, 3) := by decide +kernel
theorem dX8_next_172 : decode cX8_next 172 = .ok (.ldc2_w 180, 3) := by decide +kernel
theorem dX8_next_175 : decode cX8_next 175 = .ok (.invokestatic 100, 3) := by decide +kernel
theorem dX8_next_178 : decode cX8_next 178 = .ok (.ifCond .eq 57, 3) := by decide +kernel
theorem dX8_next_181 : decode cX8_next 181 = .ok (.aload_n 0, 1) := by decide +kernel
theorem dX8_next_182 : decode cX8_next 182 = .ok (.iload_n 2, 1) := by decide +kernel
theorem dX8_next_183 : decode cX8_next 183 = .ok (.iconst 4, 1) := by decide +kernel
theorem dX8_next_184 : decode cX8_next 184 = .ok (.if_icmp .ge 28, 3) := by decide +kernel
theorem dX8_next_187 : decode cX8_next 187 = .ok (.ldc2_w 186, 3) := by decide +kernel
theorem dX8_next_190 : decode cX8_next 190 = .ok (.aload_n 0, 1) := by decide +kernel
theorem dX8_next_191 : decode cX8_next 191 = .ok (.getfield 182, 3) := by decide +kernel
theorem dX8_next_194 : decode cX8_next 194 = .ok (.lmul, 1) := by decide +kernel
theorem dX8_next_195 : decode cX8_next 195 = .ok (.aload_n 0, 1) := by decide +kernel
theorem dX8_next_196 : decode cX8_next 196 = .ok (.aload_n 0, 1) := by decide +kernel
theorem dX8_next_197 : decode cX8_next 197 = .ok (.getfield 162, 3) := by decide +kernel
theorem dX8_next_200 : decode cX8_next 200 = .ok (.invokevirtual 165, 3) := by decide +kernel
theorem dX8_next_203 : decode cX8_next 203 = .ok (.i2l, 1) := by decide +kernel
theorem dX8_next_204 : decode cX8_next 204 = .ok (.ladd, 1) := by decide +kernel
theorem dX8_next_205 : decode cX8_next 205 = .ok (.ldc2_w 178, 3) := by decide +kernel
theorem dX8_next_208 : decode cX8_next 208 = .ok (.lsub, 1) := by decide +kernel
theorem dX8_next_209 : decode cX8_next 209 = .ok (.goto 7, 3) := by decide +kernel
theorem dX8_next_212 : decode cX8_next 212 = .ok (.aload_n 0, 1) := by decide +kernel
theorem dX8_next_213 : decode cX8_next 213 = .ok (.getfield 182, 3) := by decide +kernel
theorem dX8_next_216 : decode cX8_next 216 = .ok (.putfield 182, 3) := by decide +kernel
theorem dX8_next_219 : decode cX8_next 219 = .ok (.iinc 2 1, 3) := by decide +kernel
theorem dX8_next_222 : decode cX8_next 222 = .ok (.aload_n 0, 1) := by decide +kernel
theorem dX8_next_223 : decode cX8_next 223 = .ok (.dup, 1) := by decide +kernel
theorem dX8_next_224 : decode cX8_next 224 = .ok (.getfield 162, 3) := by decide +kernel
theorem dX8_next_227 : decode cX8_next 227 = .ok (.iconst 1, 1) := by decide +kernel
theorem dX8_next_228 : decode cX8_next 228 = .ok (.iadd, 1) := by decide +kernel
theorem dX8_next_229 : decode cX8_next 229 = .ok (.putfield 162, 3) := by decide +kernel
theorem dX8_next_232 : decode cX8_next 232 = .ok (.goto (-72), 3) := by decide +kernel
theorem dX8_next_235 : decode cX8_next 235 = .ok (.aload_n 0, 1) := by decide +kernel
theorem dX8_next_236 : decode cX8_next 236 = .ok (.iload_n 2, 1) := by decide +kernel
theorem dX8_next_237 : decode cX8_next 237 = .ok (.iconst 4, 1) := by decide +kernel
theorem dX8_next_238 : decode cX8_next 238 = .ok (.if_icmp .le 7, 3) := by decide +kernel
theorem dX8_next_241 : decode cX8_next 241 = .ok (.iconst 4, 1) := by decide +kernel
theorem dX8_next_242 : decode cX8_next 242 = .ok (.goto 4, 3) := by decide +kernel
theorem dX8_next_245 : decode cX8_next 245 = .ok (.iconst 2, 1) := by decide +kernel
theorem dX8_next_246 : decode cX8_next 246 = .ok (.putfield 171, 3) := by decide +kernel
theorem dX8_next_249 : decode cX8_next 249 = .ok (.goto 72, 3) := by decide +kernel
theorem dX8_next_252 : decode cX8_next 252 = .ok (.iload_n 1, 1) := by decide +kernel
theorem dX8_next_253 : decode cX8_next 253 = .ok (.bipush 40, 2) := by decide +kernel
theorem dX8_next_255 : decode cX8_next 255 = .ok (.if_icmp .eq 45, 3) := by decide +kernel
theorem dX8_next_258 : decode cX8_next 258 = .ok (.iload_n 1, 1) := by decide +kernel
theorem dX8_next_259 : decode cX8_next 259 = .ok (.bipush 41, 2) := by decide +kernel
theorem dX8_next_261 : decode cX8_next 261 = .ok (.if_icmp .eq 39, 3) := by decide +kernel
theorem dX8_next_264 : decode cX8_next 264 = .ok (.iload_n 1, 1) := by decide +kernel
theorem dX8_next_265 : decode cX8_next 265 = .ok (.bipush 59, 2) := by decide +kernel
theorem dX8_next_267 : decode cX8_next 267 = .ok (.if_icmp .eq 33, 3) := by decide +kernel
theorem dX8_next_270 : decode cX8_next 270 = .ok (.iload_n 1, 1) := by decide +kernel
theorem dX8_next_271 : decode cX8_next 271 = .ok (.bipush 43, 2) := by decide +kernel
theorem dX8_next_273 : decode cX8_next 273 = .ok (.if_icmp .eq 27, 3) := by decide +kernel
theorem dX8_next_276 : decode cX8_next 276 = .ok (.iload_n 1, 1) := by decide +kernel
theorem dX8_next_277 : decode cX8_next 277 = .ok (.bipush 45, 2) := by decide +kernel
theorem dX8_next_279 : decode cX8_next 279 = .ok (.if_icmp .eq 21, 3) := by decide +kernel
theorem dX8_next_282 : decode cX8_next 282 = .ok (.iload_n 1, 1) := by decide +kernel
theorem dX8_next_283 : decode cX8_next 283 = .ok (.bipush 42, 2) := by decide +kernel
theorem dX8_next_285 : decode cX8_next 285 = .ok (.if_icmp .eq 15, 3) := by decide +kernel
theorem dX8_next_288 : decode cX8_next 288 = .ok (.iload_n 1, 1) := by decide +kernel
theorem dX8_next_289 : decode cX8_next 289 = .ok (.bipush 60, 2) := by decide +kernel
theorem dX8_next_291 : decode cX8_next 291 = .ok (.if_icmp .eq 9, 3) := by decide +kernel
theorem dX8_next_294 : decode cX8_next 294 = .ok (.iload_n 1, 1) := by decide +kernel
theorem dX8_next_295 : decode cX8_next 295 = .ok (.bipush 61, 2) := by decide +kernel
theorem dX8_next_297 : decode cX8_next 297 = .ok (.if_icmp .ne 24, 3) := by decide +kernel
theorem dX8_next_300 : decode cX8_next 300 = .ok (.aload_n 0, 1) := by decide +kernel
theorem dX8_next_301 : decode cX8_next 301 = .ok (.iconst 3, 1) := by decide +kernel
theorem dX8_next_302 : decode cX8_next 302 = .ok (.putfield 171, 3) := by decide +kernel
theorem dX8_next_305 : decode cX8_next 305 = .ok (.aload_n 0, 1) := by decide +kernel
theorem dX8_next_306 : decode cX8_next 306 = .ok (.iload_n 1, 1) := by decide +kernel
theorem dX8_next_307 : decode cX8_next 307 = .ok (.i2l, 1) := by decide +kernel
theorem dX8_next_308 : decode cX8_next 308 = .ok (.putfield 182, 3) := by decide +kernel
theorem dX8_next_311 : decode cX8_next 311 = .ok (.aload_n 0, 1) := by decide +kernel
theorem dX8_next_312 : decode cX8_next 312 = .ok (.dup, 1) := by decide +kernel
theorem dX8_next_313 : decode cX8_next 313 = .ok (.getfield 162, 3) := by decide +kernel
theorem dX8_next_316 : decode cX8_next 316 = .ok (.iconst 1, 1) := by decide +kernel
theorem dX8_next_317 : decode cX8_next 317 = .ok (.iadd, 1) := by decide +kernel
theorem dX8_next_318 : decode cX8_next 318 = .ok (.putfield 162, 3) := by decide +kernel
theorem dX8_next_321 : decode cX8_next 321 = .ok (.return_, 1) := by decide +kernel
theorem dX8_fail_0 : decode cX8_fail 0 = .ok (.aload_n 0, 1) := by decide +kernel
theorem dX8_fail_1 : decode cX8_fail 1 = .ok (.getfield 188, 3) := by decide +kernel
theorem dX8_fail_4 : decode cX8_fail 4 = .ok (.ifCond .ne 16, 3) := by decide +kernel
theorem dX8_fail_7 : decode cX8_fail 7 = .ok (.aload_n 0, 1) := by decide +kernel
theorem dX8_fail_8 : decode cX8_fail 8 = .ok (.iconst 1, 1) := by decide +kernel
theorem dX8_fail_9 : decode cX8_fail 9 = .ok (.putfield 188, 3) := by decide +kernel
theorem dX8_fail_12 : decode cX8_fail 12 = .ok (.aload_n 0, 1) := by decide +kernel
theorem dX8_fail_13 : decode cX8_fail 13 = .ok (.aload_n 0, 1) := by decide +kernel
theorem dX8_fail_14 : decode cX8_fail 14 = .ok (.getfield 168, 3) := by decide +kernel
theorem dX8_fail_17 : decode cX8_fail 17 = .ok (.putfield 192, 3) := by decide +kernel
theorem dX8_fail_20 : decode cX8_fail 20 = .ok (.return_, 1) := by decide +kernel
theorem dX8_isLetter_0 : decode cX8_isLetter 0 = .ok (.aload_n 0, 1) := by decide +kernel
theorem dX8_isLetter_1 : decode cX8_isLetter 1 = .ok (.getfield 168, 3) := by decide +kernel
theorem dX8_isLetter_4 : decode cX8_isLetter 4 = .ok (.iload_n 1, 1) := by decide +kernel
theorem dX8_isLetter_5 : decode cX8_isLetter 5 = .ok (.iadd, 1) := by decide +kernel
theorem dX8_isLetter_6 : decode cX8_isLetter 6 = .ok (.aload_n 0, 1) := by decide +kernel
theorem dX8_isLetter_7 : decode cX8_isLetter 7 = .ok (.getfield 162, 3) := by decide +kernel
theorem dX8_isLetter_10 : decode cX8_isLetter 10 = .ok (.if_icmp .ge 25, 3) := by decide +kernel
theorem dX8_isLetter_13 : decode cX8_isLetter 13 = .ok (.aload_n 0, 1) := by decide +kernel
theorem dX8_isLetter_14 : decode cX8_isLetter 14 = .ok (.aload_n 0, 1) := by decide +kernel
theorem dX8_isLetter_15 : decode cX8_isLetter 15 = .ok (.getfield 168, 3) := by decide +kernel
theorem dX8_isLetter_18 : decode cX8_isLetter 18 = .ok (.iload_n 1, 1) := by decide +kernel
theorem dX8_isLetter_19 : decode cX8_isLetter 19 = .ok (.iadd, 1) := by decide +kernel
theorem dX8_isLetter_20 : decode cX8_isLetter 20 = .ok (.invokevirtual 165, 3) := by decide +kernel
theorem dX8_isLetter_23 : decode cX8_isLetter 23 = .ok (.iload_n 2, 1) := by decide +kernel
theorem dX8_isLetter_24 : decode cX8_isLetter 24 = .ok (.if_icmp .ne 7, 3) := by decide +kernel
theorem dX8_isLetter_27 : decode cX8_isLetter 27 = .ok (.iconst 1, 1) := by decide +kernel
theorem dX8_isLetter_28 : decode cX8_isLetter 28 = .ok (.goto 16, 3) := by decide +kernel
theorem dX8_isLetter_31 : decode cX8_isLetter 31 = .ok (.iconst 0, 1) := by decide +kernel
theorem dX8_isLetter_32 : decode cX8_isLetter 32 = .ok (.goto 12, 3) := by decide +kernel
theorem dX8_isLetter_35 : decode cX8_isLetter 35 = .ok (.iload_n 2, 1) := by decide +kernel
theorem dX8_isLetter_36 : decode cX8_isLetter 36 = .ok (.ifCond .ne 7, 3) := by decide +kernel
theorem dX8_isLetter_39 : decode cX8_isLetter 39 = .ok (.iconst 1, 1) := by decide +kernel
theorem dX8_isLetter_40 : decode cX8_isLetter 40 = .ok (.goto 4, 3) := by decide +kernel
theorem dX8_isLetter_43 : decode cX8_isLetter 43 = .ok (.iconst 0, 1) := by decide +kernel
theorem dX8_isLetter_44 : decode cX8_isLetter 44 = .ok (.ireturn, 1) := by decide +kernel
theorem dX8_isWord_0 : decode cX8_isWord 0 = .ok (.aload_n 0, 1) := by decide +kernel
theorem dX8_isWord_1 : decode cX8_isWord 1 = .ok (.getfield 188, 3) := by decide +kernel
theorem dX8_isWord_4 : decode cX8_isWord 4 = .ok (.ifCond .ne 108, 3) := by decide +kernel
theorem dX8_isWord_7 : decode cX8_isWord 7 = .ok (.aload_n 0, 1) := by decide +kernel
theorem dX8_isWord_8 : decode cX8_isWord 8 = .ok (.getfield 171, 3) := by decide +kernel
theorem dX8_isWord_11 : decode cX8_isWord 11 = .ok (.iconst 1, 1) := by decide +kernel
theorem dX8_isWord_12 : decode cX8_isWord 12 = .ok (.if_icmp .ne 100, 3) := by decide +kernel
theorem dX8_isWord_15 : decode cX8_isWord 15 = .ok (.aload_n 0, 1) := by decide +kernel
theorem dX8_isWord_16 : decode cX8_isWord 16 = .ok (.getfield 162, 3) := by decide +kernel
theorem dX8_isWord_19 : decode cX8_isWord 19 = .ok (.aload_n 0, 1) := by decide +kernel
theorem dX8_isWord_20 : decode cX8_isWord 20 = .ok (.getfield 168, 3) := by decide +kernel
theorem dX8_isWord_23 : decode cX8_isWord 23 = .ok (.bipush 8, 2) := by decide +kernel
theorem dX8_isWord_25 : decode cX8_isWord 25 = .ok (.iadd, 1) := by decide +kernel
theorem dX8_isWord_26 : decode cX8_isWord 26 = .ok (.if_icmp .gt 86, 3) := by decide +kernel
theorem dX8_isWord_29 : decode cX8_isWord 29 = .ok (.aload_n 0, 1) := by decide +kernel
theorem dX8_isWord_30 : decode cX8_isWord 30 = .ok (.iconst 0, 1) := by decide +kernel
theorem dX8_isWord_31 : decode cX8_isWord 31 = .ok (.iload_n 1, 1) := by decide +kernel
theorem dX8_isWord_32 : decode cX8_isWord 32 = .ok (.invokevirtual 195, 3) := by decide +kernel
theorem dX8_isWord_35 : decode cX8_isWord 35 = .ok (.ifCond .eq 77, 3) := by decide +kernel
theorem dX8_isWord_38 : decode cX8_isWord 38 = .ok (.aload_n 0, 1) := by decide +kernel
theorem dX8_isWord_39 : decode cX8_isWord 39 = .ok (.iconst 1, 1) := by decide +kernel
theorem dX8_isWord_40 : decode cX8_isWord 40 = .ok (.iload_n 2, 1) := by decide +kernel
theorem dX8_isWord_41 : decode cX8_isWord 41 = .ok (.invokevirtual 195, 3) := by decide +kernel
theorem dX8_isWord_44 : decode cX8_isWord 44 = .ok (.ifCond .eq 68, 3) := by decide +kernel
theorem dX8_isWord_47 : decode cX8_isWord 47 = .ok (.aload_n 0, 1) := by decide +kernel
theorem dX8_isWord_48 : decode cX8_isWord 48 = .ok (.iconst 2, 1) := by decide +kernel
theorem dX8_isWord_49 : decode cX8_isWord 49 = .ok (.iload_n 3, 1) := by decide +kernel
theorem dX8_isWord_50 : decode cX8_isWord 50 = .ok (.invokevirtual 195, 3) := by decide +kernel
theorem dX8_isWord_53 : decode cX8_isWord 53 = .ok (.ifCond .eq 59, 3) := by decide +kernel
theorem dX8_isWord_56 : decode cX8_isWord 56 = .ok (.aload_n 0, 1) := by decide +kernel
theorem dX8_isWord_57 : decode cX8_isWord 57 = .ok (.iconst 3, 1) := by decide +kernel
theorem dX8_isWord_58 : decode cX8_isWord 58 = .ok (.iload 4, 2) := by decide +kernel
theorem dX8_isWord_60 : decode cX8_isWord 60 = .ok (.invokevirtual 195, 3) := by decide +kernel
theorem dX8_isWord_63 : decode cX8_isWord 63 = .ok (.ifCond .eq 49, 3) := by decide +kernel
theorem dX8_isWord_66 : decode cX8_isWord 66 = .ok (.aload_n 0, 1) := by decide +kernel
theorem dX8_isWord_67 : decode cX8_isWord 67 = .ok (.iconst 4, 1) := by decide +kernel
theorem dX8_isWord_68 : decode cX8_isWord 68 = .ok (.iload 5, 2) := by decide +kernel
theorem dX8_isWord_70 : decode cX8_isWord 70 = .ok (.invokevirtual 195, 3) := by decide +kernel
theorem dX8_isWord_73 : decode cX8_isWord 73 = .ok (.ifCond .eq 39, 3) := by decide +kernel
theorem dX8_isWord_76 : decode cX8_isWord 76 = .ok (.aload_n 0, 1) := by decide +kernel
theorem dX8_isWord_77 : decode cX8_isWord 77 = .ok (.iconst 5, 1) := by decide +kernel
theorem dX8_isWord_78 : decode cX8_isWord 78 = .ok (.iload 6, 2) := by decide +kernel
theorem dX8_isWord_80 : decode cX8_isWord 80 = .ok (.invokevirtual 195, 3) := by decide +kernel
theorem dX8_isWord_83 : decode cX8_isWord 83 = .ok (.ifCond .eq 29, 3) := by decide +kernel
theorem dX8_isWord_86 : decode cX8_isWord 86 = .ok (.aload_n 0, 1) := by decide +kernel
theorem dX8_isWord_87 : decode cX8_isWord 87 = .ok (.bipush 6, 2) := by decide +kernel
theorem dX8_isWord_89 : decode cX8_isWord 89 = .ok (.iload 7, 2) := by decide +kernel
theorem dX8_isWord_91 : decode cX8_isWord 91 = .ok (.invokevirtual 195, 3) := by decide +kernel
theorem dX8_isWord_94 : decode cX8_isWord 94 = .ok (.ifCond .eq 18, 3) := by decide +kernel
theorem dX8_isWord_97 : decode cX8_isWord 97 = .ok (.aload_n 0, 1) := by decide +kernel
theorem dX8_isWord_98 : decode cX8_isWord 98 = .ok (.bipush 7, 2) := by decide +kernel
theorem dX8_isWord_100 : decode cX8_isWord 100 = .ok (.iload 8, 2) := by decide +kernel
theorem dX8_isWord_102 : decode cX8_isWord 102 = .ok (.invokevirtual 195, 3) := by decide +kernel
theorem dX8_isWord_105 : decode cX8_isWord 105 = .ok (.ifCond .eq 7, 3) := by decide +kernel
theorem dX8_isWord_108 : decode cX8_isWord 108 = .ok (.iconst 1, 1) := by decide +kernel
theorem dX8_isWord_109 : decode cX8_isWord 109 = .ok (.goto 4, 3) := by decide +kernel
theorem dX8_isWord_112 : decode cX8_isWord 112 = .ok (.iconst 0, 1) := by decide +kernel
theorem dX8_isWord_113 : decode cX8_isWord 113 = .ok (.ireturn, 1) := by decide +kernel
theorem dX8_isSign_0 : decode cX8_isSign 0 = .ok (.aload_n 0, 1) := by decide +kernel
theorem dX8_isSign_1 : decode cX8_isSign 1 = .ok (.getfield 188, 3) := by decide +kernel
theorem dX8_isSign_4 : decode cX8_isSign 4 = .ok (.ifCond .ne 25, 3) := by decide +kernel
theorem dX8_isSign_7 : decode cX8_isSign 7 = .ok (.aload_n 0, 1) := by decide +kernel
theorem dX8_isSign_8 : decode cX8_isSign 8 = .ok (.getfield 171, 3) := by decide +kernel
theorem dX8_isSign_11 : decode cX8_isSign 11 = .ok (.iconst 3, 1) := by decide +kernel
theorem dX8_isSign_12 : decode cX8_isSign 12 = .ok (.if_icmp .ne 17, 3) := by decide +kernel
theorem dX8_isSign_15 : decode cX8_isSign 15 = .ok (.aload_n 0, 1) := by decide +kernel
theorem dX8_isSign_16 : decode cX8_isSign 16 = .ok (.getfield 182, 3) := by decide +kernel
theorem dX8_isSign_19 : decode cX8_isSign 19 = .ok (.iload_n 1, 1) := by decide +kernel
theorem dX8_isSign_20 : decode cX8_isSign 20 = .ok (.i2l, 1) := by decide +kernel
theorem dX8_isSign_21 : decode cX8_isSign 21 = .ok (.lcmp, 1) := by decide +kernel
theorem dX8_isSign_22 : decode cX8_isSign 22 = .ok (.ifCond .ne 7, 3) := by decide +kernel
theorem dX8_isSign_25 : decode cX8_isSign 25 = .ok (.iconst 1, 1) := by decide +kernel
theorem dX8_isSign_26 : decode cX8_isSign 26 = .ok (.goto 4, 3) := by decide +kernel
theorem dX8_isSign_29 : decode cX8_isSign 29 = .ok (.iconst 0, 1) := by decide +kernel
theorem dX8_isSign_30 : decode cX8_isSign 30 = .ok (.ireturn, 1) := by decide +kernel
theorem dX8_opens_0 : decode cX8_opens 0 = .ok (.aload_n 0, 1) := by decide +kernel
theorem dX8_opens_1 : decode cX8_opens 1 = .ok (.getfield 199, 3) := by decide +kernel
theorem dX8_opens_4 : decode cX8_opens 4 = .ok (.iconst 5, 1) := by decide +kernel
theorem dX8_opens_5 : decode cX8_opens 5 = .ok (.if_icmp .ne 9, 3) := by decide +kernel
theorem dX8_opens_8 : decode cX8_opens 8 = .ok (.aload_n 0, 1) := by decide +kernel
theorem dX8_opens_9 : decode cX8_opens 9 = .ok (.invokevirtual 202, 3) := by decide +kernel
theorem dX8_opens_12 : decode cX8_opens 12 = .ok (.iconst 0, 1) := by decide +kernel
theorem dX8_opens_13 : decode cX8_opens 13 = .ok (.ireturn, 1) := by decide +kernel
theorem dX8_opens_14 : decode cX8_opens 14 = .ok (.aload_n 0, 1) := by decide +kernel
theorem dX8_opens_15 : decode cX8_opens 15 = .ok (.dup, 1) := by decide +kernel
theorem dX8_opens_16 : decode cX8_opens 16 = .ok (.getfield 199, 3) := by decide +kernel
theorem dX8_opens_19 : decode cX8_opens 19 = .ok (.iconst 1, 1) := by decide +kernel
theorem dX8_opens_20 : decode cX8_opens 20 = .ok (.iadd, 1) := by decide +kernel
theorem dX8_opens_21 : decode cX8_opens 21 = .ok (.putfield 199, 3) := by decide +kernel
theorem dX8_opens_24 : decode cX8_opens 24 = .ok (.aload_n 0, 1) := by decide +kernel
theorem dX8_opens_25 : decode cX8_opens 25 = .ok (.invokevirtual 205, 3) := by decide +kernel
theorem dX8_opens_28 : decode cX8_opens 28 = .ok (.iconst 1, 1) := by decide +kernel
theorem dX8_opens_29 : decode cX8_opens 29 = .ok (.ireturn, 1) := by decide +kernel
theorem dX8_name_0 : decode cX8_name 0 = .ok (.aload_n 0, 1) := by decide +kernel
theorem dX8_name_1 : decode cX8_name 1 = .ok (.bipush 115, 2) := by decide +kernel
theorem dX8_name_3 : decode cX8_name 3 = .ok (.bipush 105, 2) := by decide +kernel
theorem dX8_name_5 : decode cX8_name 5 = .ok (.bipush 122, 2) := by decide +kernel
theorem dX8_name_7 : decode cX8_name 7 = .ok (.bipush 101, 2) := by decide +kernel
theorem dX8_name_9 : decode cX8_name 9 = .ok (.iconst 0, 1) := by decide +kernel
theorem dX8_name_10 : decode cX8_name 10 = .ok (.iconst 0, 1) := by decide +kernel
theorem dX8_name_11 : decode cX8_name 11 = .ok (.iconst 0, 1) := by decide +kernel
theorem dX8_name_12 : decode cX8_name 12 = .ok (.iconst 0, 1) := by decide +kernel
theorem dX8_name_13 : decode cX8_name 13 = .ok (.invokevirtual 208, 3) := by decide +kernel
theorem dX8_name_16 : decode cX8_name 16 = .ok (.ifCond .eq 8, 3) := by decide +kernel
theorem dX8_name_19 : decode cX8_name 19 = .ok (.aload_n 0, 1) := by decide +kernel
theorem dX8_name_20 : decode cX8_name 20 = .ok (.getfield 212, 3) := by decide +kernel
theorem dX8_name_23 : decode cX8_name 23 = .ok (.ireturn, 1) := by decide +kernel
theorem dX8_name_24 : decode cX8_name 24 = .ok (.aload_n 0, 1) := by decide +kernel
theorem dX8_name_25 : decode cX8_name 25 = .ok (.bipush 109, 2) := by decide +kernel
theorem dX8_name_27 : decode cX8_name 27 = .ok (.bipush 97, 2) := by decide +kernel
theorem dX8_name_29 : decode cX8_name 29 = .ok (.bipush 107, 2) := by decide +kernel
theorem dX8_name_31 : decode cX8_name 31 = .ok (.bipush 101, 2) := by decide +kernel
theorem dX8_name_33 : decode cX8_name 33 = .ok (.iconst 0, 1) := by decide +kernel
theorem dX8_name_34 : decode cX8_name 34 = .ok (.iconst 0, 1) := by decide +kernel
theorem dX8_name_35 : decode cX8_name 35 = .ok (.iconst 0, 1) := by decide +kernel
theorem dX8_name_36 : decode cX8_name 36 = .ok (.iconst 0, 1) := by decide +kernel
theorem dX8_name_37 : decode cX8_name 37 = .ok (.invokevirtual 208, 3) := by decide +kernel
theorem dX8_name_40 : decode cX8_name 40 = .ok (.ifCond .eq 8, 3) := by decide +kernel
theorem dX8_name_43 : decode cX8_name 43 = .ok (.aload_n 0, 1) := by decide +kernel
theorem dX8_name_44 : decode cX8_name 44 = .ok (.getfield 215, 3) := by decide +kernel
theorem dX8_name_47 : decode cX8_name 47 = .ok (.ireturn, 1) := by decide +kernel
theorem dX8_name_48 : decode cX8_name 48 = .ok (.aload_n 0, 1) := by decide +kernel
theorem dX8_name_49 : decode cX8_name 49 = .ok (.bipush 97, 2) := by decide +kernel
theorem dX8_name_51 : decode cX8_name 51 = .ok (.bipush 112, 2) := by decide +kernel
theorem dX8_name_53 : decode cX8_name 53 = .ok (.bipush 97, 2) := by decide +kernel
theorem dX8_name_55 : decode cX8_name 55 = .ok (.bipush 114, 2) := by decide +kernel
theorem dX8_name_57 : decode cX8_name 57 = .ok (.bipush 116, 2) := by decide +kernel
theorem dX8_name_59 : decode cX8_name 59 = .ok (.iconst 0, 1) := by decide +kernel
theorem dX8_name_60 : decode cX8_name 60 = .ok (.iconst 0, 1) := by decide +kernel
theorem dX8_name_61 : decode cX8_name 61 = .ok (.iconst 0, 1) := by decide +kernel
theorem dX8_name_62 : decode cX8_name 62 = .ok (.invokevirtual 208, 3) := by decide +kernel
theorem dX8_name_65 : decode cX8_name 65 = .ok (.ifCond .eq 8, 3) := by decide +kernel
theorem dX8_name_68 : decode cX8_name 68 = .ok (.aload_n 0, 1) := by decide +kernel
theorem dX8_name_69 : decode cX8_name 69 = .ok (.getfield 218, 3) := by decide +kernel
theorem dX8_name_72 : decode cX8_name 72 = .ok (.ireturn, 1) := by decide +kernel
theorem dX8_name_73 : decode cX8_name 73 = .ok (.aload_n 0, 1) := by decide +kernel
theorem dX8_name_74 : decode cX8_name 74 = .ok (.bipush 110, 2) := by decide +kernel
theorem dX8_name_76 : decode cX8_name 76 = .ok (.bipush 117, 2) := by decide +kernel
theorem dX8_name_78 : decode cX8_name 78 = .ok (.bipush 109, 2) := by decide +kernel
theorem dX8_name_80 : decode cX8_name 80 = .ok (.bipush 98, 2) := by decide +kernel
theorem dX8_name_82 : decode cX8_name 82 = .ok (.bipush 101, 2) := by decide +kernel
theorem dX8_name_84 : decode cX8_name 84 = .ok (.bipush 114, 2) := by decide +kernel
theorem dX8_name_86 : decode cX8_name 86 = .ok (.iconst 0, 1) := by decide +kernel
theorem dX8_name_87 : decode cX8_name 87 = .ok (.iconst 0, 1) := by decide +kernel
theorem dX8_name_88 : decode cX8_name 88 = .ok (.invokevirtual 208, 3) := by decide +kernel
theorem dX8_name_91 : decode cX8_name 91 = .ok (.ifCond .eq 8, 3) := by decide +kernel
theorem dX8_name_94 : decode cX8_name 94 = .ok (.aload_n 0, 1) := by decide +kernel
theorem dX8_name_95 : decode cX8_name 95 = .ok (.getfield 221, 3) := by decide +kernel
theorem dX8_name_98 : decode cX8_name 98 = .ok (.ireturn, 1) := by decide +kernel
theorem dX8_name_99 : decode cX8_name 99 = .ok (.aload_n 0, 1) := by decide +kernel
theorem dX8_name_100 : decode cX8_name 100 = .ok (.bipush 102, 2) := by decide +kernel
theorem dX8_name_102 : decode cX8_name 102 = .ok (.bipush 111, 2) := by decide +kernel
theorem dX8_name_104 : decode cX8_name 104 = .ok (.bipush 111, 2) := by decide +kernel
theorem dX8_name_106 : decode cX8_name 106 = .ok (.bipush 116, 2) := by decide +kernel
theorem dX8_name_108 : decode cX8_name 108 = .ok (.iconst 0, 1) := by decide +kernel
theorem dX8_name_109 : decode cX8_name 109 = .ok (.iconst 0, 1) := by decide +kernel
theorem dX8_name_110 : decode cX8_name 110 = .ok (.iconst 0, 1) := by decide +kernel
theorem dX8_name_111 : decode cX8_name 111 = .ok (.iconst 0, 1) := by decide +kernel
theorem dX8_name_112 : decode cX8_name 112 = .ok (.invokevirtual 208, 3) := by decide +kernel
theorem dX8_name_115 : decode cX8_name 115 = .ok (.ifCond .eq 8, 3) := by decide +kernel
theorem dX8_name_118 : decode cX8_name 118 = .ok (.aload_n 0, 1) := by decide +kernel
theorem dX8_name_119 : decode cX8_name 119 = .ok (.getfield 224, 3) := by decide +kernel
theorem dX8_name_122 : decode cX8_name 122 = .ok (.ireturn, 1) := by decide +kernel
theorem dX8_name_123 : decode cX8_name 123 = .ok (.aload_n 0, 1) := by decide +kernel
theorem dX8_name_124 : decode cX8_name 124 = .ok (.bipush 104, 2) := by decide +kernel
theorem dX8_name_126 : decode cX8_name 126 = .ok (.bipush 111, 2) := by decide +kernel
theorem dX8_name_128 : decode cX8_name 128 = .ok (.bipush 117, 2) := by decide +kernel
theorem dX8_name_130 : decode cX8_name 130 = .ok (.bipush 114, 2) := by decide +kernel
theorem dX8_name_132 : decode cX8_name 132 = .ok (.iconst 0, 1) := by decide +kernel
theorem dX8_name_133 : decode cX8_name 133 = .ok (.iconst 0, 1) := by decide +kernel
theorem dX8_name_134 : decode cX8_name 134 = .ok (.iconst 0, 1) := by decide +kernel
theorem dX8_name_135 : decode cX8_name 135 = .ok (.iconst 0, 1) := by decide +kernel
theorem dX8_name_136 : decode cX8_name 136 = .ok (.invokevirtual 208, 3) := by decide +kernel
theorem dX8_name_139 : decode cX8_name 139 = .ok (.ifCond .eq 8, 3) := by decide +kernel
theorem dX8_name_142 : decode cX8_name 142 = .ok (.aload_n 0, 1) := by decide +kernel
theorem dX8_name_143 : decode cX8_name 143 = .ok (.getfield 227, 3) := by decide +kernel
theorem dX8_name_146 : decode cX8_name 146 = .ok (.ireturn, 1) := by decide +kernel
theorem dX8_name_147 : decode cX8_name 147 = .ok (.aload_n 0, 1) := by decide +kernel
theorem dX8_name_148 : decode cX8_name 148 = .ok (.invokevirtual 202, 3) := by decide +kernel
theorem dX8_name_151 : decode cX8_name 151 = .ok (.iconst 0, 1) := by decide +kernel
theorem dX8_name_152 : decode cX8_name 152 = .ok (.ireturn, 1) := by decide +kernel
theorem dX8_atom_0 : decode cX8_atom 0 = .ok (.iconst 0, 1) := by decide +kernel
theorem dX8_atom_1 : decode cX8_atom 1 = .ok (.istore_n 1, 1) := by decide +kernel
theorem dX8_atom_2 : decode cX8_atom 2 = .ok (.aload_n 0, 1) := by decide +kernel
theorem dX8_atom_3 : decode cX8_atom 3 = .ok (.bipush 45, 2) := by decide +kernel
theorem dX8_atom_5 : decode cX8_atom 5 = .ok (.invokevirtual 230, 3) := by decide +kernel
theorem dX8_atom_8 : decode cX8_atom 8 = .ok (.ifCond .eq 29, 3) := by decide +kernel
theorem dX8_atom_11 : decode cX8_atom 11 = .ok (.aload_n 0, 1) := by decide +kernel
theorem dX8_atom_12 : decode cX8_atom 12 = .ok (.invokevirtual 233, 3) := by decide +kernel
theorem dX8_atom_15 : decode cX8_atom 15 = .ok (.ifCond .eq 146, 3) := by decide +kernel
theorem dX8_atom_18 : decode cX8_atom 18 = .ok (.aload_n 0, 1) := by decide +kernel
theorem dX8_atom_19 : decode cX8_atom 19 = .ok (.invokevirtual 237, 3) := by decide +kernel
theorem dX8_atom_22 : decode cX8_atom 22 = .ok (.ineg, 1) := by decide +kernel
theorem dX8_atom_23 : decode cX8_atom 23 = .ok (.istore_n 1, 1) := by decide +kernel
theorem dX8_atom_24 : decode cX8_atom 24 = .ok (.aload_n 0, 1) := by decide +kernel
theorem dX8_atom_25 : decode cX8_atom 25 = .ok (.dup, 1) := by decide +kernel
theorem dX8_atom_26 : decode cX8_atom 26 = .ok (.getfield 199, 3) := by decide +kernel
theorem dX8_atom_29 : decode cX8_atom 29 = .ok (.iconst 1, 1) := by decide +kernel
theorem dX8_atom_30 : decode cX8_atom 30 = .ok (.isub, 1) := by decide +kernel
theorem dX8_atom_31 : decode cX8_atom 31 = .ok (.putfield 199, 3) := by decide +kernel
theorem dX8_atom_34 : decode cX8_atom 34 = .ok (.goto 127, 3) := by decide +kernel
theorem dX8_atom_37 : decode cX8_atom 37 = .ok (.aload_n 0, 1) := by decide +kernel
theorem dX8_atom_38 : decode cX8_atom 38 = .ok (.bipush 40, 2) := by decide +kernel
theorem dX8_atom_40 : decode cX8_atom 40 = .ok (.invokevirtual 230, 3) := by decide +kernel
theorem dX8_atom_43 : decode cX8_atom 43 = .ok (.ifCond .eq 52, 3) := by decide +kernel
theorem dX8_atom_46 : decode cX8_atom 46 = .ok (.aload_n 0, 1) := by decide +kernel
theorem dX8_atom_47 : decode cX8_atom 47 = .ok (.invokevirtual 233, 3) := by decide +kernel
theorem dX8_atom_50 : decode cX8_atom 50 = .ok (.ifCond .eq 111, 3) := by decide +kernel
theorem dX8_atom_53 : decode cX8_atom 53 = .ok (.aload_n 0, 1) := by decide +kernel
theorem dX8_atom_54 : decode cX8_atom 54 = .ok (.invokevirtual 241, 3) := by decide +kernel
theorem dX8_atom_57 : decode cX8_atom 57 = .ok (.istore_n 1, 1) := by decide +kernel
theorem dX8_atom_58 : decode cX8_atom 58 = .ok (.aload_n 0, 1) := by decide +kernel
theorem dX8_atom_59 : decode cX8_atom 59 = .ok (.bipush 41, 2) := by decide +kernel
theorem dX8_atom_61 : decode cX8_atom 61 = .ok (.invokevirtual 230, 3) := by decide +kernel
theorem dX8_atom_64 : decode cX8_atom 64 = .ok (.ifCond .ne 7, 3) := by decide +kernel
theorem dX8_atom_67 : decode cX8_atom 67 = .ok (.aload_n 0, 1) := by decide +kernel
theorem dX8_atom_68 : decode cX8_atom 68 = .ok (.invokevirtual 202, 3) := by decide +kernel
theorem dX8_atom_71 : decode cX8_atom 71 = .ok (.aload_n 0, 1) := by decide +kernel
theorem dX8_atom_72 : decode cX8_atom 72 = .ok (.dup, 1) := by decide +kernel
theorem dX8_atom_73 : decode cX8_atom 73 = .ok (.getfield 199, 3) := by decide +kernel
theorem dX8_atom_76 : decode cX8_atom 76 = .ok (.iconst 1, 1) := by decide +kernel
theorem dX8_atom_77 : decode cX8_atom 77 = .ok (.isub, 1) := by decide +kernel
theorem dX8_atom_78 : decode cX8_atom 78 = .ok (.putfield 199, 3) := by decide +kernel
theorem dX8_atom_81 : decode cX8_atom 81 = .ok (.aload_n 0, 1) := by decide +kernel
theorem dX8_atom_82 : decode cX8_atom 82 = .ok (.getfield 188, 3) := by decide +kernel
theorem dX8_atom_85 : decode cX8_atom 85 = .ok (.ifCond .ne 76, 3) := by decide +kernel
theorem dX8_atom_88 : decode cX8_atom 88 = .ok (.aload_n 0, 1) := by decide +kernel
theorem dX8_atom_89 : decode cX8_atom 89 = .ok (.invokevirtual 205, 3) := by decide +kernel
theorem dX8_atom_92 : decode cX8_atom 92 = .ok (.goto 69, 3) := by decide +kernel
theorem dX8_atom_95 : decode cX8_atom 95 = .ok (.aload_n 0, 1) := by decide +kernel
theorem dX8_atom_96 : decode cX8_atom 96 = .ok (.getfield 188, 3) := by decide +kernel
theorem dX8_atom_99 : decode cX8_atom 99 = .ok (.ifCond .ne 24, 3) := by decide +kernel
theorem dX8_atom_102 : decode cX8_atom 102 = .ok (.aload_n 0, 1) := by decide +kernel
theorem dX8_atom_103 : decode cX8_atom 103 = .ok (.getfield 171, 3) := by decide +kernel
theorem dX8_atom_106 : decode cX8_atom 106 = .ok (.iconst 2, 1) := by decide +kernel
theorem dX8_atom_107 : decode cX8_atom 107 = .ok (.if_icmp .ne 16, 3) := by decide +kernel
theorem dX8_atom_110 : decode cX8_atom 110 = .ok (.aload_n 0, 1) := by decide +kernel
theorem dX8_atom_111 : decode cX8_atom 111 = .ok (.getfield 182, 3) := by decide +kernel
theorem dX8_atom_114 : decode cX8_atom 114 = .ok (.l2i, 1) := by decide +kernel
theorem dX8_atom_115 : decode cX8_atom 115 = .ok (.istore_n 1, 1) := by decide +kernel
theorem dX8_atom_116 : decode cX8_atom 116 = .ok (.aload_n 0, 1) := by decide +kernel
theorem dX8_atom_117 : decode cX8_atom 117 = .ok (.invokevirtual 205, 3) := by decide +kernel
theorem dX8_atom_120 : decode cX8_atom 120 = .ok (.goto 41, 3) := by decide +kernel
theorem dX8_atom_123 : decode cX8_atom 123 = .ok (.aload_n 0, 1) := by decide +kernel
theorem dX8_atom_124 : decode cX8_atom 124 = .ok (.getfield 188, 3) := by decide +kernel
theorem dX8_atom_127 : decode cX8_atom 127 = .ok (.ifCond .ne 30, 3) := by decide +kernel
theorem dX8_atom_130 : decode cX8_atom 130 = .ok (.aload_n 0, 1) := by decide +kernel
theorem dX8_atom_131 : decode cX8_atom 131 = .ok (.getfield 171, 3) := by decide +kernel
theorem dX8_atom_134 : decode cX8_atom 134 = .ok (.iconst 1, 1) := by decide +kernel
theorem dX8_atom_135 : decode cX8_atom 135 = .ok (.if_icmp .ne 22, 3) := by decide +kernel
theorem dX8_atom_138 : decode cX8_atom 138 = .ok (.aload_n 0, 1) := by decide +kernel
theorem dX8_atom_139 : decode cX8_atom 139 = .ok (.invokevirtual 244, 3) := by decide +kernel
theorem dX8_atom_142 : decode cX8_atom 142 = .ok (.istore_n 1, 1) := by decide +kernel
theorem dX8_atom_143 : decode cX8_atom 143 = .ok (.aload_n 0, 1) := by decide +kernel
theorem dX8_atom_144 : decode cX8_atom 144 = .ok (.getfield 188, 3) := by decide +kernel
theorem dX8_atom_147 : decode cX8_atom 147 = .ok (.ifCond .ne 14, 3) := by decide +kernel
theorem dX8_atom_150 : decode cX8_atom 150 = .ok (.aload_n 0, 1) := by decide +kernel
theorem dX8_atom_151 : decode cX8_atom 151 = .ok (.invokevirtual 205, 3) := by decide +kernel
theorem dX8_atom_154 : decode cX8_atom 154 = .ok (.goto 7, 3) := by decide +kernel
theorem dX8_atom_157 : decode cX8_atom 157 = .ok (.aload_n 0, 1) := by decide +kernel
theorem dX8_atom_158 : decode cX8_atom 158 = .ok (.invokevirtual 202, 3) := by decide +kernel
theorem dX8_atom_161 : decode cX8_atom 161 = .ok (.iload_n 1, 1) := by decide +kernel
theorem dX8_atom_162 : decode cX8_atom 162 = .ok (.ireturn, 1) := by decide +kernel
theorem dX8_term_0 : decode cX8_term 0 = .ok (.aload_n 0, 1) := by decide +kernel
theorem dX8_term_1 : decode cX8_term 1 = .ok (.invokevirtual 237, 3) := by decide +kernel
theorem dX8_term_4 : decode cX8_term 4 = .ok (.istore_n 1, 1) := by decide +kernel
theorem dX8_term_5 : decode cX8_term 5 = .ok (.aload_n 0, 1) := by decide +kernel
theorem dX8_term_6 : decode cX8_term 6 = .ok (.bipush 42, 2) := by decide +kernel
theorem dX8_term_8 : decode cX8_term 8 = .ok (.invokevirtual 230, 3) := by decide +kernel
theorem dX8_term_11 : decode cX8_term 11 = .ok (.ifCond .eq 17, 3) := by decide +kernel
theorem dX8_term_14 : decode cX8_term 14 = .ok (.aload_n 0, 1) := by decide +kernel
theorem dX8_term_15 : decode cX8_term 15 = .ok (.invokevirtual 205, 3) := by decide +kernel
theorem dX8_term_18 : decode cX8_term 18 = .ok (.iload_n 1, 1) := by decide +kernel
theorem dX8_term_19 : decode cX8_term 19 = .ok (.aload_n 0, 1) := by decide +kernel
theorem dX8_term_20 : decode cX8_term 20 = .ok (.invokevirtual 237, 3) := by decide +kernel
theorem dX8_term_23 : decode cX8_term 23 = .ok (.imul, 1) := by decide +kernel
theorem dX8_term_24 : decode cX8_term 24 = .ok (.istore_n 1, 1) := by decide +kernel
theorem dX8_term_25 : decode cX8_term 25 = .ok (.goto (-20), 3) := by decide +kernel
theorem dX8_term_28 : decode cX8_term 28 = .ok (.iload_n 1, 1) := by decide +kernel
theorem dX8_term_29 : decode cX8_term 29 = .ok (.ireturn, 1) := by decide +kernel
theorem dX8_added_0 : decode cX8_added 0 = .ok (.aload_n 0, 1) := by decide +kernel
theorem dX8_added_1 : decode cX8_added 1 = .ok (.invokevirtual 247, 3) := by decide +kernel
theorem dX8_added_4 : decode cX8_added 4 = .ok (.istore_n 1, 1) := by decide +kernel
theorem dX8_added_5 : decode cX8_added 5 = .ok (.aload_n 0, 1) := by decide +kernel
theorem dX8_added_6 : decode cX8_added 6 = .ok (.bipush 43, 2) := by decide +kernel
theorem dX8_added_8 : decode cX8_added 8 = .ok (.invokevirtual 230, 3) := by decide +kernel
theorem dX8_added_11 : decode cX8_added 11 = .ok (.ifCond .ne 12, 3) := by decide +kernel
theorem dX8_added_14 : decode cX8_added 14 = .ok (.aload_n 0, 1) := by decide +kernel
theorem dX8_added_15 : decode cX8_added 15 = .ok (.bipush 45, 2) := by decide +kernel
theorem dX8_added_17 : decode cX8_added 17 = .ok (.invokevirtual 230, 3) := by decide +kernel
theorem dX8_added_20 : decode cX8_added 20 = .ok (.ifCond .eq 46, 3) := by decide +kernel
theorem dX8_added_23 : decode cX8_added 23 = .ok (.aload_n 0, 1) := by decide +kernel
theorem dX8_added_24 : decode cX8_added 24 = .ok (.getfield 182, 3) := by decide +kernel
theorem dX8_added_27 : decode cX8_added 27 = .ok (.ldc2_w 250, 3) := by decide +kernel
theorem dX8_added_30 : decode cX8_added 30 = .ok (.lcmp, 1) := by decide +kernel
theorem dX8_added_31 : decode cX8_added 31 = .ok (.ifCond .ne 7, 3) := by decide +kernel
theorem dX8_added_34 : decode cX8_added 34 = .ok (.iconst 1, 1) := by decide +kernel
theorem dX8_added_35 : decode cX8_added 35 = .ok (.goto 4, 3) := by decide +kernel
theorem dX8_added_38 : decode cX8_added 38 = .ok (.iconst 0, 1) := by decide +kernel
theorem dX8_added_39 : decode cX8_added 39 = .ok (.istore_n 2, 1) := by decide +kernel
theorem dX8_added_40 : decode cX8_added 40 = .ok (.aload_n 0, 1) := by decide +kernel
theorem dX8_added_41 : decode cX8_added 41 = .ok (.invokevirtual 205, 3) := by decide +kernel
theorem dX8_added_44 : decode cX8_added 44 = .ok (.aload_n 0, 1) := by decide +kernel
theorem dX8_added_45 : decode cX8_added 45 = .ok (.invokevirtual 247, 3) := by decide +kernel
theorem dX8_added_48 : decode cX8_added 48 = .ok (.istore_n 3, 1) := by decide +kernel
theorem dX8_added_49 : decode cX8_added 49 = .ok (.iload_n 2, 1) := by decide +kernel
theorem dX8_added_50 : decode cX8_added 50 = .ok (.ifCond .eq 9, 3) := by decide +kernel
theorem dX8_added_53 : decode cX8_added 53 = .ok (.iload_n 1, 1) := by decide +kernel
theorem dX8_added_54 : decode cX8_added 54 = .ok (.iload_n 3, 1) := by decide +kernel
theorem dX8_added_55 : decode cX8_added 55 = .ok (.iadd, 1) := by decide +kernel
theorem dX8_added_56 : decode cX8_added 56 = .ok (.goto 6, 3) := by decide +kernel
theorem dX8_added_59 : decode cX8_added 59 = .ok (.iload_n 1, 1) := by decide +kernel
theorem dX8_added_60 : decode cX8_added 60 = .ok (.iload_n 3, 1) := by decide +kernel
theorem dX8_added_61 : decode cX8_added 61 = .ok (.isub, 1) := by decide +kernel
theorem dX8_added_62 : decode cX8_added 62 = .ok (.istore_n 1, 1) := by decide +kernel
theorem dX8_added_63 : decode cX8_added 63 = .ok (.goto (-58), 3) := by decide +kernel
theorem dX8_added_66 : decode cX8_added 66 = .ok (.iload_n 1, 1) := by decide +kernel
theorem dX8_added_67 : decode cX8_added 67 = .ok (.ireturn, 1) := by decide +kernel
theorem dX8_not_0 : decode cX8_not 0 = .ok (.aload_n 0, 1) := by decide +kernel
theorem dX8_not_1 : decode cX8_not 1 = .ok (.bipush 110, 2) := by decide +kernel
theorem dX8_not_3 : decode cX8_not 3 = .ok (.bipush 111, 2) := by decide +kernel
theorem dX8_not_5 : decode cX8_not 5 = .ok (.bipush 116, 2) := by decide +kernel
theorem dX8_not_7 : decode cX8_not 7 = .ok (.iconst 0, 1) := by decide +kernel
theorem dX8_not_8 : decode cX8_not 8 = .ok (.iconst 0, 1) := by decide +kernel
theorem dX8_not_9 : decode cX8_not 9 = .ok (.iconst 0, 1) := by decide +kernel
theorem dX8_not_10 : decode cX8_not 10 = .ok (.iconst 0, 1) := by decide +kernel
theorem dX8_not_11 : decode cX8_not 11 = .ok (.iconst 0, 1) := by decide +kernel
theorem dX8_not_12 : decode cX8_not 12 = .ok (.invokevirtual 208, 3) := by decide +kernel
theorem dX8_not_15 : decode cX8_not 15 = .ok (.ifCond .eq 37, 3) := by decide +kernel
theorem dX8_not_18 : decode cX8_not 18 = .ok (.aload_n 0, 1) := by decide +kernel
theorem dX8_not_19 : decode cX8_not 19 = .ok (.invokevirtual 233, 3) := by decide +kernel
theorem dX8_not_22 : decode cX8_not 22 = .ok (.ifCond .ne 5, 3) := by decide +kernel
theorem dX8_not_25 : decode cX8_not 25 = .ok (.iconst 0, 1) := by decide +kernel
theorem dX8_not_26 : decode cX8_not 26 = .ok (.ireturn, 1) := by decide +kernel
theorem dX8_not_27 : decode cX8_not 27 = .ok (.aload_n 0, 1) := by decide +kernel
theorem dX8_not_28 : decode cX8_not 28 = .ok (.invokevirtual 252, 3) := by decide +kernel
theorem dX8_not_31 : decode cX8_not 31 = .ok (.istore_n 1, 1) := by decide +kernel
theorem dX8_not_32 : decode cX8_not 32 = .ok (.aload_n 0, 1) := by decide +kernel
theorem dX8_not_33 : decode cX8_not 33 = .ok (.dup, 1) := by decide +kernel
theorem dX8_not_34 : decode cX8_not 34 = .ok (.getfield 199, 3) := by decide +kernel
theorem dX8_not_37 : decode cX8_not 37 = .ok (.iconst 1, 1) := by decide +kernel
theorem dX8_not_38 : decode cX8_not 38 = .ok (.isub, 1) := by decide +kernel
theorem dX8_not_39 : decode cX8_not 39 = .ok (.putfield 199, 3) := by decide +kernel
theorem dX8_not_42 : decode cX8_not 42 = .ok (.iload_n 1, 1) := by decide +kernel
theorem dX8_not_43 : decode cX8_not 43 = .ok (.ifCond .ne 7, 3) := by decide +kernel
theorem dX8_not_46 : decode cX8_not 46 = .ok (.iconst 1, 1) := by decide +kernel
theorem dX8_not_47 : decode cX8_not 47 = .ok (.goto 4, 3) := by decide +kernel
theorem dX8_not_50 : decode cX8_not 50 = .ok (.iconst 0, 1) := by decide +kernel
theorem dX8_not_51 : decode cX8_not 51 = .ok (.ireturn, 1) := by decide +kernel
theorem dX8_not_52 : decode cX8_not 52 = .ok (.aload_n 0, 1) := by decide +kernel
theorem dX8_not_53 : decode cX8_not 53 = .ok (.invokevirtual 255, 3) := by decide +kernel
theorem dX8_not_56 : decode cX8_not 56 = .ok (.istore_n 1, 1) := by decide +kernel
theorem dX8_not_57 : decode cX8_not 57 = .ok (.aload_n 0, 1) := by decide +kernel
theorem dX8_not_58 : decode cX8_not 58 = .ok (.bipush 60, 2) := by decide +kernel
theorem dX8_not_60 : decode cX8_not 60 = .ok (.invokevirtual 230, 3) := by decide +kernel
theorem dX8_not_63 : decode cX8_not 63 = .ok (.ifCond .ne 14, 3) := by decide +kernel
theorem dX8_not_66 : decode cX8_not 66 = .ok (.aload_n 0, 1) := by decide +kernel
theorem dX8_not_67 : decode cX8_not 67 = .ok (.bipush 61, 2) := by decide +kernel
theorem dX8_not_69 : decode cX8_not 69 = .ok (.invokevirtual 230, 3) := by decide +kernel
theorem dX8_not_72 : decode cX8_not 72 = .ok (.ifCond .ne 5, 3) := by decide +kernel
theorem dX8_not_75 : decode cX8_not 75 = .ok (.iload_n 1, 1) := by decide +kernel
theorem dX8_not_76 : decode cX8_not 76 = .ok (.ireturn, 1) := by decide +kernel
theorem dX8_not_77 : decode cX8_not 77 = .ok (.aload_n 0, 1) := by decide +kernel
theorem dX8_not_78 : decode cX8_not 78 = .ok (.getfield 182, 3) := by decide +kernel
theorem dX8_not_81 : decode cX8_not 81 = .ok (.ldc2_w 258, 3) := by decide +kernel
theorem dX8_not_84 : decode cX8_not 84 = .ok (.lcmp, 1) := by decide +kernel
theorem dX8_not_85 : decode cX8_not 85 = .ok (.ifCond .ne 7, 3) := by decide +kernel
theorem dX8_not_88 : decode cX8_not 88 = .ok (.iconst 1, 1) := by decide +kernel
theorem dX8_not_89 : decode cX8_not 89 = .ok (.goto 4, 3) := by decide +kernel
theorem dX8_not_92 : decode cX8_not 92 = .ok (.iconst 0, 1) := by decide +kernel
theorem dX8_not_93 : decode cX8_not 93 = .ok (.istore_n 2, 1) := by decide +kernel
theorem dX8_not_94 : decode cX8_not 94 = .ok (.aload_n 0, 1) := by decide +kernel
theorem dX8_not_95 : decode cX8_not 95 = .ok (.invokevirtual 205, 3) := by decide +kernel
theorem dX8_not_98 : decode cX8_not 98 = .ok (.aload_n 0, 1) := by decide +kernel
theorem dX8_not_99 : decode cX8_not 99 = .ok (.invokevirtual 255, 3) := by decide +kernel
theorem dX8_not_102 : decode cX8_not 102 = .ok (.istore_n 3, 1) := by decide +kernel
theorem dX8_not_103 : decode cX8_not 103 = .ok (.iload_n 2, 1) := by decide +kernel
theorem dX8_not_104 : decode cX8_not 104 = .ok (.ifCond .eq 11, 3) := by decide +kernel
theorem dX8_not_107 : decode cX8_not 107 = .ok (.iload_n 1, 1) := by decide +kernel
theorem dX8_not_108 : decode cX8_not 108 = .ok (.iload_n 3, 1) := by decide +kernel
theorem dX8_not_109 : decode cX8_not 109 = .ok (.if_icmp .ge 15, 3) := by decide +kernel
theorem dX8_not_112 : decode cX8_not 112 = .ok (.goto 8, 3) := by decide +kernel
theorem dX8_not_115 : decode cX8_not 115 = .ok (.iload_n 1, 1) := by decide +kernel
theorem dX8_not_116 : decode cX8_not 116 = .ok (.iload_n 3, 1) := by decide +kernel
theorem dX8_not_117 : decode cX8_not 117 = .ok (.if_icmp .ne 7, 3) := by decide +kernel
theorem dX8_not_120 : decode cX8_not 120 = .ok (.iconst 1, 1) := by decide +kernel
theorem dX8_not_121 : decode cX8_not 121 = .ok (.goto 4, 3) := by decide +kernel
theorem dX8_not_124 : decode cX8_not 124 = .ok (.iconst 0, 1) := by decide +kernel
theorem dX8_not_125 : decode cX8_not 125 = .ok (.ireturn, 1) := by decide +kernel
theorem dX8_both_0 : decode cX8_both 0 = .ok (.aload_n 0, 1) := by decide +kernel
theorem dX8_both_1 : decode cX8_both 1 = .ok (.invokevirtual 252, 3) := by decide +kernel
theorem dX8_both_4 : decode cX8_both 4 = .ok (.istore_n 1, 1) := by decide +kernel
theorem dX8_both_5 : decode cX8_both 5 = .ok (.aload_n 0, 1) := by decide +kernel
theorem dX8_both_6 : decode cX8_both 6 = .ok (.bipush 97, 2) := by decide +kernel
theorem dX8_both_8 : decode cX8_both 8 = .ok (.bipush 110, 2) := by decide +kernel
theorem dX8_both_10 : decode cX8_both 10 = .ok (.bipush 100, 2) := by decide +kernel
theorem dX8_both_12 : decode cX8_both 12 = .ok (.iconst 0, 1) := by decide +kernel
theorem dX8_both_13 : decode cX8_both 13 = .ok (.iconst 0, 1) := by decide +kernel
theorem dX8_both_14 : decode cX8_both 14 = .ok (.iconst 0, 1) := by decide +kernel
theorem dX8_both_15 : decode cX8_both 15 = .ok (.iconst 0, 1) := by decide +kernel
theorem dX8_both_16 : decode cX8_both 16 = .ok (.iconst 0, 1) := by decide +kernel
theorem dX8_both_17 : decode cX8_both 17 = .ok (.invokevirtual 208, 3) := by decide +kernel
theorem dX8_both_20 : decode cX8_both 20 = .ok (.ifCond .eq 29, 3) := by decide +kernel
theorem dX8_both_23 : decode cX8_both 23 = .ok (.aload_n 0, 1) := by decide +kernel
theorem dX8_both_24 : decode cX8_both 24 = .ok (.invokevirtual 205, 3) := by decide +kernel
theorem dX8_both_27 : decode cX8_both 27 = .ok (.aload_n 0, 1) := by decide +kernel
theorem dX8_both_28 : decode cX8_both 28 = .ok (.invokevirtual 252, 3) := by decide +kernel
theorem dX8_both_31 : decode cX8_both 31 = .ok (.istore_n 2, 1) := by decide +kernel
theorem dX8_both_32 : decode cX8_both 32 = .ok (.iload_n 1, 1) := by decide +kernel
theorem dX8_both_33 : decode cX8_both 33 = .ok (.ifCond .eq 11, 3) := by decide +kernel
theorem dX8_both_36 : decode cX8_both 36 = .ok (.iload_n 2, 1) := by decide +kernel
theorem dX8_both_37 : decode cX8_both 37 = .ok (.ifCond .eq 7, 3) := by decide +kernel
theorem dX8_both_40 : decode cX8_both 40 = .ok (.iconst 1, 1) := by decide +kernel
theorem dX8_both_41 : decode cX8_both 41 = .ok (.goto 4, 3) := by decide +kernel
theorem dX8_both_44 : decode cX8_both 44 = .ok (.iconst 0, 1) := by decide +kernel
theorem dX8_both_45 : decode cX8_both 45 = .ok (.istore_n 1, 1) := by decide +kernel
theorem dX8_both_46 : decode cX8_both 46 = .ok (.goto (-41), 3) := by decide +kernel
theorem dX8_both_49 : decode cX8_both 49 = .ok (.iload_n 1, 1) := by decide +kernel
theorem dX8_both_50 : decode cX8_both 50 = .ok (.ireturn, 1) := by decide +kernel
theorem dX8_either_0 : decode cX8_either 0 = .ok (.aload_n 0, 1) := by decide +kernel
theorem dX8_either_1 : decode cX8_either 1 = .ok (.invokevirtual 260, 3) := by decide +kernel
theorem dX8_either_4 : decode cX8_either 4 = .ok (.istore_n 1, 1) := by decide +kernel
theorem dX8_either_5 : decode cX8_either 5 = .ok (.aload_n 0, 1) := by decide +kernel
theorem dX8_either_6 : decode cX8_either 6 = .ok (.bipush 111, 2) := by decide +kernel
theorem dX8_either_8 : decode cX8_either 8 = .ok (.bipush 114, 2) := by decide +kernel
theorem dX8_either_10 : decode cX8_either 10 = .ok (.iconst 0, 1) := by decide +kernel
theorem dX8_either_11 : decode cX8_either 11 = .ok (.iconst 0, 1) := by decide +kernel
theorem dX8_either_12 : decode cX8_either 12 = .ok (.iconst 0, 1) := by decide +kernel
theorem dX8_either_13 : decode cX8_either 13 = .ok (.iconst 0, 1) := by decide +kernel
theorem dX8_either_14 : decode cX8_either 14 = .ok (.iconst 0, 1) := by decide +kernel
theorem dX8_either_15 : decode cX8_either 15 = .ok (.iconst 0, 1) := by decide +kernel
theorem dX8_either_16 : decode cX8_either 16 = .ok (.invokevirtual 208, 3) := by decide +kernel
theorem dX8_either_19 : decode cX8_either 19 = .ok (.ifCond .eq 29, 3) := by decide +kernel
theorem dX8_either_22 : decode cX8_either 22 = .ok (.aload_n 0, 1) := by decide +kernel
theorem dX8_either_23 : decode cX8_either 23 = .ok (.invokevirtual 205, 3) := by decide +kernel
theorem dX8_either_26 : decode cX8_either 26 = .ok (.aload_n 0, 1) := by decide +kernel
theorem dX8_either_27 : decode cX8_either 27 = .ok (.invokevirtual 260, 3) := by decide +kernel
theorem dX8_either_30 : decode cX8_either 30 = .ok (.istore_n 2, 1) := by decide +kernel
theorem dX8_either_31 : decode cX8_either 31 = .ok (.iload_n 1, 1) := by decide +kernel
theorem dX8_either_32 : decode cX8_either 32 = .ok (.ifCond .ne 7, 3) := by decide +kernel
theorem dX8_either_35 : decode cX8_either 35 = .ok (.iload_n 2, 1) := by decide +kernel
theorem dX8_either_36 : decode cX8_either 36 = .ok (.ifCond .eq 7, 3) := by decide +kernel
theorem dX8_either_39 : decode cX8_either 39 = .ok (.iconst 1, 1) := by decide +kernel
theorem dX8_either_40 : decode cX8_either 40 = .ok (.goto 4, 3) := by decide +kernel
theorem dX8_either_43 : decode cX8_either 43 = .ok (.iconst 0, 1) := by decide +kernel
theorem dX8_either_44 : decode cX8_either 44 = .ok (.istore_n 1, 1) := by decide +kernel
theorem dX8_either_45 : decode cX8_either 45 = .ok (.goto (-40), 3) := by decide +kernel
theorem dX8_either_48 : decode cX8_either 48 = .ok (.iload_n 1, 1) := by decide +kernel
theorem dX8_either_49 : decode cX8_either 49 = .ok (.ireturn, 1) := by decide +kernel
theorem dX8_part_0 : decode cX8_part 0 = .ok (.iload_n 1, 1) := by decide +kernel
theorem dX8_part_1 : decode cX8_part 1 = .ok (.ifCond .ne 7, 3) := by decide +kernel
theorem dX8_part_4 : decode cX8_part 4 = .ok (.aload_n 0, 1) := by decide +kernel
theorem dX8_part_5 : decode cX8_part 5 = .ok (.invokevirtual 202, 3) := by decide +kernel
theorem dX8_part_8 : decode cX8_part 8 = .ok (.aload_n 0, 1) := by decide +kernel
theorem dX8_part_9 : decode cX8_part 9 = .ok (.getfield 188, 3) := by decide +kernel
theorem dX8_part_12 : decode cX8_part 12 = .ok (.ifCond .ne 7, 3) := by decide +kernel
theorem dX8_part_15 : decode cX8_part 15 = .ok (.aload_n 0, 1) := by decide +kernel
theorem dX8_part_16 : decode cX8_part 16 = .ok (.invokevirtual 205, 3) := by decide +kernel
theorem dX8_part_19 : decode cX8_part 19 = .ok (.aload_n 0, 1) := by decide +kernel
theorem dX8_part_20 : decode cX8_part 20 = .ok (.getfield 188, 3) := by decide +kernel
theorem dX8_part_23 : decode cX8_part 23 = .ok (.ifCond .eq 7, 3) := by decide +kernel
theorem dX8_part_26 : decode cX8_part 26 = .ok (.iconst 0, 1) := by decide +kernel
theorem dX8_part_27 : decode cX8_part 27 = .ok (.goto 7, 3) := by decide +kernel
theorem dX8_part_30 : decode cX8_part 30 = .ok (.aload_n 0, 1) := by decide +kernel
theorem dX8_part_31 : decode cX8_part 31 = .ok (.invokevirtual 241, 3) := by decide +kernel
theorem dX8_part_34 : decode cX8_part 34 = .ok (.istore_n 2, 1) := by decide +kernel
theorem dX8_part_35 : decode cX8_part 35 = .ok (.aload_n 0, 1) := by decide +kernel
theorem dX8_part_36 : decode cX8_part 36 = .ok (.bipush 59, 2) := by decide +kernel
theorem dX8_part_38 : decode cX8_part 38 = .ok (.invokevirtual 230, 3) := by decide +kernel
theorem dX8_part_41 : decode cX8_part 41 = .ok (.ifCond .ne 7, 3) := by decide +kernel
theorem dX8_part_44 : decode cX8_part 44 = .ok (.aload_n 0, 1) := by decide +kernel
theorem dX8_part_45 : decode cX8_part 45 = .ok (.invokevirtual 202, 3) := by decide +kernel
theorem dX8_part_48 : decode cX8_part 48 = .ok (.aload_n 0, 1) := by decide +kernel
theorem dX8_part_49 : decode cX8_part 49 = .ok (.getfield 188, 3) := by decide +kernel
theorem dX8_part_52 : decode cX8_part 52 = .ok (.ifCond .ne 7, 3) := by decide +kernel
theorem dX8_part_55 : decode cX8_part 55 = .ok (.aload_n 0, 1) := by decide +kernel
theorem dX8_part_56 : decode cX8_part 56 = .ok (.invokevirtual 205, 3) := by decide +kernel
theorem dX8_part_59 : decode cX8_part 59 = .ok (.iload_n 2, 1) := by decide +kernel
theorem dX8_part_60 : decode cX8_part 60 = .ok (.ireturn, 1) := by decide +kernel
theorem dX8_read_0 : decode cX8_read 0 = .ok (.aload_n 0, 1) := by decide +kernel
theorem dX8_read_1 : decode cX8_read 1 = .ok (.sipush 160, 3) := by decide +kernel
theorem dX8_read_4 : decode cX8_read 4 = .ok (.iload_n 1, 1) := by decide +kernel
theorem dX8_read_5 : decode cX8_read 5 = .ok (.imul, 1) := by decide +kernel
theorem dX8_read_6 : decode cX8_read 6 = .ok (.putfield 159, 3) := by decide +kernel
theorem dX8_read_9 : decode cX8_read 9 = .ok (.aload_n 0, 1) := by decide +kernel
theorem dX8_read_10 : decode cX8_read 10 = .ok (.aload_n 0, 1) := by decide +kernel
theorem dX8_read_11 : decode cX8_read 11 = .ok (.getfield 17, 3) := by decide +kernel
theorem dX8_read_14 : decode cX8_read 14 = .ok (.iload_n 1, 1) := by decide +kernel
theorem dX8_read_15 : decode cX8_read 15 = .ok (.iaload, 1) := by decide +kernel
theorem dX8_read_16 : decode cX8_read 16 = .ok (.putfield 156, 3) := by decide +kernel
theorem dX8_read_19 : decode cX8_read 19 = .ok (.aload_n 0, 1) := by decide +kernel
theorem dX8_read_20 : decode cX8_read 20 = .ok (.iconst 0, 1) := by decide +kernel
theorem dX8_read_21 : decode cX8_read 21 = .ok (.putfield 162, 3) := by decide +kernel
theorem dX8_read_24 : decode cX8_read 24 = .ok (.aload_n 0, 1) := by decide +kernel
theorem dX8_read_25 : decode cX8_read 25 = .ok (.iconst 0, 1) := by decide +kernel
theorem dX8_read_26 : decode cX8_read 26 = .ok (.putfield 199, 3) := by decide +kernel
theorem dX8_read_29 : decode cX8_read 29 = .ok (.aload_n 0, 1) := by decide +kernel
theorem dX8_read_30 : decode cX8_read 30 = .ok (.iconst 0, 1) := by decide +kernel
theorem dX8_read_31 : decode cX8_read 31 = .ok (.putfield 188, 3) := by decide +kernel
theorem dX8_read_34 : decode cX8_read 34 = .ok (.aload_n 0, 1) := by decide +kernel
theorem dX8_read_35 : decode cX8_read 35 = .ok (.invokevirtual 205, 3) := by decide +kernel
theorem dX8_read_38 : decode cX8_read 38 = .ok (.aload_n 0, 1) := by decide +kernel
theorem dX8_read_39 : decode cX8_read 39 = .ok (.aload_n 0, 1) := by decide +kernel
theorem dX8_read_40 : decode cX8_read 40 = .ok (.bipush 115, 2) := by decide +kernel
theorem dX8_read_42 : decode cX8_read 42 = .ok (.bipush 119, 2) := by decide +kernel
theorem dX8_read_44 : decode cX8_read 44 = .ok (.bipush 101, 2) := by decide +kernel
theorem dX8_read_46 : decode cX8_read 46 = .ok (.bipush 108, 2) := by decide +kernel
theorem dX8_read_48 : decode cX8_read 48 = .ok (.bipush 108, 2) := by decide +kernel
theorem dX8_read_50 : decode cX8_read 50 = .ok (.bipush 115, 2) := by decide +kernel
theorem dX8_read_52 : decode cX8_read 52 = .ok (.iconst 0, 1) := by decide +kernel
theorem dX8_read_53 : decode cX8_read 53 = .ok (.iconst 0, 1) := by decide +kernel
theorem dX8_read_54 : decode cX8_read 54 = .ok (.invokevirtual 208, 3) := by decide +kernel
theorem dX8_read_57 : decode cX8_read 57 = .ok (.invokevirtual 263, 3) := by decide +kernel
theorem dX8_read_60 : decode cX8_read 60 = .ok (.istore_n 3, 1) := by decide +kernel
theorem dX8_read_61 : decode cX8_read 61 = .ok (.aload_n 0, 1) := by decide +kernel
theorem dX8_read_62 : decode cX8_read 62 = .ok (.getfield 188, 3) := by decide +kernel
theorem dX8_read_65 : decode cX8_read 65 = .ok (.ifCond .eq 7, 3) := by decide +kernel
theorem dX8_read_68 : decode cX8_read 68 = .ok (.iconst 0, 1) := by decide +kernel
theorem dX8_read_69 : decode cX8_read 69 = .ok (.goto 23, 3) := by decide +kernel
theorem dX8_read_72 : decode cX8_read 72 = .ok (.aload_n 0, 1) := by decide +kernel
theorem dX8_read_73 : decode cX8_read 73 = .ok (.aload_n 0, 1) := by decide +kernel
theorem dX8_read_74 : decode cX8_read 74 = .ok (.bipush 114, 2) := by decide +kernel
theorem dX8_read_76 : decode cX8_read 76 = .ok (.bipush 117, 2) := by decide +kernel
theorem dX8_read_78 : decode cX8_read 78 = .ok (.bipush 98, 2) := by decide +kernel
theorem dX8_read_80 : decode cX8_read 80 = .ok (.bipush 115, 2) := by decide +kernel
theorem dX8_read_82 : decode cX8_read 82 = .ok (.iconst 0, 1) := by decide +kernel
theorem dX8_read_83 : decode cX8_read 83 = .ok (.iconst 0, 1) := by decide +kernel
theorem dX8_read_84 : decode cX8_read 84 = .ok (.iconst 0, 1) := by decide +kernel
theorem dX8_read_85 : decode cX8_read 85 = .ok (.iconst 0, 1) := by decide +kernel
theorem dX8_read_86 : decode cX8_read 86 = .ok (.invokevirtual 208, 3) := by decide +kernel
theorem dX8_read_89 : decode cX8_read 89 = .ok (.invokevirtual 263, 3) := by decide +kernel
theorem dX8_read_92 : decode cX8_read 92 = .ok (.istore 4, 2) := by decide +kernel
theorem dX8_read_94 : decode cX8_read 94 = .ok (.aload_n 0, 1) := by decide +kernel
theorem dX8_read_95 : decode cX8_read 95 = .ok (.getfield 188, 3) := by decide +kernel
theorem dX8_read_98 : decode cX8_read 98 = .ok (.ifCond .eq 7, 3) := by decide +kernel
theorem dX8_read_101 : decode cX8_read 101 = .ok (.iconst 0, 1) := by decide +kernel
theorem dX8_read_102 : decode cX8_read 102 = .ok (.goto 24, 3) := by decide +kernel
theorem dX8_read_105 : decode cX8_read 105 = .ok (.aload_n 0, 1) := by decide +kernel
theorem dX8_read_106 : decode cX8_read 106 = .ok (.aload_n 0, 1) := by decide +kernel
theorem dX8_read_107 : decode cX8_read 107 = .ok (.bipush 112, 2) := by decide +kernel
theorem dX8_read_109 : decode cX8_read 109 = .ok (.bipush 114, 2) := by decide +kernel
theorem dX8_read_111 : decode cX8_read 111 = .ok (.bipush 105, 2) := by decide +kernel
theorem dX8_read_113 : decode cX8_read 113 = .ok (.bipush 99, 2) := by decide +kernel
theorem dX8_read_115 : decode cX8_read 115 = .ok (.bipush 101, 2) := by decide +kernel
theorem dX8_read_117 : decode cX8_read 117 = .ok (.iconst 0, 1) := by decide +kernel
theorem dX8_read_118 : decode cX8_read 118 = .ok (.iconst 0, 1) := by decide +kernel
theorem dX8_read_119 : decode cX8_read 119 = .ok (.iconst 0, 1) := by decide +kernel
theorem dX8_read_120 : decode cX8_read 120 = .ok (.invokevirtual 208, 3) := by decide +kernel
theorem dX8_read_123 : decode cX8_read 123 = .ok (.invokevirtual 263, 3) := by decide +kernel
theorem dX8_read_126 : decode cX8_read 126 = .ok (.istore 5, 2) := by decide +kernel
theorem dX8_read_128 : decode cX8_read 128 = .ok (.aload_n 0, 1) := by decide +kernel
theorem dX8_read_129 : decode cX8_read 129 = .ok (.getfield 188, 3) := by decide +kernel
theorem dX8_read_132 : decode cX8_read 132 = .ok (.ifCond .ne 14, 3) := by decide +kernel
theorem dX8_read_135 : decode cX8_read 135 = .ok (.aload_n 0, 1) := by decide +kernel
theorem dX8_read_136 : decode cX8_read 136 = .ok (.getfield 171, 3) := by decide +kernel
theorem dX8_read_139 : decode cX8_read 139 = .ok (.ifCond .eq 7, 3) := by decide +kernel
theorem dX8_read_142 : decode cX8_read 142 = .ok (.aload_n 0, 1) := by decide +kernel
theorem dX8_read_143 : decode cX8_read 143 = .ok (.invokevirtual 202, 3) := by decide +kernel
theorem dX8_read_146 : decode cX8_read 146 = .ok (.iload_n 2, 1) := by decide +kernel
theorem dX8_read_147 : decode cX8_read 147 = .ok (.ifCond .ne 7, 3) := by decide +kernel
theorem dX8_read_150 : decode cX8_read 150 = .ok (.iload_n 3, 1) := by decide +kernel
theorem dX8_read_151 : decode cX8_read 151 = .ok (.goto 15, 3) := by decide +kernel
theorem dX8_read_154 : decode cX8_read 154 = .ok (.iload_n 2, 1) := by decide +kernel
theorem dX8_read_155 : decode cX8_read 155 = .ok (.iconst 1, 1) := by decide +kernel
theorem dX8_read_156 : decode cX8_read 156 = .ok (.if_icmp .ne 8, 3) := by decide +kernel
theorem dX8_read_159 : decode cX8_read 159 = .ok (.iload 4, 2) := by decide +kernel
theorem dX8_read_161 : decode cX8_read 161 = .ok (.goto 5, 3) := by decide +kernel
theorem dX8_read_164 : decode cX8_read 164 = .ok (.iload 5, 2) := by decide +kernel
theorem dX8_read_166 : decode cX8_read 166 = .ok (.ireturn, 1) := by decide +kernel
theorem dX8_text_0 : decode cX8_text 0 = .ok (.aload_n 0, 1) := by decide +kernel
theorem dX8_text_1 : decode cX8_text 1 = .ok (.getfield 94, 3) := by decide +kernel
theorem dX8_text_4 : decode cX8_text 4 = .ok (.bipush 6, 2) := by decide +kernel
theorem dX8_text_6 : decode cX8_text 6 = .ok (.if_icmp .ne 6, 3) := by decide +kernel
theorem dX8_text_9 : decode cX8_text 9 = .ok (.bipush (-4), 2) := by decide +kernel
theorem dX8_text_11 : decode cX8_text 11 = .ok (.ireturn, 1) := by decide +kernel
theorem dX8_text_12 : decode cX8_text 12 = .ok (.iconst 0, 1) := by decide +kernel
theorem dX8_text_13 : decode cX8_text 13 = .ok (.istore_n 1, 1) := by decide +kernel
theorem dX8_text_14 : decode cX8_text 14 = .ok (.iload_n 1, 1) := by decide +kernel
theorem dX8_text_15 : decode cX8_text 15 = .ok (.aload_n 0, 1) := by decide +kernel
theorem dX8_text_16 : decode cX8_text 16 = .ok (.getfield 153, 3) := by decide +kernel
theorem dX8_text_19 : decode cX8_text 19 = .ok (.if_icmp .ge 30, 3) := by decide +kernel
theorem dX8_text_22 : decode cX8_text 22 = .ok (.aload_n 0, 1) := by decide +kernel
theorem dX8_text_23 : decode cX8_text 23 = .ok (.getfield 13, 3) := by decide +kernel
theorem dX8_text_26 : decode cX8_text 26 = .ok (.sipush 160, 3) := by decide +kernel
theorem dX8_text_29 : decode cX8_text 29 = .ok (.aload_n 0, 1) := by decide +kernel
theorem dX8_text_30 : decode cX8_text 30 = .ok (.getfield 94, 3) := by decide +kernel
theorem dX8_text_33 : decode cX8_text 33 = .ok (.imul, 1) := by decide +kernel
theorem dX8_text_34 : decode cX8_text 34 = .ok (.iload_n 1, 1) := by decide +kernel
theorem dX8_text_35 : decode cX8_text 35 = .ok (.iadd, 1) := by decide +kernel
theorem dX8_text_36 : decode cX8_text 36 = .ok (.aload_n 0, 1) := by decide +kernel
theorem dX8_text_37 : decode cX8_text 37 = .ok (.getfield 20, 3) := by decide +kernel
theorem dX8_text_40 : decode cX8_text 40 = .ok (.iload_n 1, 1) := by decide +kernel
theorem dX8_text_41 : decode cX8_text 41 = .ok (.iaload, 1) := by decide +kernel
theorem dX8_text_42 : decode cX8_text 42 = .ok (.iastore, 1) := by decide +kernel
theorem dX8_text_43 : decode cX8_text 43 = .ok (.iinc 1 1, 3) := by decide +kernel
theorem dX8_text_46 : decode cX8_text 46 = .ok (.goto (-32), 3) := by decide +kernel
theorem dX8_text_49 : decode cX8_text 49 = .ok (.aload_n 0, 1) := by decide +kernel
theorem dX8_text_50 : decode cX8_text 50 = .ok (.getfield 17, 3) := by decide +kernel
theorem dX8_text_53 : decode cX8_text 53 = .ok (.aload_n 0, 1) := by decide +kernel
theorem dX8_text_54 : decode cX8_text 54 = .ok (.getfield 94, 3) := by decide +kernel
theorem dX8_text_57 : decode cX8_text 57 = .ok (.aload_n 0, 1) := by decide +kernel
theorem dX8_text_58 : decode cX8_text 58 = .ok (.getfield 153, 3) := by decide +kernel
theorem dX8_text_61 : decode cX8_text 61 = .ok (.iastore, 1) := by decide +kernel
theorem dX8_text_62 : decode cX8_text 62 = .ok (.aload_n 0, 1) := by decide +kernel
theorem dX8_text_63 : decode cX8_text 63 = .ok (.iconst 0, 1) := by decide +kernel
theorem dX8_text_64 : decode cX8_text 64 = .ok (.putfield 153, 3) := by decide +kernel
theorem dX8_text_67 : decode cX8_text 67 = .ok (.aload_n 0, 1) := by decide +kernel
theorem dX8_text_68 : decode cX8_text 68 = .ok (.aload_n 0, 1) := by decide +kernel
theorem dX8_text_69 : decode cX8_text 69 = .ok (.getfield 94, 3) := by decide +kernel
theorem dX8_text_72 : decode cX8_text 72 = .ok (.iconst 0, 1) := by decide +kernel
theorem dX8_text_73 : decode cX8_text 73 = .ok (.invokevirtual 267, 3) := by decide +kernel
theorem dX8_text_76 : decode cX8_text 76 = .ok (.istore_n 1, 1) := by decide +kernel
theorem dX8_text_77 : decode cX8_text 77 = .ok (.aload_n 0, 1) := by decide +kernel
theorem dX8_text_78 : decode cX8_text 78 = .ok (.getfield 188, 3) := by decide +kernel
theorem dX8_text_81 : decode cX8_text 81 = .ok (.ifCond .eq 11, 3) := by decide +kernel
theorem dX8_text_84 : decode cX8_text 84 = .ok (.bipush (-100), 2) := by decide +kernel
theorem dX8_text_86 : decode cX8_text 86 = .ok (.aload_n 0, 1) := by decide +kernel
theorem dX8_text_87 : decode cX8_text 87 = .ok (.getfield 192, 3) := by decide +kernel
theorem dX8_text_90 : decode cX8_text 90 = .ok (.isub, 1) := by decide +kernel
theorem dX8_text_91 : decode cX8_text 91 = .ok (.ireturn, 1) := by decide +kernel
theorem dX8_text_92 : decode cX8_text 92 = .ok (.aload_n 0, 1) := by decide +kernel
theorem dX8_text_93 : decode cX8_text 93 = .ok (.dup, 1) := by decide +kernel
theorem dX8_text_94 : decode cX8_text 94 = .ok (.getfield 94, 3) := by decide +kernel
theorem dX8_text_97 : decode cX8_text 97 = .ok (.iconst 1, 1) := by decide +kernel
theorem dX8_text_98 : decode cX8_text 98 = .ok (.iadd, 1) := by decide +kernel
theorem dX8_text_99 : decode cX8_text 99 = .ok (.putfield 94, 3) := by decide +kernel
theorem dX8_text_102 : decode cX8_text 102 = .ok (.aload_n 0, 1) := by decide +kernel
theorem dX8_text_103 : decode cX8_text 103 = .ok (.getfield 94, 3) := by decide +kernel
theorem dX8_text_106 : decode cX8_text 106 = .ok (.iconst 1, 1) := by decide +kernel
theorem dX8_text_107 : decode cX8_text 107 = .ok (.isub, 1) := by decide +kernel
theorem dX8_text_108 : decode cX8_text 108 = .ok (.ireturn, 1) := by decide +kernel
theorem dX8_force_0 : decode cX8_force 0 = .ok (.iload_n 1, 1) := by decide +kernel
theorem dX8_force_1 : decode cX8_force 1 = .ok (.i2l, 1) := by decide +kernel
theorem dX8_force_2 : decode cX8_force 2 = .ok (.lconst 0, 1) := by decide +kernel
theorem dX8_force_3 : decode cX8_force 3 = .ok (.aload_n 0, 1) := by decide +kernel
theorem dX8_force_4 : decode cX8_force 4 = .ok (.getfield 94, 3) := by decide +kernel
theorem dX8_force_7 : decode cX8_force 7 = .ok (.iconst 1, 1) := by decide +kernel
theorem dX8_force_8 : decode cX8_force 8 = .ok (.isub, 1) := by decide +kernel
theorem dX8_force_9 : decode cX8_force 9 = .ok (.i2l, 1) := by decide +kernel
theorem dX8_force_10 : decode cX8_force 10 = .ok (.invokestatic 100, 3) := by decide +kernel
theorem dX8_force_13 : decode cX8_force 13 = .ok (.ifCond .ne 6, 3) := by decide +kernel
theorem dX8_force_16 : decode cX8_force 16 = .ok (.bipush (-2), 2) := by decide +kernel
theorem dX8_force_18 : decode cX8_force 18 = .ok (.ireturn, 1) := by decide +kernel
theorem dX8_force_19 : decode cX8_force 19 = .ok (.aload_n 0, 1) := by decide +kernel
theorem dX8_force_20 : decode cX8_force 20 = .ok (.getfield 270, 3) := by decide +kernel
theorem dX8_force_23 : decode cX8_force 23 = .ok (.istore_n 2, 1) := by decide +kernel
theorem dX8_force_24 : decode cX8_force 24 = .ok (.aload_n 0, 1) := by decide +kernel
theorem dX8_force_25 : decode cX8_force 25 = .ok (.iload_n 1, 1) := by decide +kernel
theorem dX8_force_26 : decode cX8_force 26 = .ok (.putfield 270, 3) := by decide +kernel
theorem dX8_force_29 : decode cX8_force 29 = .ok (.iload_n 2, 1) := by decide +kernel
theorem dX8_force_30 : decode cX8_force 30 = .ok (.ireturn, 1) := by decide +kernel
theorem dX8_footNow_0 : decode cX8_footNow 0 = .ok (.aload_n 0, 1) := by decide +kernel
theorem dX8_footNow_1 : decode cX8_footNow 1 = .ok (.iconst 0, 1) := by decide +kernel
theorem dX8_footNow_2 : decode cX8_footNow 2 = .ok (.putfield 212, 3) := by decide +kernel
theorem dX8_footNow_5 : decode cX8_footNow 5 = .ok (.aload_n 0, 1) := by decide +kernel
theorem dX8_footNow_6 : decode cX8_footNow 6 = .ok (.iconst 0, 1) := by decide +kernel
theorem dX8_footNow_7 : decode cX8_footNow 7 = .ok (.putfield 215, 3) := by decide +kernel
theorem dX8_footNow_10 : decode cX8_footNow 10 = .ok (.aload_n 0, 1) := by decide +kernel
theorem dX8_footNow_11 : decode cX8_footNow 11 = .ok (.iconst 0, 1) := by decide +kernel
theorem dX8_footNow_12 : decode cX8_footNow 12 = .ok (.putfield 218, 3) := by decide +kernel
theorem dX8_footNow_15 : decode cX8_footNow 15 = .ok (.aload_n 0, 1) := by decide +kernel
theorem dX8_footNow_16 : decode cX8_footNow 16 = .ok (.iconst 0, 1) := by decide +kernel
theorem dX8_footNow_17 : decode cX8_footNow 17 = .ok (.putfield 221, 3) := by decide +kernel
theorem dX8_footNow_20 : decode cX8_footNow 20 = .ok (.aload_n 0, 1) := by decide +kernel
theorem dX8_footNow_21 : decode cX8_footNow 21 = .ok (.iload_n 1, 1) := by decide +kernel
theorem dX8_footNow_22 : decode cX8_footNow 22 = .ok (.putfield 224, 3) := by decide +kernel
theorem dX8_footNow_25 : decode cX8_footNow 25 = .ok (.aload_n 0, 1) := by decide +kernel
theorem dX8_footNow_26 : decode cX8_footNow 26 = .ok (.aload_n 0, 1) := by decide +kernel
theorem dX8_footNow_27 : decode cX8_footNow 27 = .ok (.getfield 29, 3) := by decide +kernel
theorem dX8_footNow_30 : decode cX8_footNow 30 = .ok (.putfield 227, 3) := by decide +kernel
theorem dX8_footNow_33 : decode cX8_footNow 33 = .ok (.iload_n 1, 1) := by decide +kernel
theorem dX8_footNow_34 : decode cX8_footNow 34 = .ok (.ifCond .ne 10, 3) := by decide +kernel
theorem dX8_footNow_37 : decode cX8_footNow 37 = .ok (.aload_n 0, 1) := by decide +kernel
theorem dX8_footNow_38 : decode cX8_footNow 38 = .ok (.getfield 23, 3) := by decide +kernel
theorem dX8_footNow_41 : decode cX8_footNow 41 = .ok (.goto 7, 3) := by decide +kernel
theorem dX8_footNow_44 : decode cX8_footNow 44 = .ok (.aload_n 0, 1) := by decide +kernel
theorem dX8_footNow_45 : decode cX8_footNow 45 = .ok (.getfield 26, 3) := by decide +kernel
theorem dX8_footNow_48 : decode cX8_footNow 48 = .ok (.aload_n 0, 1) := by decide +kernel
theorem dX8_footNow_49 : decode cX8_footNow 49 = .ok (.aload_n 0, 1) := by decide +kernel
theorem dX8_footNow_50 : decode cX8_footNow 50 = .ok (.getfield 270, 3) := by decide +kernel
theorem dX8_footNow_53 : decode cX8_footNow 53 = .ok (.iconst 0, 1) := by decide +kernel
theorem dX8_footNow_54 : decode cX8_footNow 54 = .ok (.invokevirtual 267, 3) := by decide +kernel
theorem dX8_footNow_57 : decode cX8_footNow 57 = .ok (.iconst 0, 1) := by decide +kernel
theorem dX8_footNow_58 : decode cX8_footNow 58 = .ok (.bipush 20, 2) := by decide +kernel
theorem dX8_footNow_60 : decode cX8_footNow 60 = .ok (.invokestatic 273, 3) := by decide +kernel
theorem dX8_footNow_63 : decode cX8_footNow 63 = .ok (.iadd, 1) := by decide +kernel
theorem dX8_footNow_64 : decode cX8_footNow 64 = .ok (.istore_n 2, 1) := by decide +kernel
theorem dX8_footNow_65 : decode cX8_footNow 65 = .ok (.iload_n 2, 1) := by decide +kernel
theorem dX8_footNow_66 : decode cX8_footNow 66 = .ok (.bipush 99, 2) := by decide +kernel
theorem dX8_footNow_68 : decode cX8_footNow 68 = .ok (.if_icmp .le 8, 3) := by decide +kernel
theorem dX8_footNow_71 : decode cX8_footNow 71 = .ok (.bipush 99, 2) := by decide +kernel
theorem dX8_footNow_73 : decode cX8_footNow 73 = .ok (.goto 4, 3) := by decide +kernel
theorem dX8_footNow_76 : decode cX8_footNow 76 = .ok (.iload_n 2, 1) := by decide +kernel
theorem dX8_footNow_77 : decode cX8_footNow 77 = .ok (.ireturn, 1) := by decide +kernel
theorem dX8_asksFor_0 : decode cX8_asksFor 0 = .ok (.aload_n 0, 1) := by decide +kernel
theorem dX8_asksFor_1 : decode cX8_asksFor 1 = .ok (.iload_n 2, 1) := by decide +kernel
theorem dX8_asksFor_2 : decode cX8_asksFor 2 = .ok (.bipush 20, 2) := by decide +kernel
theorem dX8_asksFor_4 : decode cX8_asksFor 4 = .ok (.irem, 1) := by decide +kernel
theorem dX8_asksFor_5 : decode cX8_asksFor 5 = .ok (.putfield 212, 3) := by decide +kernel
theorem dX8_asksFor_8 : decode cX8_asksFor 8 = .ok (.aload_n 0, 1) := by decide +kernel
theorem dX8_asksFor_9 : decode cX8_asksFor 9 = .ok (.iload_n 2, 1) := by decide +kernel
theorem dX8_asksFor_10 : decode cX8_asksFor 10 = .ok (.bipush 20, 2) := by decide +kernel
theorem dX8_asksFor_12 : decode cX8_asksFor 12 = .ok (.idiv, 1) := by decide +kernel
theorem dX8_asksFor_13 : decode cX8_asksFor 13 = .ok (.putfield 215, 3) := by decide +kernel
theorem dX8_asksFor_16 : decode cX8_asksFor 16 = .ok (.aload_n 0, 1) := by decide +kernel
theorem dX8_asksFor_17 : decode cX8_asksFor 17 = .ok (.iload_n 3, 1) := by decide +kernel
theorem dX8_asksFor_18 : decode cX8_asksFor 18 = .ok (.putfield 218, 3) := by decide +kernel
theorem dX8_asksFor_21 : decode cX8_asksFor 21 = .ok (.aload_n 0, 1) := by decide +kernel
theorem dX8_asksFor_22 : decode cX8_asksFor 22 = .ok (.aload_n 0, 1) := by decide +kernel
theorem dX8_asksFor_23 : decode cX8_asksFor 23 = .ok (.getfield 38, 3) := by decide +kernel
theorem dX8_asksFor_26 : decode cX8_asksFor 26 = .ok (.iload_n 2, 1) := by decide +kernel
theorem dX8_asksFor_27 : decode cX8_asksFor 27 = .ok (.bipush 20, 2) := by decide +kernel
theorem dX8_asksFor_29 : decode cX8_asksFor 29 = .ok (.idiv, 1) := by decide +kernel
theorem dX8_asksFor_30 : decode cX8_asksFor 30 = .ok (.iaload, 1) := by decide +kernel
theorem dX8_asksFor_31 : decode cX8_asksFor 31 = .ok (.putfield 221, 3) := by decide +kernel
theorem dX8_asksFor_34 : decode cX8_asksFor 34 = .ok (.aload_n 0, 1) := by decide +kernel
theorem dX8_asksFor_35 : decode cX8_asksFor 35 = .ok (.iload 4, 2) := by decide +kernel
theorem dX8_asksFor_37 : decode cX8_asksFor 37 = .ok (.putfield 224, 3) := by decide +kernel
theorem dX8_asksFor_40 : decode cX8_asksFor 40 = .ok (.aload_n 0, 1) := by decide +kernel
theorem dX8_asksFor_41 : decode cX8_asksFor 41 = .ok (.aload_n 0, 1) := by decide +kernel
theorem dX8_asksFor_42 : decode cX8_asksFor 42 = .ok (.getfield 29, 3) := by decide +kernel
theorem dX8_asksFor_45 : decode cX8_asksFor 45 = .ok (.putfield 227, 3) := by decide +kernel
theorem dX8_asksFor_48 : decode cX8_asksFor 48 = .ok (.aload_n 0, 1) := by decide +kernel
theorem dX8_asksFor_49 : decode cX8_asksFor 49 = .ok (.aload_n 0, 1) := by decide +kernel
theorem dX8_asksFor_50 : decode cX8_asksFor 50 = .ok (.getfield 270, 3) := by decide +kernel
theorem dX8_asksFor_53 : decode cX8_asksFor 53 = .ok (.iload_n 1, 1) := by decide +kernel
theorem dX8_asksFor_54 : decode cX8_asksFor 54 = .ok (.invokevirtual 267, 3) := by decide +kernel
theorem dX8_asksFor_57 : decode cX8_asksFor 57 = .ok (.iconst 0, 1) := by decide +kernel
theorem dX8_asksFor_58 : decode cX8_asksFor 58 = .ok (.bipush 99, 2) := by decide +kernel
theorem dX8_asksFor_60 : decode cX8_asksFor 60 = .ok (.invokestatic 273, 3) := by decide +kernel
theorem dX8_asksFor_63 : decode cX8_asksFor 63 = .ok (.ireturn, 1) := by decide +kernel
theorem dX8_gathers_0 : decode cX8_gathers 0 = .ok (.iconst 0, 1) := by decide +kernel
theorem dX8_gathers_1 : decode cX8_gathers 1 = .ok (.istore_n 1, 1) := by decide +kernel
theorem dX8_gathers_2 : decode cX8_gathers 2 = .ok (.iload_n 1, 1) := by decide +kernel
theorem dX8_gathers_3 : decode cX8_gathers 3 = .ok (.bipush 20, 2) := by decide +kernel
theorem dX8_gathers_5 : decode cX8_gathers 5 = .ok (.aload_n 0, 1) := by decide +kernel
theorem dX8_gathers_6 : decode cX8_gathers 6 = .ok (.getfield 97, 3) := by decide +kernel
theorem dX8_gathers_9 : decode cX8_gathers 9 = .ok (.imul, 1) := by decide +kernel
theorem dX8_gathers_10 : decode cX8_gathers 10 = .ok (.if_icmp .ge 48, 3) := by decide +kernel
theorem dX8_gathers_13 : decode cX8_gathers 13 = .ok (.iconst 0, 1) := by decide +kernel
theorem dX8_gathers_14 : decode cX8_gathers 14 = .ok (.istore_n 2, 1) := by decide +kernel
theorem dX8_gathers_15 : decode cX8_gathers 15 = .ok (.iload_n 2, 1) := by decide +kernel
theorem dX8_gathers_16 : decode cX8_gathers 16 = .ok (.bipush 100, 2) := by decide +kernel
theorem dX8_gathers_18 : decode cX8_gathers 18 = .ok (.if_icmp .ge 34, 3) := by decide +kernel
theorem dX8_gathers_21 : decode cX8_gathers 21 = .ok (.aload_n 0, 1) := by decide +kernel
theorem dX8_gathers_22 : decode cX8_gathers 22 = .ok (.iload_n 1, 1) := by decide +kernel
theorem dX8_gathers_23 : decode cX8_gathers 23 = .ok (.invokevirtual 277, 3) := by decide +kernel
theorem dX8_gathers_26 : decode cX8_gathers 26 = .ok (.ifCond .eq 26, 3) := by decide +kernel
theorem dX8_gathers_29 : decode cX8_gathers 29 = .ok (.aload_n 0, 1) := by decide +kernel
theorem dX8_gathers_30 : decode cX8_gathers 30 = .ok (.getfield 47, 3) := by decide +kernel
theorem dX8_gathers_33 : decode cX8_gathers 33 = .ok (.bipush 100, 2) := by decide +kernel
theorem dX8_gathers_35 : decode cX8_gathers 35 = .ok (.iload_n 1, 1) := by decide +kernel
theorem dX8_gathers_36 : decode cX8_gathers 36 = .ok (.imul, 1) := by decide +kernel
theorem dX8_gathers_37 : decode cX8_gathers 37 = .ok (.iload_n 2, 1) := by decide +kernel
theorem dX8_gathers_38 : decode cX8_gathers 38 = .ok (.iadd, 1) := by decide +kernel
theorem dX8_gathers_39 : decode cX8_gathers 39 = .ok (.aload_n 0, 1) := by decide +kernel
theorem dX8_gathers_40 : decode cX8_gathers 40 = .ok (.iload_n 1, 1) := by decide +kernel
theorem dX8_gathers_41 : decode cX8_gathers 41 = .ok (.iload_n 2, 1) := by decide +kernel
theorem dX8_gathers_42 : decode cX8_gathers 42 = .ok (.invokevirtual 148, 3) := by decide +kernel
theorem dX8_gathers_45 : decode cX8_gathers 45 = .ok (.iastore, 1) := by decide +kernel
theorem dX8_gathers_46 : decode cX8_gathers 46 = .ok (.iinc 2 1, 3) := by decide +kernel
theorem dX8_gathers_49 : decode cX8_gathers 49 = .ok (.goto (-34), 3) := by decide +kernel
theorem dX8_gathers_52 : decode cX8_gathers 52 = .ok (.iinc 1 1, 3) := by decide +kernel
theorem dX8_gathers_55 : decode cX8_gathers 55 = .ok (.goto (-53), 3) := by decide +kernel
theorem dX8_gathers_58 : decode cX8_gathers 58 = .ok (.return_, 1) := by decide +kernel
theorem dX8_canBad_0 : decode cX8_canBad 0 = .ok (.iload_n 1, 1) := by decide +kernel
theorem dX8_canBad_1 : decode cX8_canBad 1 = .ok (.invokestatic 280, 3) := by decide +kernel
theorem dX8_canBad_4 : decode cX8_canBad 4 = .ok (.ifCond .ne 6, 3) := by decide +kernel
theorem dX8_canBad_7 : decode cX8_canBad 7 = .ok (.bipush (-2), 2) := by decide +kernel
theorem dX8_canBad_9 : decode cX8_canBad 9 = .ok (.ireturn, 1) := by decide +kernel
theorem dX8_canBad_10 : decode cX8_canBad 10 = .ok (.aload_n 0, 1) := by decide +kernel
theorem dX8_canBad_11 : decode cX8_canBad 11 = .ok (.getfield 78, 3) := by decide +kernel
theorem dX8_canBad_14 : decode cX8_canBad 14 = .ok (.iload_n 1, 1) := by decide +kernel
theorem dX8_canBad_15 : decode cX8_canBad 15 = .ok (.baload, 1) := by decide +kernel
theorem dX8_canBad_16 : decode cX8_canBad 16 = .ok (.ifCond .ne 6, 3) := by decide +kernel
theorem dX8_canBad_19 : decode cX8_canBad 19 = .ok (.bipush (-11), 2) := by decide +kernel
theorem dX8_canBad_21 : decode cX8_canBad 21 = .ok (.ireturn, 1) := by decide +kernel
theorem dX8_canBad_22 : decode cX8_canBad 22 = .ok (.aload_n 0, 1) := by decide +kernel
theorem dX8_canBad_23 : decode cX8_canBad 23 = .ok (.getfield 84, 3) := by decide +kernel
theorem dX8_canBad_26 : decode cX8_canBad 26 = .ok (.iload_n 1, 1) := by decide +kernel
theorem dX8_canBad_27 : decode cX8_canBad 27 = .ok (.iaload, 1) := by decide +kernel
theorem dX8_canBad_28 : decode cX8_canBad 28 = .ok (.iconst 2, 1) := by decide +kernel
theorem dX8_canBad_29 : decode cX8_canBad 29 = .ok (.irem, 1) := by decide +kernel
theorem dX8_canBad_30 : decode cX8_canBad 30 = .ok (.ifCond .eq 6, 3) := by decide +kernel
theorem dX8_canBad_33 : decode cX8_canBad 33 = .ok (.bipush (-2), 2) := by decide +kernel
theorem dX8_canBad_35 : decode cX8_canBad 35 = .ok (.ireturn, 1) := by decide +kernel
theorem dX8_canBad_36 : decode cX8_canBad 36 = .ok (.iconst 0, 1) := by decide +kernel
theorem dX8_canBad_37 : decode cX8_canBad 37 = .ok (.istore_n 2, 1) := by decide +kernel
theorem dX8_canBad_38 : decode cX8_canBad 38 = .ok (.iload_n 2, 1) := by decide +kernel
theorem dX8_canBad_39 : decode cX8_canBad 39 = .ok (.aload_n 0, 1) := by decide +kernel
theorem dX8_canBad_40 : decode cX8_canBad 40 = .ok (.getfield 84, 3) := by decide +kernel
theorem dX8_canBad_43 : decode cX8_canBad 43 = .ok (.iload_n 1, 1) := by decide +kernel
theorem dX8_canBad_44 : decode cX8_canBad 44 = .ok (.iaload, 1) := by decide +kernel
theorem dX8_canBad_45 : decode cX8_canBad 45 = .ok (.if_icmp .ge 56, 3) := by decide +kernel
theorem dX8_canBad_48 : decode cX8_canBad 48 = .ok (.aload_n 0, 1) := by decide +kernel
theorem dX8_canBad_49 : decode cX8_canBad 49 = .ok (.aload_n 0, 1) := by decide +kernel
theorem dX8_canBad_50 : decode cX8_canBad 50 = .ok (.getfield 87, 3) := by decide +kernel
theorem dX8_canBad_53 : decode cX8_canBad 53 = .ok (.bipush 40, 2) := by decide +kernel
theorem dX8_canBad_55 : decode cX8_canBad 55 = .ok (.iload_n 1, 1) := by decide +kernel
theorem dX8_canBad_56 : decode cX8_canBad 56 = .ok (.imul, 1) := by decide +kernel
theorem dX8_canBad_57 : decode cX8_canBad 57 = .ok (.iload_n 2, 1) := by decide +kernel
theorem dX8_canBad_58 : decode cX8_canBad 58 = .ok (.iadd, 1) := by decide +kernel
theorem dX8_canBad_59 : decode cX8_canBad 59 = .ok (.iaload, 1) := by decide +kernel
theorem dX8_canBad_60 : decode cX8_canBad 60 = .ok (.invokevirtual 145, 3) := by decide +kernel
theorem dX8_canBad_63 : decode cX8_canBad 63 = .ok (.ifCond .eq 29, 3) := by decide +kernel
theorem dX8_canBad_66 : decode cX8_canBad 66 = .ok (.aload_n 0, 1) := by decide +kernel
theorem dX8_canBad_67 : decode cX8_canBad 67 = .ok (.getfield 87, 3) := by decide +kernel
theorem dX8_canBad_70 : decode cX8_canBad 70 = .ok (.bipush 40, 2) := by decide +kernel
theorem dX8_canBad_72 : decode cX8_canBad 72 = .ok (.iload_n 1, 1) := by decide +kernel
theorem dX8_canBad_73 : decode cX8_canBad 73 = .ok (.imul, 1) := by decide +kernel
theorem dX8_canBad_74 : decode cX8_canBad 74 = .ok (.iload_n 2, 1) := by decide +kernel
theorem dX8_canBad_75 : decode cX8_canBad 75 = .ok (.iadd, 1) := by decide +kernel
theorem dX8_canBad_76 : decode cX8_canBad 76 = .ok (.iconst 1, 1) := by decide +kernel
theorem dX8_canBad_77 : decode cX8_canBad 77 = .ok (.iadd, 1) := by decide +kernel
theorem dX8_canBad_78 : decode cX8_canBad 78 = .ok (.iaload, 1) := by decide +kernel
theorem dX8_canBad_79 : decode cX8_canBad 79 = .ok (.i2l, 1) := by decide +kernel
theorem dX8_canBad_80 : decode cX8_canBad 80 = .ok (.ldc2_w 283, 3) := by decide +kernel
theorem dX8_canBad_83 : decode cX8_canBad 83 = .ok (.ldc2_w 285, 3) := by decide +kernel
theorem dX8_canBad_86 : decode cX8_canBad 86 = .ok (.invokestatic 100, 3) := by decide +kernel
theorem dX8_canBad_89 : decode cX8_canBad 89 = .ok (.ifCond .ne 6, 3) := by decide +kernel
theorem dX8_canBad_92 : decode cX8_canBad 92 = .ok (.bipush (-2), 2) := by decide +kernel
theorem dX8_canBad_94 : decode cX8_canBad 94 = .ok (.ireturn, 1) := by decide +kernel
theorem dX8_canBad_95 : decode cX8_canBad 95 = .ok (.iinc 2 2, 3) := by decide +kernel
theorem dX8_canBad_98 : decode cX8_canBad 98 = .ok (.goto (-60), 3) := by decide +kernel
theorem dX8_canBad_101 : decode cX8_canBad 101 = .ok (.iconst 0, 1) := by decide +kernel
theorem dX8_canBad_102 : decode cX8_canBad 102 = .ok (.ireturn, 1) := by decide +kernel
theorem dX8_isSo_0 : decode cX8_isSo 0 = .ok (.iconst 0, 1) := by decide +kernel
theorem dX8_isSo_1 : decode cX8_isSo 1 = .ok (.istore 4, 2) := by decide +kernel
theorem dX8_isSo_3 : decode cX8_isSo 3 = .ok (.iload 4, 2) := by decide +kernel
theorem dX8_isSo_5 : decode cX8_isSo 5 = .ok (.aload_n 0, 1) := by decide +kernel
theorem dX8_isSo_6 : decode cX8_isSo 6 = .ok (.getfield 84, 3) := by decide +kernel
theorem dX8_isSo_9 : decode cX8_isSo 9 = .ok (.iload_n 1, 1) := by decide +kernel
theorem dX8_isSo_10 : decode cX8_isSo 10 = .ok (.iaload, 1) := by decide +kernel
theorem dX8_isSo_11 : decode cX8_isSo 11 = .ok (.if_icmp .ge 63, 3) := by decide +kernel
theorem dX8_isSo_14 : decode cX8_isSo 14 = .ok (.aload_n 0, 1) := by decide +kernel
theorem dX8_isSo_15 : decode cX8_isSo 15 = .ok (.getfield 87, 3) := by decide +kernel
theorem dX8_isSo_18 : decode cX8_isSo 18 = .ok (.bipush 40, 2) := by decide +kernel
theorem dX8_isSo_20 : decode cX8_isSo 20 = .ok (.iload_n 1, 1) := by decide +kernel
theorem dX8_isSo_21 : decode cX8_isSo 21 = .ok (.imul, 1) := by decide +kernel
theorem dX8_isSo_22 : decode cX8_isSo 22 = .ok (.iload 4, 2) := by decide +kernel
theorem dX8_isSo_24 : decode cX8_isSo 24 = .ok (.iadd, 1) := by decide +kernel
theorem dX8_isSo_25 : decode cX8_isSo 25 = .ok (.iaload, 1) := by decide +kernel
theorem dX8_isSo_26 : decode cX8_isSo 26 = .ok (.istore 5, 2) := by decide +kernel
theorem dX8_isSo_28 : decode cX8_isSo 28 = .ok (.iload_n 3, 1) := by decide +kernel
theorem dX8_isSo_29 : decode cX8_isSo 29 = .ok (.iconst (-1), 1) := by decide +kernel
theorem dX8_isSo_30 : decode cX8_isSo 30 = .ok (.if_icmp .eq 12, 3) := by decide +kernel
theorem dX8_isSo_33 : decode cX8_isSo 33 = .ok (.iload 5, 2) := by decide +kernel
theorem dX8_isSo_35 : decode cX8_isSo 35 = .ok (.bipush 20, 2) := by decide +kernel
theorem dX8_isSo_37 : decode cX8_isSo 37 = .ok (.idiv, 1) := by decide +kernel
theorem dX8_isSo_38 : decode cX8_isSo 38 = .ok (.iload_n 3, 1) := by decide +kernel
theorem dX8_isSo_39 : decode cX8_isSo 39 = .ok (.if_icmp .ne 29, 3) := by decide +kernel
theorem dX8_isSo_42 : decode cX8_isSo 42 = .ok (.aload_n 0, 1) := by decide +kernel
theorem dX8_isSo_43 : decode cX8_isSo 43 = .ok (.iload 5, 2) := by decide +kernel
theorem dX8_isSo_45 : decode cX8_isSo 45 = .ok (.iload_n 2, 1) := by decide +kernel
theorem dX8_isSo_46 : decode cX8_isSo 46 = .ok (.invokevirtual 148, 3) := by decide +kernel
theorem dX8_isSo_49 : decode cX8_isSo 49 = .ok (.aload_n 0, 1) := by decide +kernel
theorem dX8_isSo_50 : decode cX8_isSo 50 = .ok (.getfield 87, 3) := by decide +kernel
theorem dX8_isSo_53 : decode cX8_isSo 53 = .ok (.bipush 40, 2) := by decide +kernel
theorem dX8_isSo_55 : decode cX8_isSo 55 = .ok (.iload_n 1, 1) := by decide +kernel
theorem dX8_isSo_56 : decode cX8_isSo 56 = .ok (.imul, 1) := by decide +kernel
theorem dX8_isSo_57 : decode cX8_isSo 57 = .ok (.iload 4, 2) := by decide +kernel
theorem dX8_isSo_59 : decode cX8_isSo 59 = .ok (.iadd, 1) := by decide +kernel
theorem dX8_isSo_60 : decode cX8_isSo 60 = .ok (.iconst 1, 1) := by decide +kernel
theorem dX8_isSo_61 : decode cX8_isSo 61 = .ok (.iadd, 1) := by decide +kernel
theorem dX8_isSo_62 : decode cX8_isSo 62 = .ok (.iaload, 1) := by decide +kernel
theorem dX8_isSo_63 : decode cX8_isSo 63 = .ok (.if_icmp .eq 5, 3) := by decide +kernel
theorem dX8_isSo_66 : decode cX8_isSo 66 = .ok (.iconst 0, 1) := by decide +kernel
theorem dX8_isSo_67 : decode cX8_isSo 67 = .ok (.ireturn, 1) := by decide +kernel
theorem dX8_isSo_68 : decode cX8_isSo 68 = .ok (.iinc 4 2, 3) := by decide +kernel
theorem dX8_isSo_71 : decode cX8_isSo 71 = .ok (.goto (-68), 3) := by decide +kernel
theorem dX8_isSo_74 : decode cX8_isSo 74 = .ok (.iconst 1, 1) := by decide +kernel
theorem dX8_isSo_75 : decode cX8_isSo 75 = .ok (.ireturn, 1) := by decide +kernel
theorem dX8_canMany_0 : decode cX8_canMany 0 = .ok (.iconst 0, 1) := by decide +kernel
theorem dX8_canMany_1 : decode cX8_canMany 1 = .ok (.istore_n 2, 1) := by decide +kernel
theorem dX8_canMany_2 : decode cX8_canMany 2 = .ok (.iconst 0, 1) := by decide +kernel
theorem dX8_canMany_3 : decode cX8_canMany 3 = .ok (.istore_n 3, 1) := by decide +kernel
theorem dX8_canMany_4 : decode cX8_canMany 4 = .ok (.iload_n 3, 1) := by decide +kernel
theorem dX8_canMany_5 : decode cX8_canMany 5 = .ok (.bipush 100, 2) := by decide +kernel
theorem dX8_canMany_7 : decode cX8_canMany 7 = .ok (.if_icmp .ge 39, 3) := by decide +kernel
theorem dX8_canMany_10 : decode cX8_canMany 10 = .ok (.aload_n 0, 1) := by decide +kernel
theorem dX8_canMany_11 : decode cX8_canMany 11 = .ok (.getfield 50, 3) := by decide +kernel
theorem dX8_canMany_14 : decode cX8_canMany 14 = .ok (.iload_n 3, 1) := by decide +kernel
theorem dX8_canMany_15 : decode cX8_canMany 15 = .ok (.aload_n 0, 1) := by decide +kernel
theorem dX8_canMany_16 : decode cX8_canMany 16 = .ok (.iload_n 1, 1) := by decide +kernel
theorem dX8_canMany_17 : decode cX8_canMany 17 = .ok (.iload_n 3, 1) := by decide +kernel
theorem dX8_canMany_18 : decode cX8_canMany 18 = .ok (.iconst (-1), 1) := by decide +kernel
theorem dX8_canMany_19 : decode cX8_canMany 19 = .ok (.invokevirtual 287, 3) := by decide +kernel
theorem dX8_canMany_22 : decode cX8_canMany 22 = .ok (.bastore, 1) := by decide +kernel
theorem dX8_canMany_23 : decode cX8_canMany 23 = .ok (.iload_n 2, 1) := by decide +kernel
theorem dX8_canMany_24 : decode cX8_canMany 24 = .ok (.aload_n 0, 1) := by decide +kernel
theorem dX8_canMany_25 : decode cX8_canMany 25 = .ok (.getfield 50, 3) := by decide +kernel
theorem dX8_canMany_28 : decode cX8_canMany 28 = .ok (.iload_n 3, 1) := by decide +kernel
theorem dX8_canMany_29 : decode cX8_canMany 29 = .ok (.baload, 1) := by decide +kernel
theorem dX8_canMany_30 : decode cX8_canMany 30 = .ok (.ifCond .eq 7, 3) := by decide +kernel
theorem dX8_canMany_33 : decode cX8_canMany 33 = .ok (.iconst 1, 1) := by decide +kernel
theorem dX8_canMany_34 : decode cX8_canMany 34 = .ok (.goto 4, 3) := by decide +kernel
theorem dX8_canMany_37 : decode cX8_canMany 37 = .ok (.iconst 0, 1) := by decide +kernel
theorem dX8_canMany_38 : decode cX8_canMany 38 = .ok (.iadd, 1) := by decide +kernel
theorem dX8_canMany_39 : decode cX8_canMany 39 = .ok (.istore_n 2, 1) := by decide +kernel
theorem dX8_canMany_40 : decode cX8_canMany 40 = .ok (.iinc 3 1, 3) := by decide +kernel
theorem dX8_canMany_43 : decode cX8_canMany 43 = .ok (.goto (-39), 3) := by decide +kernel
theorem dX8_canMany_46 : decode cX8_canMany 46 = .ok (.iload_n 2, 1) := by decide +kernel
theorem dX8_canMany_47 : decode cX8_canMany 47 = .ok (.ireturn, 1) := by decide +kernel
theorem dX8_canBe_0 : decode cX8_canBe 0 = .ok (.iload_n 2, 1) := by decide +kernel
theorem dX8_canBe_1 : decode cX8_canBe 1 = .ok (.i2l, 1) := by decide +kernel
theorem dX8_canBe_2 : decode cX8_canBe 2 = .ok (.lconst 0, 1) := by decide +kernel
theorem dX8_canBe_3 : decode cX8_canBe 3 = .ok (.ldc2_w 285, 3) := by decide +kernel
theorem dX8_canBe_6 : decode cX8_canBe 6 = .ok (.invokestatic 100, 3) := by decide +kernel
theorem dX8_canBe_9 : decode cX8_canBe 9 = .ok (.ifCond .ne 6, 3) := by decide +kernel
theorem dX8_canBe_12 : decode cX8_canBe 12 = .ok (.bipush (-2), 2) := by decide +kernel
theorem dX8_canBe_14 : decode cX8_canBe 14 = .ok (.ireturn, 1) := by decide +kernel
theorem dX8_canBe_15 : decode cX8_canBe 15 = .ok (.aload_n 0, 1) := by decide +kernel
theorem dX8_canBe_16 : decode cX8_canBe 16 = .ok (.iload_n 1, 1) := by decide +kernel
theorem dX8_canBe_17 : decode cX8_canBe 17 = .ok (.invokevirtual 291, 3) := by decide +kernel
theorem dX8_canBe_20 : decode cX8_canBe 20 = .ok (.istore_n 3, 1) := by decide +kernel
theorem dX8_canBe_21 : decode cX8_canBe 21 = .ok (.iload_n 3, 1) := by decide +kernel
theorem dX8_canBe_22 : decode cX8_canBe 22 = .ok (.ifCond .eq 5, 3) := by decide +kernel
theorem dX8_canBe_25 : decode cX8_canBe 25 = .ok (.iload_n 3, 1) := by decide +kernel
theorem dX8_canBe_26 : decode cX8_canBe 26 = .ok (.ireturn, 1) := by decide +kernel
theorem dX8_canBe_27 : decode cX8_canBe 27 = .ok (.aload_n 0, 1) := by decide +kernel
theorem dX8_canBe_28 : decode cX8_canBe 28 = .ok (.iload_n 1, 1) := by decide +kernel
theorem dX8_canBe_29 : decode cX8_canBe 29 = .ok (.invokevirtual 294, 3) := by decide +kernel
theorem dX8_canBe_32 : decode cX8_canBe 32 = .ok (.istore 4, 2) := by decide +kernel
theorem dX8_canBe_34 : decode cX8_canBe 34 = .ok (.iconst (-1), 1) := by decide +kernel
theorem dX8_canBe_35 : decode cX8_canBe 35 = .ok (.istore 5, 2) := by decide +kernel
theorem dX8_canBe_37 : decode cX8_canBe 37 = .ok (.iconst (-1), 1) := by decide +kernel
theorem dX8_canBe_38 : decode cX8_canBe 38 = .ok (.istore 6, 2) := by decide +kernel
theorem dX8_canBe_40 : decode cX8_canBe 40 = .ok (.iconst 0, 1) := by decide +kernel
theorem dX8_canBe_41 : decode cX8_canBe 41 = .ok (.istore 7, 2) := by decide +kernel
theorem dX8_canBe_43 : decode cX8_canBe 43 = .ok (.iload 7, 2) := by decide +kernel
theorem dX8_canBe_45 : decode cX8_canBe 45 = .ok (.bipush 100, 2) := by decide +kernel
theorem dX8_canBe_47 : decode cX8_canBe 47 = .ok (.if_icmp .ge 38, 3) := by decide +kernel
theorem dX8_canBe_50 : decode cX8_canBe 50 = .ok (.aload_n 0, 1) := by decide +kernel
theorem dX8_canBe_51 : decode cX8_canBe 51 = .ok (.getfield 50, 3) := by decide +kernel
theorem dX8_canBe_54 : decode cX8_canBe 54 = .ok (.iload 7, 2) := by decide +kernel
theorem dX8_canBe_56 : decode cX8_canBe 56 = .ok (.baload, 1) := by decide +kernel
theorem dX8_canBe_57 : decode cX8_canBe 57 = .ok (.ifCond .eq 22, 3) := by decide +kernel
theorem dX8_canBe_60 : decode cX8_canBe 60 = .ok (.iload 5, 2) := by decide +kernel
theorem dX8_canBe_62 : decode cX8_canBe 62 = .ok (.iconst (-1), 1) := by decide +kernel
theorem dX8_canBe_63 : decode cX8_canBe 63 = .ok (.if_icmp .ne 8, 3) := by decide +kernel
theorem dX8_canBe_66 : decode cX8_canBe 66 = .ok (.iload 7, 2) := by decide +kernel
theorem dX8_canBe_68 : decode cX8_canBe 68 = .ok (.goto 5, 3) := by decide +kernel
theorem dX8_canBe_71 : decode cX8_canBe 71 = .ok (.iload 5, 2) := by decide +kernel
theorem dX8_canBe_73 : decode cX8_canBe 73 = .ok (.istore 5, 2) := by decide +kernel
theorem dX8_canBe_75 : decode cX8_canBe 75 = .ok (.iload 7, 2) := by decide +kernel
theorem dX8_canBe_77 : decode cX8_canBe 77 = .ok (.istore 6, 2) := by decide +kernel
theorem dX8_canBe_79 : decode cX8_canBe 79 = .ok (.iinc 7 1, 3) := by decide +kernel
theorem dX8_canBe_82 : decode cX8_canBe 82 = .ok (.goto (-39), 3) := by decide +kernel
theorem dX8_canBe_85 : decode cX8_canBe 85 = .ok (.iload_n 2, 1) := by decide +kernel
theorem dX8_canBe_86 : decode cX8_canBe 86 = .ok (.ifCond .ne 8, 3) := by decide +kernel
theorem dX8_canBe_89 : decode cX8_canBe 89 = .ok (.iload 4, 2) := by decide +kernel
theorem dX8_canBe_91 : decode cX8_canBe 91 = .ok (.goto 15, 3) := by decide +kernel
theorem dX8_canBe_94 : decode cX8_canBe 94 = .ok (.iload_n 2, 1) := by decide +kernel
theorem dX8_canBe_95 : decode cX8_canBe 95 = .ok (.iconst 1, 1) := by decide +kernel
theorem dX8_canBe_96 : decode cX8_canBe 96 = .ok (.if_icmp .ne 8, 3) := by decide +kernel
theorem dX8_canBe_99 : decode cX8_canBe 99 = .ok (.iload 5, 2) := by decide +kernel
theorem dX8_canBe_101 : decode cX8_canBe 101 = .ok (.goto 5, 3) := by decide +kernel
theorem dX8_canBe_104 : decode cX8_canBe 104 = .ok (.iload 6, 2) := by decide +kernel
theorem dX8_canBe_106 : decode cX8_canBe 106 = .ok (.ireturn, 1) := by decide +kernel
theorem dX8_alikeOf_0 : decode cX8_alikeOf 0 = .ok (.iconst 0, 1) := by decide +kernel
theorem dX8_alikeOf_1 : decode cX8_alikeOf 1 = .ok (.istore_n 2, 1) := by decide +kernel
theorem dX8_alikeOf_2 : decode cX8_alikeOf 2 = .ok (.iload_n 2, 1) := by decide +kernel
theorem dX8_alikeOf_3 : decode cX8_alikeOf 3 = .ok (.iconst 5, 1) := by decide +kernel
theorem dX8_alikeOf_4 : decode cX8_alikeOf 4 = .ok (.if_icmp .ge 16, 3) := by decide +kernel
theorem dX8_alikeOf_7 : decode cX8_alikeOf 7 = .ok (.aload_n 0, 1) := by decide +kernel
theorem dX8_alikeOf_8 : decode cX8_alikeOf 8 = .ok (.getfield 54, 3) := by decide +kernel
theorem dX8_alikeOf_11 : decode cX8_alikeOf 11 = .ok (.iload_n 2, 1) := by decide +kernel
theorem dX8_alikeOf_12 : decode cX8_alikeOf 12 = .ok (.iconst 0, 1) := by decide +kernel
theorem dX8_alikeOf_13 : decode cX8_alikeOf 13 = .ok (.iastore, 1) := by decide +kernel
theorem dX8_alikeOf_14 : decode cX8_alikeOf 14 = .ok (.iinc 2 1, 3) := by decide +kernel
theorem dX8_alikeOf_17 : decode cX8_alikeOf 17 = .ok (.goto (-15), 3) := by decide +kernel
theorem dX8_alikeOf_20 : decode cX8_alikeOf 20 = .ok (.iconst 0, 1) := by decide +kernel
theorem dX8_alikeOf_21 : decode cX8_alikeOf 21 = .ok (.istore_n 2, 1) := by decide +kernel
theorem dX8_alikeOf_22 : decode cX8_alikeOf 22 = .ok (.iload_n 2, 1) := by decide +kernel
theorem dX8_alikeOf_23 : decode cX8_alikeOf 23 = .ok (.bipush 100, 2) := by decide +kernel
theorem dX8_alikeOf_25 : decode cX8_alikeOf 25 = .ok (.if_icmp .ge 44, 3) := by decide +kernel
theorem dX8_alikeOf_28 : decode cX8_alikeOf 28 = .ok (.aload_n 0, 1) := by decide +kernel
theorem dX8_alikeOf_29 : decode cX8_alikeOf 29 = .ok (.getfield 54, 3) := by decide +kernel
theorem dX8_alikeOf_32 : decode cX8_alikeOf 32 = .ok (.aload_n 0, 1) := by decide +kernel
theorem dX8_alikeOf_33 : decode cX8_alikeOf 33 = .ok (.getfield 47, 3) := by decide +kernel
theorem dX8_alikeOf_36 : decode cX8_alikeOf 36 = .ok (.bipush 100, 2) := by decide +kernel
theorem dX8_alikeOf_38 : decode cX8_alikeOf 38 = .ok (.iload_n 1, 1) := by decide +kernel
theorem dX8_alikeOf_39 : decode cX8_alikeOf 39 = .ok (.imul, 1) := by decide +kernel
theorem dX8_alikeOf_40 : decode cX8_alikeOf 40 = .ok (.iload_n 2, 1) := by decide +kernel
theorem dX8_alikeOf_41 : decode cX8_alikeOf 41 = .ok (.iadd, 1) := by decide +kernel
theorem dX8_alikeOf_42 : decode cX8_alikeOf 42 = .ok (.iaload, 1) := by decide +kernel
theorem dX8_alikeOf_43 : decode cX8_alikeOf 43 = .ok (.iconst 2, 1) := by decide +kernel
theorem dX8_alikeOf_44 : decode cX8_alikeOf 44 = .ok (.iadd, 1) := by decide +kernel
theorem dX8_alikeOf_45 : decode cX8_alikeOf 45 = .ok (.dup2, 1) := by decide +kernel
theorem dX8_alikeOf_46 : decode cX8_alikeOf 46 = .ok (.iaload, 1) := by decide +kernel
theorem dX8_alikeOf_47 : decode cX8_alikeOf 47 = .ok (.aload_n 0, 1) := by decide +kernel
theorem dX8_alikeOf_48 : decode cX8_alikeOf 48 = .ok (.getfield 50, 3) := by decide +kernel
theorem dX8_alikeOf_51 : decode cX8_alikeOf 51 = .ok (.iload_n 2, 1) := by decide +kernel
theorem dX8_alikeOf_52 : decode cX8_alikeOf 52 = .ok (.baload, 1) := by decide +kernel
theorem dX8_alikeOf_53 : decode cX8_alikeOf 53 = .ok (.ifCond .eq 7, 3) := by decide +kernel
theorem dX8_alikeOf_56 : decode cX8_alikeOf 56 = .ok (.iconst 1, 1) := by decide +kernel
theorem dX8_alikeOf_57 : decode cX8_alikeOf 57 = .ok (.goto 4, 3) := by decide +kernel
theorem dX8_alikeOf_60 : decode cX8_alikeOf 60 = .ok (.iconst 0, 1) := by decide +kernel
theorem dX8_alikeOf_61 : decode cX8_alikeOf 61 = .ok (.iadd, 1) := by decide +kernel
theorem dX8_alikeOf_62 : decode cX8_alikeOf 62 = .ok (.iastore, 1) := by decide +kernel
theorem dX8_alikeOf_63 : decode cX8_alikeOf 63 = .ok (.iinc 2 1, 3) := by decide +kernel
theorem dX8_alikeOf_66 : decode cX8_alikeOf 66 = .ok (.goto (-44), 3) := by decide +kernel
theorem dX8_alikeOf_69 : decode cX8_alikeOf 69 = .ok (.iconst 0, 1) := by decide +kernel
theorem dX8_alikeOf_70 : decode cX8_alikeOf 70 = .ok (.istore_n 2, 1) := by decide +kernel
theorem dX8_alikeOf_71 : decode cX8_alikeOf 71 = .ok (.iconst 0, 1) := by decide +kernel
theorem dX8_alikeOf_72 : decode cX8_alikeOf 72 = .ok (.istore_n 3, 1) := by decide +kernel
theorem dX8_alikeOf_73 : decode cX8_alikeOf 73 = .ok (.iload_n 3, 1) := by decide +kernel
theorem dX8_alikeOf_74 : decode cX8_alikeOf 74 = .ok (.iconst 5, 1) := by decide +kernel
theorem dX8_alikeOf_75 : decode cX8_alikeOf 75 = .ok (.if_icmp .ge 30, 3) := by decide +kernel
theorem dX8_alikeOf_78 : decode cX8_alikeOf 78 = .ok (.aload_n 0, 1) := by decide +kernel
theorem dX8_alikeOf_79 : decode cX8_alikeOf 79 = .ok (.getfield 54, 3) := by decide +kernel
theorem dX8_alikeOf_82 : decode cX8_alikeOf 82 = .ok (.iload_n 3, 1) := by decide +kernel
theorem dX8_alikeOf_83 : decode cX8_alikeOf 83 = .ok (.iaload, 1) := by decide +kernel
theorem dX8_alikeOf_84 : decode cX8_alikeOf 84 = .ok (.iload_n 2, 1) := by decide +kernel
theorem dX8_alikeOf_85 : decode cX8_alikeOf 85 = .ok (.if_icmp .le 12, 3) := by decide +kernel
theorem dX8_alikeOf_88 : decode cX8_alikeOf 88 = .ok (.aload_n 0, 1) := by decide +kernel
theorem dX8_alikeOf_89 : decode cX8_alikeOf 89 = .ok (.getfield 54, 3) := by decide +kernel
theorem dX8_alikeOf_92 : decode cX8_alikeOf 92 = .ok (.iload_n 3, 1) := by decide +kernel
theorem dX8_alikeOf_93 : decode cX8_alikeOf 93 = .ok (.iaload, 1) := by decide +kernel
theorem dX8_alikeOf_94 : decode cX8_alikeOf 94 = .ok (.goto 4, 3) := by decide +kernel
theorem dX8_alikeOf_97 : decode cX8_alikeOf 97 = .ok (.iload_n 2, 1) := by decide +kernel
theorem dX8_alikeOf_98 : decode cX8_alikeOf 98 = .ok (.istore_n 2, 1) := by decide +kernel
theorem dX8_alikeOf_99 : decode cX8_alikeOf 99 = .ok (.iinc 3 1, 3) := by decide +kernel
theorem dX8_alikeOf_102 : decode cX8_alikeOf 102 = .ok (.goto (-29), 3) := by decide +kernel
theorem dX8_alikeOf_105 : decode cX8_alikeOf 105 = .ok (.iload_n 2, 1) := by decide +kernel
theorem dX8_alikeOf_106 : decode cX8_alikeOf 106 = .ok (.ireturn, 1) := by decide +kernel
theorem dX8_fetches_0 : decode cX8_fetches 0 = .ok (.iconst (-1), 1) := by decide +kernel
theorem dX8_fetches_1 : decode cX8_fetches 1 = .ok (.istore_n 1, 1) := by decide +kernel
theorem dX8_fetches_2 : decode cX8_fetches 2 = .ok (.aload_n 0, 1) := by decide +kernel
theorem dX8_fetches_3 : decode cX8_fetches 3 = .ok (.iconst (-1), 1) := by decide +kernel
theorem dX8_fetches_4 : decode cX8_fetches 4 = .ok (.putfield 297, 3) := by decide +kernel
theorem dX8_fetches_7 : decode cX8_fetches 7 = .ok (.iconst 0, 1) := by decide +kernel
theorem dX8_fetches_8 : decode cX8_fetches 8 = .ok (.istore_n 2, 1) := by decide +kernel
theorem dX8_fetches_9 : decode cX8_fetches 9 = .ok (.iload_n 2, 1) := by decide +kernel
theorem dX8_fetches_10 : decode cX8_fetches 10 = .ok (.bipush 20, 2) := by decide +kernel
theorem dX8_fetches_12 : decode cX8_fetches 12 = .ok (.aload_n 0, 1) := by decide +kernel
theorem dX8_fetches_13 : decode cX8_fetches 13 = .ok (.getfield 97, 3) := by decide +kernel
theorem dX8_fetches_16 : decode cX8_fetches 16 = .ok (.imul, 1) := by decide +kernel
theorem dX8_fetches_17 : decode cX8_fetches 17 = .ok (.if_icmp .ge 47, 3) := by decide +kernel
theorem dX8_fetches_20 : decode cX8_fetches 20 = .ok (.aload_n 0, 1) := by decide +kernel
theorem dX8_fetches_21 : decode cX8_fetches 21 = .ok (.iload_n 2, 1) := by decide +kernel
theorem dX8_fetches_22 : decode cX8_fetches 22 = .ok (.invokevirtual 277, 3) := by decide +kernel
theorem dX8_fetches_25 : decode cX8_fetches 25 = .ok (.ifCond .eq 33, 3) := by decide +kernel
theorem dX8_fetches_28 : decode cX8_fetches 28 = .ok (.aload_n 0, 1) := by decide +kernel
theorem dX8_fetches_29 : decode cX8_fetches 29 = .ok (.iload_n 2, 1) := by decide +kernel
theorem dX8_fetches_30 : decode cX8_fetches 30 = .ok (.invokevirtual 300, 3) := by decide +kernel
theorem dX8_fetches_33 : decode cX8_fetches 33 = .ok (.istore_n 3, 1) := by decide +kernel
theorem dX8_fetches_34 : decode cX8_fetches 34 = .ok (.iload_n 3, 1) := by decide +kernel
theorem dX8_fetches_35 : decode cX8_fetches 35 = .ok (.ifCond .le 23, 3) := by decide +kernel
theorem dX8_fetches_38 : decode cX8_fetches 38 = .ok (.iload_n 1, 1) := by decide +kernel
theorem dX8_fetches_39 : decode cX8_fetches 39 = .ok (.iconst (-1), 1) := by decide +kernel
theorem dX8_fetches_40 : decode cX8_fetches 40 = .ok (.if_icmp .eq 11, 3) := by decide +kernel
theorem dX8_fetches_43 : decode cX8_fetches 43 = .ok (.iload_n 3, 1) := by decide +kernel
theorem dX8_fetches_44 : decode cX8_fetches 44 = .ok (.aload_n 0, 1) := by decide +kernel
theorem dX8_fetches_45 : decode cX8_fetches 45 = .ok (.getfield 297, 3) := by decide +kernel
theorem dX8_fetches_48 : decode cX8_fetches 48 = .ok (.if_icmp .ge 10, 3) := by decide +kernel
theorem dX8_fetches_51 : decode cX8_fetches 51 = .ok (.iload_n 2, 1) := by decide +kernel
theorem dX8_fetches_52 : decode cX8_fetches 52 = .ok (.istore_n 1, 1) := by decide +kernel
theorem dX8_fetches_53 : decode cX8_fetches 53 = .ok (.aload_n 0, 1) := by decide +kernel
theorem dX8_fetches_54 : decode cX8_fetches 54 = .ok (.iload_n 3, 1) := by decide +kernel
theorem dX8_fetches_55 : decode cX8_fetches 55 = .ok (.putfield 297, 3) := by decide +kernel
theorem dX8_fetches_58 : decode cX8_fetches 58 = .ok (.iinc 2 1, 3) := by decide +kernel
theorem dX8_fetches_61 : decode cX8_fetches 61 = .ok (.goto (-52), 3) := by decide +kernel
theorem dX8_fetches_64 : decode cX8_fetches 64 = .ok (.iload_n 1, 1) := by decide +kernel
theorem dX8_fetches_65 : decode cX8_fetches 65 = .ok (.ireturn, 1) := by decide +kernel
theorem dX8_fetch_0 : decode cX8_fetch 0 = .ok (.iload_n 2, 1) := by decide +kernel
theorem dX8_fetch_1 : decode cX8_fetch 1 = .ok (.i2l, 1) := by decide +kernel
theorem dX8_fetch_2 : decode cX8_fetch 2 = .ok (.lconst 0, 1) := by decide +kernel
theorem dX8_fetch_3 : decode cX8_fetch 3 = .ok (.lconst 1, 1) := by decide +kernel
theorem dX8_fetch_4 : decode cX8_fetch 4 = .ok (.invokestatic 100, 3) := by decide +kernel
theorem dX8_fetch_7 : decode cX8_fetch 7 = .ok (.ifCond .ne 6, 3) := by decide +kernel
theorem dX8_fetch_10 : decode cX8_fetch 10 = .ok (.bipush (-2), 2) := by decide +kernel
theorem dX8_fetch_12 : decode cX8_fetch 12 = .ok (.ireturn, 1) := by decide +kernel
theorem dX8_fetch_13 : decode cX8_fetch 13 = .ok (.aload_n 0, 1) := by decide +kernel
theorem dX8_fetch_14 : decode cX8_fetch 14 = .ok (.iload_n 1, 1) := by decide +kernel
theorem dX8_fetch_15 : decode cX8_fetch 15 = .ok (.invokevirtual 291, 3) := by decide +kernel
theorem dX8_fetch_18 : decode cX8_fetch 18 = .ok (.istore_n 3, 1) := by decide +kernel
theorem dX8_fetch_19 : decode cX8_fetch 19 = .ok (.iload_n 3, 1) := by decide +kernel
theorem dX8_fetch_20 : decode cX8_fetch 20 = .ok (.ifCond .eq 5, 3) := by decide +kernel
theorem dX8_fetch_23 : decode cX8_fetch 23 = .ok (.iload_n 3, 1) := by decide +kernel
theorem dX8_fetch_24 : decode cX8_fetch 24 = .ok (.ireturn, 1) := by decide +kernel
theorem dX8_fetch_25 : decode cX8_fetch 25 = .ok (.aload_n 0, 1) := by decide +kernel
theorem dX8_fetch_26 : decode cX8_fetch 26 = .ok (.invokevirtual 303, 3) := by decide +kernel
theorem dX8_fetch_29 : decode cX8_fetch 29 = .ok (.aload_n 0, 1) := by decide +kernel
theorem dX8_fetch_30 : decode cX8_fetch 30 = .ok (.iload_n 1, 1) := by decide +kernel
theorem dX8_fetch_31 : decode cX8_fetch 31 = .ok (.invokevirtual 294, 3) := by decide +kernel
theorem dX8_fetch_34 : decode cX8_fetch 34 = .ok (.pop, 1) := by decide +kernel
theorem dX8_fetch_35 : decode cX8_fetch 35 = .ok (.aload_n 0, 1) := by decide +kernel
theorem dX8_fetch_36 : decode cX8_fetch 36 = .ok (.invokevirtual 306, 3) := by decide +kernel
theorem dX8_fetch_39 : decode cX8_fetch 39 = .ok (.istore 4, 2) := by decide +kernel
theorem dX8_fetch_41 : decode cX8_fetch 41 = .ok (.iload_n 2, 1) := by decide +kernel
theorem dX8_fetch_42 : decode cX8_fetch 42 = .ok (.ifCond .ne 8, 3) := by decide +kernel
theorem dX8_fetch_45 : decode cX8_fetch 45 = .ok (.iload 4, 2) := by decide +kernel
theorem dX8_fetch_47 : decode cX8_fetch 47 = .ok (.goto 7, 3) := by decide +kernel
theorem dX8_fetch_50 : decode cX8_fetch 50 = .ok (.aload_n 0, 1) := by decide +kernel
theorem dX8_fetch_51 : decode cX8_fetch 51 = .ok (.getfield 297, 3) := by decide +kernel
theorem dX8_fetch_54 : decode cX8_fetch 54 = .ok (.ireturn, 1) := by decide +kernel
theorem dX8_isAnyFit_0 : decode cX8_isAnyFit 0 = .ok (.iconst 0, 1) := by decide +kernel
theorem dX8_isAnyFit_1 : decode cX8_isAnyFit 1 = .ok (.istore_n 1, 1) := by decide +kernel
theorem dX8_isAnyFit_2 : decode cX8_isAnyFit 2 = .ok (.iload_n 1, 1) := by decide +kernel
theorem dX8_isAnyFit_3 : decode cX8_isAnyFit 3 = .ok (.bipush 20, 2) := by decide +kernel
theorem dX8_isAnyFit_5 : decode cX8_isAnyFit 5 = .ok (.aload_n 0, 1) := by decide +kernel
theorem dX8_isAnyFit_6 : decode cX8_isAnyFit 6 = .ok (.getfield 97, 3) := by decide +kernel
theorem dX8_isAnyFit_9 : decode cX8_isAnyFit 9 = .ok (.imul, 1) := by decide +kernel
theorem dX8_isAnyFit_10 : decode cX8_isAnyFit 10 = .ok (.if_icmp .ge 56, 3) := by decide +kernel
theorem dX8_isAnyFit_13 : decode cX8_isAnyFit 13 = .ok (.iconst 0, 1) := by decide +kernel
theorem dX8_isAnyFit_14 : decode cX8_isAnyFit 14 = .ok (.istore_n 2, 1) := by decide +kernel
theorem dX8_isAnyFit_15 : decode cX8_isAnyFit 15 = .ok (.iload_n 2, 1) := by decide +kernel
theorem dX8_isAnyFit_16 : decode cX8_isAnyFit 16 = .ok (.bipush 100, 2) := by decide +kernel
theorem dX8_isAnyFit_18 : decode cX8_isAnyFit 18 = .ok (.if_icmp .ge 42, 3) := by decide +kernel
theorem dX8_isAnyFit_21 : decode cX8_isAnyFit 21 = .ok (.aload_n 0, 1) := by decide +kernel
theorem dX8_isAnyFit_22 : decode cX8_isAnyFit 22 = .ok (.iload_n 1, 1) := by decide +kernel
theorem dX8_isAnyFit_23 : decode cX8_isAnyFit 23 = .ok (.invokevirtual 277, 3) := by decide +kernel
theorem dX8_isAnyFit_26 : decode cX8_isAnyFit 26 = .ok (.ifCond .eq 34, 3) := by decide +kernel
theorem dX8_isAnyFit_29 : decode cX8_isAnyFit 29 = .ok (.aload_n 0, 1) := by decide +kernel
theorem dX8_isAnyFit_30 : decode cX8_isAnyFit 30 = .ok (.getfield 50, 3) := by decide +kernel
theorem dX8_isAnyFit_33 : decode cX8_isAnyFit 33 = .ok (.iload_n 2, 1) := by decide +kernel
theorem dX8_isAnyFit_34 : decode cX8_isAnyFit 34 = .ok (.baload, 1) := by decide +kernel
theorem dX8_isAnyFit_35 : decode cX8_isAnyFit 35 = .ok (.ifCond .eq 19, 3) := by decide +kernel
theorem dX8_isAnyFit_38 : decode cX8_isAnyFit 38 = .ok (.aload_n 0, 1) := by decide +kernel
theorem dX8_isAnyFit_39 : decode cX8_isAnyFit 39 = .ok (.getfield 47, 3) := by decide +kernel
theorem dX8_isAnyFit_42 : decode cX8_isAnyFit 42 = .ok (.bipush 100, 2) := by decide +kernel
theorem dX8_isAnyFit_44 : decode cX8_isAnyFit 44 = .ok (.iload_n 1, 1) := by decide +kernel
theorem dX8_isAnyFit_45 : decode cX8_isAnyFit 45 = .ok (.imul, 1) := by decide +kernel
theorem dX8_isAnyFit_46 : decode cX8_isAnyFit 46 = .ok (.iload_n 2, 1) := by decide +kernel
theorem dX8_isAnyFit_47 : decode cX8_isAnyFit 47 = .ok (.iadd, 1) := by decide +kernel
theorem dX8_isAnyFit_48 : decode cX8_isAnyFit 48 = .ok (.iaload, 1) := by decide +kernel
theorem dX8_isAnyFit_49 : decode cX8_isAnyFit 49 = .ok (.ifCond .ne 5, 3) := by decide +kernel
theorem dX8_isAnyFit_52 : decode cX8_isAnyFit 52 = .ok (.iconst 1, 1) := by decide +kernel
theorem dX8_isAnyFit_53 : decode cX8_isAnyFit 53 = .ok (.ireturn, 1) := by decide +kernel
theorem dX8_isAnyFit_54 : decode cX8_isAnyFit 54 = .ok (.iinc 2 1, 3) := by decide +kernel
theorem dX8_isAnyFit_57 : decode cX8_isAnyFit 57 = .ok (.goto (-42), 3) := by decide +kernel
theorem dX8_isAnyFit_60 : decode cX8_isAnyFit 60 = .ok (.iinc 1 1, 3) := by decide +kernel
theorem dX8_isAnyFit_63 : decode cX8_isAnyFit 63 = .ok (.goto (-61), 3) := by decide +kernel
theorem dX8_isAnyFit_66 : decode cX8_isAnyFit 66 = .ok (.iconst 0, 1) := by decide +kernel
theorem dX8_isAnyFit_67 : decode cX8_isAnyFit 67 = .ok (.ireturn, 1) := by decide +kernel
theorem dX8_splits_0 : decode cX8_splits 0 = .ok (.iconst 0, 1) := by decide +kernel
theorem dX8_splits_1 : decode cX8_splits 1 = .ok (.istore_n 3, 1) := by decide +kernel
theorem dX8_splits_2 : decode cX8_splits 2 = .ok (.iload_n 3, 1) := by decide +kernel
theorem dX8_splits_3 : decode cX8_splits 3 = .ok (.bipush 100, 2) := by decide +kernel
theorem dX8_splits_5 : decode cX8_splits 5 = .ok (.if_icmp .ge 30, 3) := by decide +kernel
theorem dX8_splits_8 : decode cX8_splits 8 = .ok (.aload_n 0, 1) := by decide +kernel
theorem dX8_splits_9 : decode cX8_splits 9 = .ok (.getfield 50, 3) := by decide +kernel
theorem dX8_splits_12 : decode cX8_splits 12 = .ok (.iload_n 3, 1) := by decide +kernel
theorem dX8_splits_13 : decode cX8_splits 13 = .ok (.aload_n 0, 1) := by decide +kernel
theorem dX8_splits_14 : decode cX8_splits 14 = .ok (.getfield 60, 3) := by decide +kernel
theorem dX8_splits_17 : decode cX8_splits 17 = .ok (.iload_n 3, 1) := by decide +kernel
theorem dX8_splits_18 : decode cX8_splits 18 = .ok (.iaload, 1) := by decide +kernel
theorem dX8_splits_19 : decode cX8_splits 19 = .ok (.iload_n 1, 1) := by decide +kernel
theorem dX8_splits_20 : decode cX8_splits 20 = .ok (.if_icmp .ne 7, 3) := by decide +kernel
theorem dX8_splits_23 : decode cX8_splits 23 = .ok (.iconst 1, 1) := by decide +kernel
theorem dX8_splits_24 : decode cX8_splits 24 = .ok (.goto 4, 3) := by decide +kernel
theorem dX8_splits_27 : decode cX8_splits 27 = .ok (.iconst 0, 1) := by decide +kernel
theorem dX8_splits_28 : decode cX8_splits 28 = .ok (.bastore, 1) := by decide +kernel
theorem dX8_splits_29 : decode cX8_splits 29 = .ok (.iinc 3 1, 3) := by decide +kernel
theorem dX8_splits_32 : decode cX8_splits 32 = .ok (.goto (-30), 3) := by decide +kernel
theorem dX8_splits_35 : decode cX8_splits 35 = .ok (.iload_n 2, 1) := by decide +kernel
theorem dX8_splits_36 : decode cX8_splits 36 = .ok (.bipush 20, 2) := by decide +kernel
theorem dX8_splits_38 : decode cX8_splits 38 = .ok (.if_icmp .eq 10, 3) := by decide +kernel
theorem dX8_splits_41 : decode cX8_splits 41 = .ok (.aload_n 0, 1) := by decide +kernel
theorem dX8_splits_42 : decode cX8_splits 42 = .ok (.invokevirtual 309, 3) := by decide +kernel
theorem dX8_splits_45 : decode cX8_splits 45 = .ok (.ifCond .ne 4, 3) := by decide +kernel
theorem dX8_splits_48 : decode cX8_splits 48 = .ok (.return_, 1) := by decide +kernel
theorem dX8_splits_49 : decode cX8_splits 49 = .ok (.aload_n 0, 1) := by decide +kernel
theorem dX8_splits_50 : decode cX8_splits 50 = .ok (.invokevirtual 306, 3) := by decide +kernel
theorem dX8_splits_53 : decode cX8_splits 53 = .ok (.istore_n 3, 1) := by decide +kernel
theorem dX8_splits_54 : decode cX8_splits 54 = .ok (.aload_n 0, 1) := by decide +kernel
theorem dX8_splits_55 : decode cX8_splits 55 = .ok (.getfield 312, 3) := by decide +kernel
theorem dX8_splits_58 : decode cX8_splits 58 = .ok (.istore 4, 2) := by decide +kernel
theorem dX8_splits_60 : decode cX8_splits 60 = .ok (.aload_n 0, 1) := by decide +kernel
theorem dX8_splits_61 : decode cX8_splits 61 = .ok (.dup, 1) := by decide +kernel
theorem dX8_splits_62 : decode cX8_splits 62 = .ok (.getfield 312, 3) := by decide +kernel
theorem dX8_splits_65 : decode cX8_splits 65 = .ok (.iconst 5, 1) := by decide +kernel
theorem dX8_splits_66 : decode cX8_splits 66 = .ok (.iadd, 1) := by decide +kernel
theorem dX8_splits_67 : decode cX8_splits 67 = .ok (.putfield 312, 3) := by decide +kernel
theorem dX8_splits_70 : decode cX8_splits 70 = .ok (.iconst 0, 1) := by decide +kernel
theorem dX8_splits_71 : decode cX8_splits 71 = .ok (.istore 5, 2) := by decide +kernel
theorem dX8_splits_73 : decode cX8_splits 73 = .ok (.iload 5, 2) := by decide +kernel
theorem dX8_splits_75 : decode cX8_splits 75 = .ok (.bipush 100, 2) := by decide +kernel
theorem dX8_splits_77 : decode cX8_splits 77 = .ok (.if_icmp .ge 75, 3) := by decide +kernel
theorem dX8_splits_80 : decode cX8_splits 80 = .ok (.aload_n 0, 1) := by decide +kernel
theorem dX8_splits_81 : decode cX8_splits 81 = .ok (.getfield 50, 3) := by decide +kernel
theorem dX8_splits_84 : decode cX8_splits 84 = .ok (.iload 5, 2) := by decide +kernel
theorem dX8_splits_86 : decode cX8_splits 86 = .ok (.baload, 1) := by decide +kernel
theorem dX8_splits_87 : decode cX8_splits 87 = .ok (.ifCond .eq 59, 3) := by decide +kernel
theorem dX8_splits_90 : decode cX8_splits 90 = .ok (.aload_n 0, 1) := by decide +kernel
theorem dX8_splits_91 : decode cX8_splits 91 = .ok (.getfield 47, 3) := by decide +kernel
theorem dX8_splits_94 : decode cX8_splits 94 = .ok (.bipush 100, 2) := by decide +kernel
theorem dX8_splits_96 : decode cX8_splits 96 = .ok (.iload_n 3, 1) := by decide +kernel
theorem dX8_splits_97 : decode cX8_splits 97 = .ok (.imul, 1) := by decide +kernel
theorem dX8_splits_98 : decode cX8_splits 98 = .ok (.iload 5, 2) := by decide +kernel
theorem dX8_splits_100 : decode cX8_splits 100 = .ok (.iadd, 1) := by decide +kernel
theorem dX8_splits_101 : decode cX8_splits 101 = .ok (.iaload, 1) := by decide +kernel
theorem dX8_splits_102 : decode cX8_splits 102 = .ok (.istore 6, 2) := by decide +kernel
theorem dX8_splits_104 : decode cX8_splits 104 = .ok (.aload_n 0, 1) := by decide +kernel
theorem dX8_splits_105 : decode cX8_splits 105 = .ok (.getfield 57, 3) := by decide +kernel
theorem dX8_splits_108 : decode cX8_splits 108 = .ok (.iload 5, 2) := by decide +kernel
theorem dX8_splits_110 : decode cX8_splits 110 = .ok (.iload 6, 2) := by decide +kernel
theorem dX8_splits_112 : decode cX8_splits 112 = .ok (.ifCond .ne 9, 3) := by decide +kernel
theorem dX8_splits_115 : decode cX8_splits 115 = .ok (.iload_n 2, 1) := by decide +kernel
theorem dX8_splits_116 : decode cX8_splits 116 = .ok (.iconst 1, 1) := by decide +kernel
theorem dX8_splits_117 : decode cX8_splits 117 = .ok (.iadd, 1) := by decide +kernel
theorem dX8_splits_118 : decode cX8_splits 118 = .ok (.goto 4, 3) := by decide +kernel
theorem dX8_splits_121 : decode cX8_splits 121 = .ok (.iconst (-1), 1) := by decide +kernel
theorem dX8_splits_122 : decode cX8_splits 122 = .ok (.iastore, 1) := by decide +kernel
theorem dX8_splits_123 : decode cX8_splits 123 = .ok (.aload_n 0, 1) := by decide +kernel
theorem dX8_splits_124 : decode cX8_splits 124 = .ok (.getfield 60, 3) := by decide +kernel
theorem dX8_splits_127 : decode cX8_splits 127 = .ok (.iload 5, 2) := by decide +kernel
theorem dX8_splits_129 : decode cX8_splits 129 = .ok (.iload 6, 2) := by decide +kernel
theorem dX8_splits_131 : decode cX8_splits 131 = .ok (.ifCond .ne 7, 3) := by decide +kernel
theorem dX8_splits_134 : decode cX8_splits 134 = .ok (.iconst (-1), 1) := by decide +kernel
theorem dX8_splits_135 : decode cX8_splits 135 = .ok (.goto 10, 3) := by decide +kernel
theorem dX8_splits_138 : decode cX8_splits 138 = .ok (.iload 4, 2) := by decide +kernel
theorem dX8_splits_140 : decode cX8_splits 140 = .ok (.iload 6, 2) := by decide +kernel
theorem dX8_splits_142 : decode cX8_splits 142 = .ok (.iadd, 1) := by decide +kernel
theorem dX8_splits_143 : decode cX8_splits 143 = .ok (.iconst 2, 1) := by decide +kernel
theorem dX8_splits_144 : decode cX8_splits 144 = .ok (.iadd, 1) := by decide +kernel
theorem dX8_splits_145 : decode cX8_splits 145 = .ok (.iastore, 1) := by decide +kernel
theorem dX8_splits_146 : decode cX8_splits 146 = .ok (.iinc 5 1, 3) := by decide +kernel
theorem dX8_splits_149 : decode cX8_splits 149 = .ok (.goto (-76), 3) := by decide +kernel
theorem dX8_splits_152 : decode cX8_splits 152 = .ok (.iconst 0, 1) := by decide +kernel
theorem dX8_splits_153 : decode cX8_splits 153 = .ok (.istore 5, 2) := by decide +kernel
theorem dX8_splits_155 : decode cX8_splits 155 = .ok (.iload 5, 2) := by decide +kernel
theorem dX8_splits_157 : decode cX8_splits 157 = .ok (.iconst 5, 1) := by decide +kernel
theorem dX8_splits_158 : decode cX8_splits 158 = .ok (.if_icmp .ge 39, 3) := by decide +kernel
theorem dX8_splits_161 : decode cX8_splits 161 = .ok (.iload 5, 2) := by decide +kernel
theorem dX8_splits_163 : decode cX8_splits 163 = .ok (.iconst 2, 1) := by decide +kernel
theorem dX8_splits_164 : decode cX8_splits 164 = .ok (.if_icmp .eq 27, 3) := by decide +kernel
theorem dX8_splits_167 : decode cX8_splits 167 = .ok (.aload_n 0, 1) := by decide +kernel
theorem dX8_splits_168 : decode cX8_splits 168 = .ok (.iload 4, 2) := by decide +kernel
theorem dX8_splits_170 : decode cX8_splits 170 = .ok (.iload 5, 2) := by decide +kernel
theorem dX8_splits_172 : decode cX8_splits 172 = .ok (.iadd, 1) := by decide +kernel
theorem dX8_splits_173 : decode cX8_splits 173 = .ok (.invokevirtual 315, 3) := by decide +kernel
theorem dX8_splits_176 : decode cX8_splits 176 = .ok (.ifCond .eq 15, 3) := by decide +kernel
theorem dX8_splits_179 : decode cX8_splits 179 = .ok (.aload_n 0, 1) := by decide +kernel
theorem dX8_splits_180 : decode cX8_splits 180 = .ok (.iload 4, 2) := by decide +kernel
theorem dX8_splits_182 : decode cX8_splits 182 = .ok (.iload 5, 2) := by decide +kernel
theorem dX8_splits_184 : decode cX8_splits 184 = .ok (.iadd, 1) := by decide +kernel
theorem dX8_splits_185 : decode cX8_splits 185 = .ok (.iload_n 2, 1) := by decide +kernel
theorem dX8_splits_186 : decode cX8_splits 186 = .ok (.iconst 1, 1) := by decide +kernel
theorem dX8_splits_187 : decode cX8_splits 187 = .ok (.iadd, 1) := by decide +kernel
theorem dX8_splits_188 : decode cX8_splits 188 = .ok (.invokevirtual 318, 3) := by decide +kernel
theorem dX8_splits_191 : decode cX8_splits 191 = .ok (.iinc 5 1, 3) := by decide +kernel
theorem dX8_splits_194 : decode cX8_splits 194 = .ok (.goto (-39), 3) := by decide +kernel
theorem dX8_splits_197 : decode cX8_splits 197 = .ok (.return_, 1) := by decide +kernel
theorem dX8_hasAny_0 : decode cX8_hasAny 0 = .ok (.iconst 0, 1) := by decide +kernel
theorem dX8_hasAny_1 : decode cX8_hasAny 1 = .ok (.istore_n 2, 1) := by decide +kernel
theorem dX8_hasAny_2 : decode cX8_hasAny 2 = .ok (.iload_n 2, 1) := by decide +kernel
theorem dX8_hasAny_3 : decode cX8_hasAny 3 = .ok (.bipush 100, 2) := by decide +kernel
theorem dX8_hasAny_5 : decode cX8_hasAny 5 = .ok (.if_icmp .ge 21, 3) := by decide +kernel
theorem dX8_hasAny_8 : decode cX8_hasAny 8 = .ok (.aload_n 0, 1) := by decide +kernel
theorem dX8_hasAny_9 : decode cX8_hasAny 9 = .ok (.getfield 60, 3) := by decide +kernel
theorem dX8_hasAny_12 : decode cX8_hasAny 12 = .ok (.iload_n 2, 1) := by decide +kernel
theorem dX8_hasAny_13 : decode cX8_hasAny 13 = .ok (.iaload, 1) := by decide +kernel
theorem dX8_hasAny_14 : decode cX8_hasAny 14 = .ok (.iload_n 1, 1) := by decide +kernel
theorem dX8_hasAny_15 : decode cX8_hasAny 15 = .ok (.if_icmp .ne 5, 3) := by decide +kernel
theorem dX8_hasAny_18 : decode cX8_hasAny 18 = .ok (.iconst 1, 1) := by decide +kernel
theorem dX8_hasAny_19 : decode cX8_hasAny 19 = .ok (.ireturn, 1) := by decide +kernel
theorem dX8_hasAny_20 : decode cX8_hasAny 20 = .ok (.iinc 2 1, 3) := by decide +kernel
theorem dX8_hasAny_23 : decode cX8_hasAny 23 = .ok (.goto (-21), 3) := by decide +kernel
theorem dX8_hasAny_26 : decode cX8_hasAny 26 = .ok (.iconst 0, 1) := by decide +kernel
theorem dX8_hasAny_27 : decode cX8_hasAny 27 = .ok (.ireturn, 1) := by decide +kernel
theorem dX8_findsAll_0 : decode cX8_findsAll 0 = .ok (.aload_n 0, 1) := by decide +kernel
theorem dX8_findsAll_1 : decode cX8_findsAll 1 = .ok (.invokevirtual 303, 3) := by decide +kernel
theorem dX8_findsAll_4 : decode cX8_findsAll 4 = .ok (.iconst 0, 1) := by decide +kernel
theorem dX8_findsAll_5 : decode cX8_findsAll 5 = .ok (.istore_n 1, 1) := by decide +kernel
theorem dX8_findsAll_6 : decode cX8_findsAll 6 = .ok (.iload_n 1, 1) := by decide +kernel
theorem dX8_findsAll_7 : decode cX8_findsAll 7 = .ok (.bipush 100, 2) := by decide +kernel
theorem dX8_findsAll_9 : decode cX8_findsAll 9 = .ok (.if_icmp .ge 23, 3) := by decide +kernel
theorem dX8_findsAll_12 : decode cX8_findsAll 12 = .ok (.aload_n 0, 1) := by decide +kernel
theorem dX8_findsAll_13 : decode cX8_findsAll 13 = .ok (.getfield 57, 3) := by decide +kernel
theorem dX8_findsAll_16 : decode cX8_findsAll 16 = .ok (.iload_n 1, 1) := by decide +kernel
theorem dX8_findsAll_17 : decode cX8_findsAll 17 = .ok (.iconst (-1), 1) := by decide +kernel
theorem dX8_findsAll_18 : decode cX8_findsAll 18 = .ok (.iastore, 1) := by decide +kernel
theorem dX8_findsAll_19 : decode cX8_findsAll 19 = .ok (.aload_n 0, 1) := by decide +kernel
theorem dX8_findsAll_20 : decode cX8_findsAll 20 = .ok (.getfield 60, 3) := by decide +kernel
theorem dX8_findsAll_23 : decode cX8_findsAll 23 = .ok (.iload_n 1, 1) := by decide +kernel
theorem dX8_findsAll_24 : decode cX8_findsAll 24 = .ok (.iconst 0, 1) := by decide +kernel
theorem dX8_findsAll_25 : decode cX8_findsAll 25 = .ok (.iastore, 1) := by decide +kernel
theorem dX8_findsAll_26 : decode cX8_findsAll 26 = .ok (.iinc 1 1, 3) := by decide +kernel
theorem dX8_findsAll_29 : decode cX8_findsAll 29 = .ok (.goto (-23), 3) := by decide +kernel
theorem dX8_findsAll_32 : decode cX8_findsAll 32 = .ok (.aload_n 0, 1) := by decide +kernel
theorem dX8_findsAll_33 : decode cX8_findsAll 33 = .ok (.iconst 1, 1) := by decide +kernel
theorem dX8_findsAll_34 : decode cX8_findsAll 34 = .ok (.putfield 312, 3) := by decide +kernel
theorem dX8_findsAll_37 : decode cX8_findsAll 37 = .ok (.aload_n 0, 1) := by decide +kernel
theorem dX8_findsAll_38 : decode cX8_findsAll 38 = .ok (.iconst 0, 1) := by decide +kernel
theorem dX8_findsAll_39 : decode cX8_findsAll 39 = .ok (.iconst 0, 1) := by decide +kernel
theorem dX8_findsAll_40 : decode cX8_findsAll 40 = .ok (.invokevirtual 318, 3) := by decide +kernel
theorem dX8_findsAll_43 : decode cX8_findsAll 43 = .ok (.return_, 1) := by decide +kernel
theorem dX8_goes_0 : decode cX8_goes 0 = .ok (.iload_n 1, 1) := by decide +kernel
theorem dX8_goes_1 : decode cX8_goes 1 = .ok (.invokestatic 108, 3) := by decide +kernel
theorem dX8_goes_4 : decode cX8_goes 4 = .ok (.ifCond .ne 6, 3) := by decide +kernel
theorem dX8_goes_7 : decode cX8_goes 7 = .ok (.bipush (-2), 2) := by decide +kernel
theorem dX8_goes_9 : decode cX8_goes 9 = .ok (.ireturn, 1) := by decide +kernel
theorem dX8_goes_10 : decode cX8_goes 10 = .ok (.aload_n 0, 1) := by decide +kernel
theorem dX8_goes_11 : decode cX8_goes 11 = .ok (.invokevirtual 322, 3) := by decide +kernel
theorem dX8_goes_14 : decode cX8_goes 14 = .ok (.aload_n 0, 1) := by decide +kernel
theorem dX8_goes_15 : decode cX8_goes 15 = .ok (.getfield 57, 3) := by decide +kernel
theorem dX8_goes_18 : decode cX8_goes 18 = .ok (.iload_n 1, 1) := by decide +kernel
theorem dX8_goes_19 : decode cX8_goes 19 = .ok (.iaload, 1) := by decide +kernel
theorem dX8_goes_20 : decode cX8_goes 20 = .ok (.ireturn, 1) := by decide +kernel
theorem dX8_worst_0 : decode cX8_worst 0 = .ok (.iload_n 1, 1) := by decide +kernel
theorem dX8_worst_1 : decode cX8_worst 1 = .ok (.i2l, 1) := by decide +kernel
theorem dX8_worst_2 : decode cX8_worst 2 = .ok (.lconst 0, 1) := by decide +kernel
theorem dX8_worst_3 : decode cX8_worst 3 = .ok (.lconst 1, 1) := by decide +kernel
theorem dX8_worst_4 : decode cX8_worst 4 = .ok (.invokestatic 100, 3) := by decide +kernel
theorem dX8_worst_7 : decode cX8_worst 7 = .ok (.ifCond .ne 6, 3) := by decide +kernel
theorem dX8_worst_10 : decode cX8_worst 10 = .ok (.bipush (-2), 2) := by decide +kernel
theorem dX8_worst_12 : decode cX8_worst 12 = .ok (.ireturn, 1) := by decide +kernel
theorem dX8_worst_13 : decode cX8_worst 13 = .ok (.aload_n 0, 1) := by decide +kernel
theorem dX8_worst_14 : decode cX8_worst 14 = .ok (.invokevirtual 322, 3) := by decide +kernel
theorem dX8_worst_17 : decode cX8_worst 17 = .ok (.iconst (-1), 1) := by decide +kernel
theorem dX8_worst_18 : decode cX8_worst 18 = .ok (.istore_n 2, 1) := by decide +kernel
theorem dX8_worst_19 : decode cX8_worst 19 = .ok (.iconst 0, 1) := by decide +kernel
theorem dX8_worst_20 : decode cX8_worst 20 = .ok (.istore_n 3, 1) := by decide +kernel
theorem dX8_worst_21 : decode cX8_worst 21 = .ok (.iconst 0, 1) := by decide +kernel
theorem dX8_worst_22 : decode cX8_worst 22 = .ok (.istore 4, 2) := by decide +kernel
theorem dX8_worst_24 : decode cX8_worst 24 = .ok (.iload 4, 2) := by decide +kernel
theorem dX8_worst_26 : decode cX8_worst 26 = .ok (.bipush 100, 2) := by decide +kernel
theorem dX8_worst_28 : decode cX8_worst 28 = .ok (.if_icmp .ge 51, 3) := by decide +kernel
theorem dX8_worst_31 : decode cX8_worst 31 = .ok (.aload_n 0, 1) := by decide +kernel
theorem dX8_worst_32 : decode cX8_worst 32 = .ok (.getfield 57, 3) := by decide +kernel
theorem dX8_worst_35 : decode cX8_worst 35 = .ok (.iload 4, 2) := by decide +kernel
theorem dX8_worst_37 : decode cX8_worst 37 = .ok (.iaload, 1) := by decide +kernel
theorem dX8_worst_38 : decode cX8_worst 38 = .ok (.iload_n 2, 1) := by decide +kernel
theorem dX8_worst_39 : decode cX8_worst 39 = .ok (.if_icmp .le 13, 3) := by decide +kernel
theorem dX8_worst_42 : decode cX8_worst 42 = .ok (.aload_n 0, 1) := by decide +kernel
theorem dX8_worst_43 : decode cX8_worst 43 = .ok (.getfield 57, 3) := by decide +kernel
theorem dX8_worst_46 : decode cX8_worst 46 = .ok (.iload 4, 2) := by decide +kernel
theorem dX8_worst_48 : decode cX8_worst 48 = .ok (.iaload, 1) := by decide +kernel
theorem dX8_worst_49 : decode cX8_worst 49 = .ok (.goto 4, 3) := by decide +kernel
theorem dX8_worst_52 : decode cX8_worst 52 = .ok (.iload_n 2, 1) := by decide +kernel
theorem dX8_worst_53 : decode cX8_worst 53 = .ok (.istore_n 2, 1) := by decide +kernel
theorem dX8_worst_54 : decode cX8_worst 54 = .ok (.iload_n 3, 1) := by decide +kernel
theorem dX8_worst_55 : decode cX8_worst 55 = .ok (.aload_n 0, 1) := by decide +kernel
theorem dX8_worst_56 : decode cX8_worst 56 = .ok (.getfield 57, 3) := by decide +kernel
theorem dX8_worst_59 : decode cX8_worst 59 = .ok (.iload 4, 2) := by decide +kernel
theorem dX8_worst_61 : decode cX8_worst 61 = .ok (.iaload, 1) := by decide +kernel
theorem dX8_worst_62 : decode cX8_worst 62 = .ok (.iconst (-1), 1) := by decide +kernel
theorem dX8_worst_63 : decode cX8_worst 63 = .ok (.if_icmp .ne 7, 3) := by decide +kernel
theorem dX8_worst_66 : decode cX8_worst 66 = .ok (.iconst 1, 1) := by decide +kernel
theorem dX8_worst_67 : decode cX8_worst 67 = .ok (.goto 4, 3) := by decide +kernel
theorem dX8_worst_70 : decode cX8_worst 70 = .ok (.iconst 0, 1) := by decide +kernel
theorem dX8_worst_71 : decode cX8_worst 71 = .ok (.iadd, 1) := by decide +kernel
theorem dX8_worst_72 : decode cX8_worst 72 = .ok (.istore_n 3, 1) := by decide +kernel
theorem dX8_worst_73 : decode cX8_worst 73 = .ok (.iinc 4 1, 3) := by decide +kernel
theorem dX8_worst_76 : decode cX8_worst 76 = .ok (.goto (-52), 3) := by decide +kernel
theorem dX8_worst_79 : decode cX8_worst 79 = .ok (.iload_n 1, 1) := by decide +kernel
theorem dX8_worst_80 : decode cX8_worst 80 = .ok (.ifCond .ne 7, 3) := by decide +kernel
theorem dX8_worst_83 : decode cX8_worst 83 = .ok (.iload_n 2, 1) := by decide +kernel
theorem dX8_worst_84 : decode cX8_worst 84 = .ok (.goto 4, 3) := by decide +kernel
theorem dX8_worst_87 : decode cX8_worst 87 = .ok (.iload_n 3, 1) := by decide +kernel
theorem dX8_worst_88 : decode cX8_worst 88 = .ok (.ireturn, 1) := by decide +kernel
theorem dX8_rubsOf_0 : decode cX8_rubsOf 0 = .ok (.aload_n 0, 1) := by decide +kernel
theorem dX8_rubsOf_1 : decode cX8_rubsOf 1 = .ok (.iconst 1, 1) := by decide +kernel
theorem dX8_rubsOf_2 : decode cX8_rubsOf 2 = .ok (.iload_n 1, 1) := by decide +kernel
theorem dX8_rubsOf_3 : decode cX8_rubsOf 3 = .ok (.aload_n 0, 1) := by decide +kernel
theorem dX8_rubsOf_4 : decode cX8_rubsOf 4 = .ok (.iload_n 1, 1) := by decide +kernel
theorem dX8_rubsOf_5 : decode cX8_rubsOf 5 = .ok (.invokevirtual 139, 3) := by decide +kernel
theorem dX8_rubsOf_8 : decode cX8_rubsOf 8 = .ok (.aload_n 0, 1) := by decide +kernel
theorem dX8_rubsOf_9 : decode cX8_rubsOf 9 = .ok (.iload_n 2, 1) := by decide +kernel
theorem dX8_rubsOf_10 : decode cX8_rubsOf 10 = .ok (.invokevirtual 135, 3) := by decide +kernel
theorem dX8_rubsOf_13 : decode cX8_rubsOf 13 = .ok (.isub, 1) := by decide +kernel
theorem dX8_rubsOf_14 : decode cX8_rubsOf 14 = .ok (.invokestatic 325, 3) := by decide +kernel
theorem dX8_rubsOf_17 : decode cX8_rubsOf 17 = .ok (.iload_n 2, 1) := by decide +kernel
theorem dX8_rubsOf_18 : decode cX8_rubsOf 18 = .ok (.invokevirtual 328, 3) := by decide +kernel
theorem dX8_rubsOf_21 : decode cX8_rubsOf 21 = .ok (.ireturn, 1) := by decide +kernel
theorem dX8_bestFor_0 : decode cX8_bestFor 0 = .ok (.iconst (-1), 1) := by decide +kernel
theorem dX8_bestFor_1 : decode cX8_bestFor 1 = .ok (.istore_n 2, 1) := by decide +kernel
theorem dX8_bestFor_2 : decode cX8_bestFor 2 = .ok (.aload_n 0, 1) := by decide +kernel
theorem dX8_bestFor_3 : decode cX8_bestFor 3 = .ok (.iconst (-1), 1) := by decide +kernel
theorem dX8_bestFor_4 : decode cX8_bestFor 4 = .ok (.putfield 332, 3) := by decide +kernel
theorem dX8_bestFor_7 : decode cX8_bestFor 7 = .ok (.iconst 0, 1) := by decide +kernel
theorem dX8_bestFor_8 : decode cX8_bestFor 8 = .ok (.istore_n 3, 1) := by decide +kernel
theorem dX8_bestFor_9 : decode cX8_bestFor 9 = .ok (.iload_n 3, 1) := by decide +kernel
theorem dX8_bestFor_10 : decode cX8_bestFor 10 = .ok (.bipush 20, 2) := by decide +kernel
theorem dX8_bestFor_12 : decode cX8_bestFor 12 = .ok (.aload_n 0, 1) := by decide +kernel
theorem dX8_bestFor_13 : decode cX8_bestFor 13 = .ok (.getfield 97, 3) := by decide +kernel
theorem dX8_bestFor_16 : decode cX8_bestFor 16 = .ok (.imul, 1) := by decide +kernel
theorem dX8_bestFor_17 : decode cX8_bestFor 17 = .ok (.if_icmp .ge 71, 3) := by decide +kernel
theorem dX8_bestFor_20 : decode cX8_bestFor 20 = .ok (.aload_n 0, 1) := by decide +kernel
theorem dX8_bestFor_21 : decode cX8_bestFor 21 = .ok (.iload_n 3, 1) := by decide +kernel
theorem dX8_bestFor_22 : decode cX8_bestFor 22 = .ok (.invokevirtual 277, 3) := by decide +kernel
theorem dX8_bestFor_25 : decode cX8_bestFor 25 = .ok (.ifCond .eq 57, 3) := by decide +kernel
theorem dX8_bestFor_28 : decode cX8_bestFor 28 = .ok (.iload_n 1, 1) := by decide +kernel
theorem dX8_bestFor_29 : decode cX8_bestFor 29 = .ok (.iconst 1, 1) := by decide +kernel
theorem dX8_bestFor_30 : decode cX8_bestFor 30 = .ok (.if_icmp .ne 7, 3) := by decide +kernel
theorem dX8_bestFor_33 : decode cX8_bestFor 33 = .ok (.iconst 0, 1) := by decide +kernel
theorem dX8_bestFor_34 : decode cX8_bestFor 34 = .ok (.goto 9, 3) := by decide +kernel
theorem dX8_bestFor_37 : decode cX8_bestFor 37 = .ok (.aload_n 0, 1) := by decide +kernel
theorem dX8_bestFor_38 : decode cX8_bestFor 38 = .ok (.iload_n 3, 1) := by decide +kernel
theorem dX8_bestFor_39 : decode cX8_bestFor 39 = .ok (.iconst 0, 1) := by decide +kernel
theorem dX8_bestFor_40 : decode cX8_bestFor 40 = .ok (.invokevirtual 335, 3) := by decide +kernel
theorem dX8_bestFor_43 : decode cX8_bestFor 43 = .ok (.iload_n 1, 1) := by decide +kernel
theorem dX8_bestFor_44 : decode cX8_bestFor 44 = .ok (.ifCond .ne 7, 3) := by decide +kernel
theorem dX8_bestFor_47 : decode cX8_bestFor 47 = .ok (.iconst 0, 1) := by decide +kernel
theorem dX8_bestFor_48 : decode cX8_bestFor 48 = .ok (.goto 9, 3) := by decide +kernel
theorem dX8_bestFor_51 : decode cX8_bestFor 51 = .ok (.aload_n 0, 1) := by decide +kernel
theorem dX8_bestFor_52 : decode cX8_bestFor 52 = .ok (.iload_n 3, 1) := by decide +kernel
theorem dX8_bestFor_53 : decode cX8_bestFor 53 = .ok (.iconst 1, 1) := by decide +kernel
theorem dX8_bestFor_54 : decode cX8_bestFor 54 = .ok (.invokevirtual 335, 3) := by decide +kernel
theorem dX8_bestFor_57 : decode cX8_bestFor 57 = .ok (.iadd, 1) := by decide +kernel
theorem dX8_bestFor_58 : decode cX8_bestFor 58 = .ok (.istore 4, 2) := by decide +kernel
theorem dX8_bestFor_60 : decode cX8_bestFor 60 = .ok (.iload_n 2, 1) := by decide +kernel
theorem dX8_bestFor_61 : decode cX8_bestFor 61 = .ok (.iconst (-1), 1) := by decide +kernel
theorem dX8_bestFor_62 : decode cX8_bestFor 62 = .ok (.if_icmp .eq 12, 3) := by decide +kernel
theorem dX8_bestFor_65 : decode cX8_bestFor 65 = .ok (.iload 4, 2) := by decide +kernel
theorem dX8_bestFor_67 : decode cX8_bestFor 67 = .ok (.aload_n 0, 1) := by decide +kernel
theorem dX8_bestFor_68 : decode cX8_bestFor 68 = .ok (.getfield 332, 3) := by decide +kernel
theorem dX8_bestFor_71 : decode cX8_bestFor 71 = .ok (.if_icmp .ge 11, 3) := by decide +kernel
theorem dX8_bestFor_74 : decode cX8_bestFor 74 = .ok (.iload_n 3, 1) := by decide +kernel
theorem dX8_bestFor_75 : decode cX8_bestFor 75 = .ok (.istore_n 2, 1) := by decide +kernel
theorem dX8_bestFor_76 : decode cX8_bestFor 76 = .ok (.aload_n 0, 1) := by decide +kernel
theorem dX8_bestFor_77 : decode cX8_bestFor 77 = .ok (.iload 4, 2) := by decide +kernel
theorem dX8_bestFor_79 : decode cX8_bestFor 79 = .ok (.putfield 332, 3) := by decide +kernel
theorem dX8_bestFor_82 : decode cX8_bestFor 82 = .ok (.iinc 3 1, 3) := by decide +kernel
theorem dX8_bestFor_85 : decode cX8_bestFor 85 = .ok (.goto (-76), 3) := by decide +kernel
theorem dX8_bestFor_88 : decode cX8_bestFor 88 = .ok (.iload_n 2, 1) := by decide +kernel
theorem dX8_bestFor_89 : decode cX8_bestFor 89 = .ok (.ireturn, 1) := by decide +kernel
theorem dX8_pair_0 : decode cX8_pair 0 = .ok (.iload_n 1, 1) := by decide +kernel
theorem dX8_pair_1 : decode cX8_pair 1 = .ok (.i2l, 1) := by decide +kernel
theorem dX8_pair_2 : decode cX8_pair 2 = .ok (.lconst 0, 1) := by decide +kernel
theorem dX8_pair_3 : decode cX8_pair 3 = .ok (.ldc2_w 127, 3) := by decide +kernel
theorem dX8_pair_6 : decode cX8_pair 6 = .ok (.invokestatic 100, 3) := by decide +kernel
theorem dX8_pair_9 : decode cX8_pair 9 = .ok (.ifCond .ne 7, 3) := by decide +kernel
theorem dX8_pair_12 : decode cX8_pair 12 = .ok (.ldc_w 338, 3) := by decide +kernel
theorem dX8_pair_15 : decode cX8_pair 15 = .ok (.ireturn, 1) := by decide +kernel
theorem dX8_pair_16 : decode cX8_pair 16 = .ok (.aload_n 0, 1) := by decide +kernel
theorem dX8_pair_17 : decode cX8_pair 17 = .ok (.iconst 2, 1) := by decide +kernel
theorem dX8_pair_18 : decode cX8_pair 18 = .ok (.invokevirtual 339, 3) := by decide +kernel
theorem dX8_pair_21 : decode cX8_pair 21 = .ok (.istore_n 2, 1) := by decide +kernel
theorem dX8_pair_22 : decode cX8_pair 22 = .ok (.aload_n 0, 1) := by decide +kernel
theorem dX8_pair_23 : decode cX8_pair 23 = .ok (.getfield 332, 3) := by decide +kernel
theorem dX8_pair_26 : decode cX8_pair 26 = .ok (.istore_n 3, 1) := by decide +kernel
theorem dX8_pair_27 : decode cX8_pair 27 = .ok (.iload_n 1, 1) := by decide +kernel
theorem dX8_pair_28 : decode cX8_pair 28 = .ok (.iconst 2, 1) := by decide +kernel
theorem dX8_pair_29 : decode cX8_pair 29 = .ok (.if_icmp .ge 13, 3) := by decide +kernel
theorem dX8_pair_32 : decode cX8_pair 32 = .ok (.iload_n 1, 1) := by decide +kernel
theorem dX8_pair_33 : decode cX8_pair 33 = .ok (.ifCond .ne 7, 3) := by decide +kernel
theorem dX8_pair_36 : decode cX8_pair 36 = .ok (.iload_n 2, 1) := by decide +kernel
theorem dX8_pair_37 : decode cX8_pair 37 = .ok (.goto 4, 3) := by decide +kernel
theorem dX8_pair_40 : decode cX8_pair 40 = .ok (.iload_n 3, 1) := by decide +kernel
theorem dX8_pair_41 : decode cX8_pair 41 = .ok (.ireturn, 1) := by decide +kernel
theorem dX8_pair_42 : decode cX8_pair 42 = .ok (.aload_n 0, 1) := by decide +kernel
theorem dX8_pair_43 : decode cX8_pair 43 = .ok (.iconst 0, 1) := by decide +kernel
theorem dX8_pair_44 : decode cX8_pair 44 = .ok (.invokevirtual 339, 3) := by decide +kernel
theorem dX8_pair_47 : decode cX8_pair 47 = .ok (.istore 4, 2) := by decide +kernel
theorem dX8_pair_49 : decode cX8_pair 49 = .ok (.aload_n 0, 1) := by decide +kernel
theorem dX8_pair_50 : decode cX8_pair 50 = .ok (.getfield 332, 3) := by decide +kernel
theorem dX8_pair_53 : decode cX8_pair 53 = .ok (.istore 5, 2) := by decide +kernel
theorem dX8_pair_55 : decode cX8_pair 55 = .ok (.aload_n 0, 1) := by decide +kernel
theorem dX8_pair_56 : decode cX8_pair 56 = .ok (.iconst 1, 1) := by decide +kernel
theorem dX8_pair_57 : decode cX8_pair 57 = .ok (.invokevirtual 339, 3) := by decide +kernel
theorem dX8_pair_60 : decode cX8_pair 60 = .ok (.istore 6, 2) := by decide +kernel
theorem dX8_pair_62 : decode cX8_pair 62 = .ok (.iload_n 1, 1) := by decide +kernel
theorem dX8_pair_63 : decode cX8_pair 63 = .ok (.iconst 4, 1) := by decide +kernel
theorem dX8_pair_64 : decode cX8_pair 64 = .ok (.if_icmp .ge 16, 3) := by decide +kernel
theorem dX8_pair_67 : decode cX8_pair 67 = .ok (.iload_n 1, 1) := by decide +kernel
theorem dX8_pair_68 : decode cX8_pair 68 = .ok (.iconst 2, 1) := by decide +kernel
theorem dX8_pair_69 : decode cX8_pair 69 = .ok (.if_icmp .ne 8, 3) := by decide +kernel
theorem dX8_pair_72 : decode cX8_pair 72 = .ok (.iload 4, 2) := by decide +kernel
theorem dX8_pair_74 : decode cX8_pair 74 = .ok (.goto 5, 3) := by decide +kernel
theorem dX8_pair_77 : decode cX8_pair 77 = .ok (.iload 6, 2) := by decide +kernel
theorem dX8_pair_79 : decode cX8_pair 79 = .ok (.ireturn, 1) := by decide +kernel
theorem dX8_pair_80 : decode cX8_pair 80 = .ok (.iload_n 2, 1) := by decide +kernel
theorem dX8_pair_81 : decode cX8_pair 81 = .ok (.iconst (-1), 1) := by decide +kernel
theorem dX8_pair_82 : decode cX8_pair 82 = .ok (.if_icmp .ne 14, 3) := by decide +kernel
theorem dX8_pair_85 : decode cX8_pair 85 = .ok (.iload_n 1, 1) := by decide +kernel
theorem dX8_pair_86 : decode cX8_pair 86 = .ok (.iconst 4, 1) := by decide +kernel
theorem dX8_pair_87 : decode cX8_pair 87 = .ok (.if_icmp .ne 7, 3) := by decide +kernel
theorem dX8_pair_90 : decode cX8_pair 90 = .ok (.iconst (-1), 1) := by decide +kernel
theorem dX8_pair_91 : decode cX8_pair 91 = .ok (.goto 4, 3) := by decide +kernel
theorem dX8_pair_94 : decode cX8_pair 94 = .ok (.iconst 0, 1) := by decide +kernel
theorem dX8_pair_95 : decode cX8_pair 95 = .ok (.ireturn, 1) := by decide +kernel
theorem dX8_pair_96 : decode cX8_pair 96 = .ok (.iload 5, 2) := by decide +kernel
theorem dX8_pair_98 : decode cX8_pair 98 = .ok (.aload_n 0, 1) := by decide +kernel
theorem dX8_pair_99 : decode cX8_pair 99 = .ok (.getfield 332, 3) := by decide +kernel
theorem dX8_pair_102 : decode cX8_pair 102 = .ok (.iadd, 1) := by decide +kernel
theorem dX8_pair_103 : decode cX8_pair 103 = .ok (.istore 5, 2) := by decide +kernel
theorem dX8_pair_105 : decode cX8_pair 105 = .ok (.iload_n 1, 1) := by decide +kernel
theorem dX8_pair_106 : decode cX8_pair 106 = .ok (.iconst 4, 1) := by decide +kernel
theorem dX8_pair_107 : decode cX8_pair 107 = .ok (.if_icmp .ne 8, 3) := by decide +kernel
theorem dX8_pair_110 : decode cX8_pair 110 = .ok (.iload 5, 2) := by decide +kernel
theorem dX8_pair_112 : decode cX8_pair 112 = .ok (.goto 38, 3) := by decide +kernel
theorem dX8_pair_115 : decode cX8_pair 115 = .ok (.iload_n 3, 1) := by decide +kernel
theorem dX8_pair_116 : decode cX8_pair 116 = .ok (.iload 5, 2) := by decide +kernel
theorem dX8_pair_118 : decode cX8_pair 118 = .ok (.isub, 1) := by decide +kernel
theorem dX8_pair_119 : decode cX8_pair 119 = .ok (.aload_n 0, 1) := by decide +kernel
theorem dX8_pair_120 : decode cX8_pair 120 = .ok (.iconst 2, 1) := by decide +kernel
theorem dX8_pair_121 : decode cX8_pair 121 = .ok (.iload_n 2, 1) := by decide +kernel
theorem dX8_pair_122 : decode cX8_pair 122 = .ok (.iconst 0, 1) := by decide +kernel
theorem dX8_pair_123 : decode cX8_pair 123 = .ok (.iconst 0, 1) := by decide +kernel
theorem dX8_pair_124 : decode cX8_pair 124 = .ok (.invokevirtual 328, 3) := by decide +kernel
theorem dX8_pair_127 : decode cX8_pair 127 = .ok (.iadd, 1) := by decide +kernel
theorem dX8_pair_128 : decode cX8_pair 128 = .ok (.aload_n 0, 1) := by decide +kernel
theorem dX8_pair_129 : decode cX8_pair 129 = .ok (.iconst 2, 1) := by decide +kernel
theorem dX8_pair_130 : decode cX8_pair 130 = .ok (.iload 4, 2) := by decide +kernel
theorem dX8_pair_132 : decode cX8_pair 132 = .ok (.iconst 0, 1) := by decide +kernel
theorem dX8_pair_133 : decode cX8_pair 133 = .ok (.iconst 0, 1) := by decide +kernel
theorem dX8_pair_134 : decode cX8_pair 134 = .ok (.invokevirtual 328, 3) := by decide +kernel
theorem dX8_pair_137 : decode cX8_pair 137 = .ok (.aload_n 0, 1) := by decide +kernel
theorem dX8_pair_138 : decode cX8_pair 138 = .ok (.iconst 2, 1) := by decide +kernel
theorem dX8_pair_139 : decode cX8_pair 139 = .ok (.iload 6, 2) := by decide +kernel
theorem dX8_pair_141 : decode cX8_pair 141 = .ok (.iconst 0, 1) := by decide +kernel
theorem dX8_pair_142 : decode cX8_pair 142 = .ok (.iconst 0, 1) := by decide +kernel
theorem dX8_pair_143 : decode cX8_pair 143 = .ok (.invokevirtual 328, 3) := by decide +kernel
theorem dX8_pair_146 : decode cX8_pair 146 = .ok (.iadd, 1) := by decide +kernel
theorem dX8_pair_147 : decode cX8_pair 147 = .ok (.iconst 2, 1) := by decide +kernel
theorem dX8_pair_148 : decode cX8_pair 148 = .ok (.idiv, 1) := by decide +kernel
theorem dX8_pair_149 : decode cX8_pair 149 = .ok (.isub, 1) := by decide +kernel
theorem dX8_pair_150 : decode cX8_pair 150 = .ok (.ireturn, 1) := by decide +kernel
theorem dX8_doesFit_0 : decode cX8_doesFit 0 = .ok (.iconst 0, 1) := by decide +kernel
theorem dX8_doesFit_1 : decode cX8_doesFit 1 = .ok (.istore 4, 2) := by decide +kernel
theorem dX8_doesFit_3 : decode cX8_doesFit 3 = .ok (.iload 4, 2) := by decide +kernel
theorem dX8_doesFit_5 : decode cX8_doesFit 5 = .ok (.bipush 20, 2) := by decide +kernel
theorem dX8_doesFit_7 : decode cX8_doesFit 7 = .ok (.if_icmp .ge 36, 3) := by decide +kernel
theorem dX8_doesFit_10 : decode cX8_doesFit 10 = .ok (.iload_n 2, 1) := by decide +kernel
theorem dX8_doesFit_11 : decode cX8_doesFit 11 = .ok (.iload 4, 2) := by decide +kernel
