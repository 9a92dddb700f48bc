theorem dX6_thrown_0 : decode cX6_thrown 0 = .ok (.aload_n 0, 1) := by decide +kernel
theorem dX6_thrown_1 : decode cX6_thrown 1 = .ok (.getfield 1, 3) := by decide +kernel
theorem dX6_thrown_4 : decode cX6_thrown 4 = .ok (.ireturn, 1) := by decide +kernel
theorem dX6_refuse_0 : decode cX6_refuse 0 = .ok (.aload_n 0, 1) := by decide +kernel
theorem dX6_refuse_1 : decode cX6_refuse 1 = .ok (.iconst 1, 1) := by decide +kernel
theorem dX6_refuse_2 : decode cX6_refuse 2 = .ok (.putfield 1, 3) := by decide +kernel
theorem dX6_refuse_5 : decode cX6_refuse 5 = .ok (.iconst 0, 1) := by decide +kernel
theorem dX6_refuse_6 : decode cX6_refuse 6 = .ok (.ireturn, 1) := by decide +kernel
theorem dX6_isIn_0 : decode cX6_isIn 0 = .ok (.iload_n 0, 1) := by decide +kernel
theorem dX6_isIn_1 : decode cX6_isIn 1 = .ok (.iload_n 1, 1) := by decide +kernel
theorem dX6_isIn_2 : decode cX6_isIn 2 = .ok (.if_icmp .lt 12, 3) := by decide +kernel
theorem dX6_isIn_5 : decode cX6_isIn 5 = .ok (.iload_n 0, 1) := by decide +kernel
theorem dX6_isIn_6 : decode cX6_isIn 6 = .ok (.iload_n 2, 1) := by decide +kernel
theorem dX6_isIn_7 : decode cX6_isIn 7 = .ok (.if_icmp .gt 7, 3) := by decide +kernel
theorem dX6_isIn_10 : decode cX6_isIn 10 = .ok (.iconst 1, 1) := by decide +kernel
theorem dX6_isIn_11 : decode cX6_isIn 11 = .ok (.goto 4, 3) := by decide +kernel
theorem dX6_isIn_14 : decode cX6_isIn 14 = .ok (.iconst 0, 1) := by decide +kernel
theorem dX6_isIn_15 : decode cX6_isIn 15 = .ok (.ireturn, 1) := by decide +kernel
theorem dX6_divisor_0 : decode cX6_divisor 0 = .ok (.iload_n 1, 1) := by decide +kernel
theorem dX6_divisor_1 : decode cX6_divisor 1 = .ok (.ifCond .ne 7, 3) := by decide +kernel
theorem dX6_divisor_4 : decode cX6_divisor 4 = .ok (.iload_n 0, 1) := by decide +kernel
theorem dX6_divisor_5 : decode cX6_divisor 5 = .ok (.goto 10, 3) := by decide +kernel
theorem dX6_divisor_8 : decode cX6_divisor 8 = .ok (.iload_n 1, 1) := by decide +kernel
theorem dX6_divisor_9 : decode cX6_divisor 9 = .ok (.iload_n 0, 1) := by decide +kernel
theorem dX6_divisor_10 : decode cX6_divisor 10 = .ok (.iload_n 1, 1) := by decide +kernel
theorem dX6_divisor_11 : decode cX6_divisor 11 = .ok (.irem, 1) := by decide +kernel
theorem dX6_divisor_12 : decode cX6_divisor 12 = .ok (.invokestatic 7, 3) := by decide +kernel
theorem dX6_divisor_15 : decode cX6_divisor 15 = .ok (.ireturn, 1) := by decide +kernel
theorem dX6_lays_0 : decode cX6_lays 0 = .ok (.bipush 24, 2) := by decide +kernel
theorem dX6_lays_2 : decode cX6_lays 2 = .ok (.istore_n 2, 1) := by decide +kernel
theorem dX6_lays_3 : decode cX6_lays 3 = .ok (.iload_n 2, 1) := by decide +kernel
theorem dX6_lays_4 : decode cX6_lays 4 = .ok (.ifCond .lt 35, 3) := by decide +kernel
theorem dX6_lays_7 : decode cX6_lays 7 = .ok (.aload_n 0, 1) := by decide +kernel
theorem dX6_lays_8 : decode cX6_lays 8 = .ok (.getfield 11, 3) := by decide +kernel
theorem dX6_lays_11 : decode cX6_lays 11 = .ok (.aload_n 0, 1) := by decide +kernel
theorem dX6_lays_12 : decode cX6_lays 12 = .ok (.getfield 15, 3) := by decide +kernel
theorem dX6_lays_15 : decode cX6_lays 15 = .ok (.iload_n 1, 1) := by decide +kernel
theorem dX6_lays_16 : decode cX6_lays 16 = .ok (.iload_n 2, 1) := by decide +kernel
theorem dX6_lays_17 : decode cX6_lays 17 = .ok (.iushr, 1) := by decide +kernel
theorem dX6_lays_18 : decode cX6_lays 18 = .ok (.sipush 255, 3) := by decide +kernel
theorem dX6_lays_21 : decode cX6_lays 21 = .ok (.iand, 1) := by decide +kernel
theorem dX6_lays_22 : decode cX6_lays 22 = .ok (.iastore, 1) := by decide +kernel
theorem dX6_lays_23 : decode cX6_lays 23 = .ok (.aload_n 0, 1) := by decide +kernel
theorem dX6_lays_24 : decode cX6_lays 24 = .ok (.dup, 1) := by decide +kernel
theorem dX6_lays_25 : decode cX6_lays 25 = .ok (.getfield 15, 3) := by decide +kernel
theorem dX6_lays_28 : decode cX6_lays 28 = .ok (.iconst 1, 1) := by decide +kernel
theorem dX6_lays_29 : decode cX6_lays 29 = .ok (.iadd, 1) := by decide +kernel
theorem dX6_lays_30 : decode cX6_lays 30 = .ok (.putfield 15, 3) := by decide +kernel
theorem dX6_lays_33 : decode cX6_lays 33 = .ok (.iinc 2 (-8), 3) := by decide +kernel
theorem dX6_lays_36 : decode cX6_lays 36 = .ok (.goto (-33), 3) := by decide +kernel
theorem dX6_lays_39 : decode cX6_lays 39 = .ok (.return_, 1) := by decide +kernel
theorem dX6_feed_0 : decode cX6_feed 0 = .ok (.aload_n 0, 1) := by decide +kernel
theorem dX6_feed_1 : decode cX6_feed 1 = .ok (.iconst 0, 1) := by decide +kernel
theorem dX6_feed_2 : decode cX6_feed 2 = .ok (.putfield 1, 3) := by decide +kernel
theorem dX6_feed_5 : decode cX6_feed 5 = .ok (.aload_n 0, 1) := by decide +kernel
theorem dX6_feed_6 : decode cX6_feed 6 = .ok (.getfield 15, 3) := by decide +kernel
theorem dX6_feed_9 : decode cX6_feed 9 = .ok (.bipush 20, 2) := by decide +kernel
theorem dX6_feed_11 : decode cX6_feed 11 = .ok (.iadd, 1) := by decide +kernel
theorem dX6_feed_12 : decode cX6_feed 12 = .ok (.sipush 440, 3) := by decide +kernel
theorem dX6_feed_15 : decode cX6_feed 15 = .ok (.if_icmp .le 5, 3) := by decide +kernel
theorem dX6_feed_18 : decode cX6_feed 18 = .ok (.iconst (-1), 1) := by decide +kernel
theorem dX6_feed_19 : decode cX6_feed 19 = .ok (.ireturn, 1) := by decide +kernel
theorem dX6_feed_20 : decode cX6_feed 20 = .ok (.aload_n 0, 1) := by decide +kernel
theorem dX6_feed_21 : decode cX6_feed 21 = .ok (.iload_n 1, 1) := by decide +kernel
theorem dX6_feed_22 : decode cX6_feed 22 = .ok (.invokevirtual 18, 3) := by decide +kernel
theorem dX6_feed_25 : decode cX6_feed 25 = .ok (.aload_n 0, 1) := by decide +kernel
theorem dX6_feed_26 : decode cX6_feed 26 = .ok (.iload_n 2, 1) := by decide +kernel
theorem dX6_feed_27 : decode cX6_feed 27 = .ok (.invokevirtual 18, 3) := by decide +kernel
theorem dX6_feed_30 : decode cX6_feed 30 = .ok (.aload_n 0, 1) := by decide +kernel
theorem dX6_feed_31 : decode cX6_feed 31 = .ok (.iload_n 3, 1) := by decide +kernel
theorem dX6_feed_32 : decode cX6_feed 32 = .ok (.invokevirtual 18, 3) := by decide +kernel
theorem dX6_feed_35 : decode cX6_feed 35 = .ok (.aload_n 0, 1) := by decide +kernel
theorem dX6_feed_36 : decode cX6_feed 36 = .ok (.iload 4, 2) := by decide +kernel
theorem dX6_feed_38 : decode cX6_feed 38 = .ok (.invokevirtual 18, 3) := by decide +kernel
theorem dX6_feed_41 : decode cX6_feed 41 = .ok (.aload_n 0, 1) := by decide +kernel
theorem dX6_feed_42 : decode cX6_feed 42 = .ok (.iload 5, 2) := by decide +kernel
theorem dX6_feed_44 : decode cX6_feed 44 = .ok (.invokevirtual 18, 3) := by decide +kernel
theorem dX6_feed_47 : decode cX6_feed 47 = .ok (.aload_n 0, 1) := by decide +kernel
theorem dX6_feed_48 : decode cX6_feed 48 = .ok (.getfield 15, 3) := by decide +kernel
theorem dX6_feed_51 : decode cX6_feed 51 = .ok (.ireturn, 1) := by decide +kernel
theorem dX6_end_0 : decode cX6_end 0 = .ok (.aload_n 0, 1) := by decide +kernel
theorem dX6_end_1 : decode cX6_end 1 = .ok (.iconst 0, 1) := by decide +kernel
theorem dX6_end_2 : decode cX6_end 2 = .ok (.putfield 1, 3) := by decide +kernel
theorem dX6_end_5 : decode cX6_end 5 = .ok (.iload_n 1, 1) := by decide +kernel
theorem dX6_end_6 : decode cX6_end 6 = .ok (.ifCond .lt 11, 3) := by decide +kernel
theorem dX6_end_9 : decode cX6_end 9 = .ok (.iload_n 1, 1) := by decide +kernel
theorem dX6_end_10 : decode cX6_end 10 = .ok (.aload_n 0, 1) := by decide +kernel
theorem dX6_end_11 : decode cX6_end 11 = .ok (.getfield 15, 3) := by decide +kernel
theorem dX6_end_14 : decode cX6_end 14 = .ok (.if_icmp .le 5, 3) := by decide +kernel
theorem dX6_end_17 : decode cX6_end 17 = .ok (.iconst 0, 1) := by decide +kernel
theorem dX6_end_18 : decode cX6_end 18 = .ok (.ireturn, 1) := by decide +kernel
theorem dX6_end_19 : decode cX6_end 19 = .ok (.aload_n 0, 1) := by decide +kernel
theorem dX6_end_20 : decode cX6_end 20 = .ok (.iload_n 1, 1) := by decide +kernel
theorem dX6_end_21 : decode cX6_end 21 = .ok (.putfield 15, 3) := by decide +kernel
theorem dX6_end_24 : decode cX6_end 24 = .ok (.iconst 1, 1) := by decide +kernel
theorem dX6_end_25 : decode cX6_end 25 = .ok (.ireturn, 1) := by decide +kernel
theorem dX6_tapeAt_0 : decode cX6_tapeAt 0 = .ok (.iload_n 1, 1) := by decide +kernel
theorem dX6_tapeAt_1 : decode cX6_tapeAt 1 = .ok (.aload_n 0, 1) := by decide +kernel
theorem dX6_tapeAt_2 : decode cX6_tapeAt 2 = .ok (.getfield 22, 3) := by decide +kernel
theorem dX6_tapeAt_5 : decode cX6_tapeAt 5 = .ok (.if_icmp .ge 12, 3) := by decide +kernel
theorem dX6_tapeAt_8 : decode cX6_tapeAt 8 = .ok (.aload_n 0, 1) := by decide +kernel
theorem dX6_tapeAt_9 : decode cX6_tapeAt 9 = .ok (.getfield 11, 3) := by decide +kernel
theorem dX6_tapeAt_12 : decode cX6_tapeAt 12 = .ok (.iload_n 1, 1) := by decide +kernel
theorem dX6_tapeAt_13 : decode cX6_tapeAt 13 = .ok (.iaload, 1) := by decide +kernel
theorem dX6_tapeAt_14 : decode cX6_tapeAt 14 = .ok (.goto 4, 3) := by decide +kernel
theorem dX6_tapeAt_17 : decode cX6_tapeAt 17 = .ok (.iconst 0, 1) := by decide +kernel
theorem dX6_tapeAt_18 : decode cX6_tapeAt 18 = .ok (.ireturn, 1) := by decide +kernel
theorem dX6_isDigit_0 : decode cX6_isDigit 0 = .ok (.iload_n 0, 1) := by decide +kernel
theorem dX6_isDigit_1 : decode cX6_isDigit 1 = .ok (.bipush 48, 2) := by decide +kernel
theorem dX6_isDigit_3 : decode cX6_isDigit 3 = .ok (.if_icmp .lt 13, 3) := by decide +kernel
theorem dX6_isDigit_6 : decode cX6_isDigit 6 = .ok (.iload_n 0, 1) := by decide +kernel
theorem dX6_isDigit_7 : decode cX6_isDigit 7 = .ok (.bipush 57, 2) := by decide +kernel
theorem dX6_isDigit_9 : decode cX6_isDigit 9 = .ok (.if_icmp .gt 7, 3) := by decide +kernel
theorem dX6_isDigit_12 : decode cX6_isDigit 12 = .ok (.iconst 1, 1) := by decide +kernel
theorem dX6_isDigit_13 : decode cX6_isDigit 13 = .ok (.goto 4, 3) := by decide +kernel
theorem dX6_isDigit_16 : decode cX6_isDigit 16 = .ok (.iconst 0, 1) := by decide +kernel
theorem dX6_isDigit_17 : decode cX6_isDigit 17 = .ok (.ireturn, 1) := by decide +kernel
theorem dX6_isLetter_0 : decode cX6_isLetter 0 = .ok (.iload_n 0, 1) := by decide +kernel
theorem dX6_isLetter_1 : decode cX6_isLetter 1 = .ok (.bipush 97, 2) := by decide +kernel
theorem dX6_isLetter_3 : decode cX6_isLetter 3 = .ok (.if_icmp .lt 13, 3) := by decide +kernel
theorem dX6_isLetter_6 : decode cX6_isLetter 6 = .ok (.iload_n 0, 1) := by decide +kernel
theorem dX6_isLetter_7 : decode cX6_isLetter 7 = .ok (.bipush 122, 2) := by decide +kernel
theorem dX6_isLetter_9 : decode cX6_isLetter 9 = .ok (.if_icmp .gt 7, 3) := by decide +kernel
theorem dX6_isLetter_12 : decode cX6_isLetter 12 = .ok (.iconst 1, 1) := by decide +kernel
theorem dX6_isLetter_13 : decode cX6_isLetter 13 = .ok (.goto 4, 3) := by decide +kernel
theorem dX6_isLetter_16 : decode cX6_isLetter 16 = .ok (.iconst 0, 1) := by decide +kernel
theorem dX6_isLetter_17 : decode cX6_isLetter 17 = .ok (.ireturn, 1) := by decide +kernel
theorem dX6_go_0 : decode cX6_go 0 = .ok (.aload_n 0, 1) := by decide +kernel
theorem dX6_go_1 : decode cX6_go 1 = .ok (.getfield 25, 3) := by decide +kernel
theorem dX6_go_4 : decode cX6_go 4 = .ok (.aload_n 0, 1) := by decide +kernel
theorem dX6_go_5 : decode cX6_go 5 = .ok (.getfield 22, 3) := by decide +kernel
theorem dX6_go_8 : decode cX6_go 8 = .ok (.if_icmp .ge 44, 3) := by decide +kernel
theorem dX6_go_11 : decode cX6_go 11 = .ok (.aload_n 0, 1) := by decide +kernel
theorem dX6_go_12 : decode cX6_go 12 = .ok (.getfield 11, 3) := by decide +kernel
theorem dX6_go_15 : decode cX6_go 15 = .ok (.aload_n 0, 1) := by decide +kernel
theorem dX6_go_16 : decode cX6_go 16 = .ok (.getfield 25, 3) := by decide +kernel
theorem dX6_go_19 : decode cX6_go 19 = .ok (.iaload, 1) := by decide +kernel
theorem dX6_go_20 : decode cX6_go 20 = .ok (.bipush 32, 2) := by decide +kernel
theorem dX6_go_22 : decode cX6_go 22 = .ok (.if_icmp .eq 17, 3) := by decide +kernel
theorem dX6_go_25 : decode cX6_go 25 = .ok (.aload_n 0, 1) := by decide +kernel
theorem dX6_go_26 : decode cX6_go 26 = .ok (.getfield 11, 3) := by decide +kernel
theorem dX6_go_29 : decode cX6_go 29 = .ok (.aload_n 0, 1) := by decide +kernel
theorem dX6_go_30 : decode cX6_go 30 = .ok (.getfield 25, 3) := by decide +kernel
theorem dX6_go_33 : decode cX6_go 33 = .ok (.iaload, 1) := by decide +kernel
theorem dX6_go_34 : decode cX6_go 34 = .ok (.bipush 10, 2) := by decide +kernel
theorem dX6_go_36 : decode cX6_go 36 = .ok (.if_icmp .ne 16, 3) := by decide +kernel
theorem dX6_go_39 : decode cX6_go 39 = .ok (.aload_n 0, 1) := by decide +kernel
theorem dX6_go_40 : decode cX6_go 40 = .ok (.dup, 1) := by decide +kernel
theorem dX6_go_41 : decode cX6_go 41 = .ok (.getfield 25, 3) := by decide +kernel
theorem dX6_go_44 : decode cX6_go 44 = .ok (.iconst 1, 1) := by decide +kernel
theorem dX6_go_45 : decode cX6_go 45 = .ok (.iadd, 1) := by decide +kernel
theorem dX6_go_46 : decode cX6_go 46 = .ok (.putfield 25, 3) := by decide +kernel
theorem dX6_go_49 : decode cX6_go 49 = .ok (.goto (-49), 3) := by decide +kernel
theorem dX6_go_52 : decode cX6_go 52 = .ok (.aload_n 0, 1) := by decide +kernel
theorem dX6_go_53 : decode cX6_go 53 = .ok (.aload_n 0, 1) := by decide +kernel
theorem dX6_go_54 : decode cX6_go 54 = .ok (.getfield 25, 3) := by decide +kernel
theorem dX6_go_57 : decode cX6_go 57 = .ok (.putfield 28, 3) := by decide +kernel
theorem dX6_go_60 : decode cX6_go 60 = .ok (.aload_n 0, 1) := by decide +kernel
theorem dX6_go_61 : decode cX6_go 61 = .ok (.getfield 22, 3) := by decide +kernel
theorem dX6_go_64 : decode cX6_go 64 = .ok (.sipush 400, 3) := by decide +kernel
theorem dX6_go_67 : decode cX6_go 67 = .ok (.if_icmp .le 26, 3) := by decide +kernel
theorem dX6_go_70 : decode cX6_go 70 = .ok (.aload_n 0, 1) := by decide +kernel
theorem dX6_go_71 : decode cX6_go 71 = .ok (.getfield 28, 3) := by decide +kernel
theorem dX6_go_74 : decode cX6_go 74 = .ok (.sipush 400, 3) := by decide +kernel
theorem dX6_go_77 : decode cX6_go 77 = .ok (.if_icmp .lt 16, 3) := by decide +kernel
theorem dX6_go_80 : decode cX6_go 80 = .ok (.aload_n 0, 1) := by decide +kernel
theorem dX6_go_81 : decode cX6_go 81 = .ok (.sipush 400, 3) := by decide +kernel
theorem dX6_go_84 : decode cX6_go 84 = .ok (.putfield 28, 3) := by decide +kernel
theorem dX6_go_87 : decode cX6_go 87 = .ok (.aload_n 0, 1) := by decide +kernel
theorem dX6_go_88 : decode cX6_go 88 = .ok (.iconst 1, 1) := by decide +kernel
theorem dX6_go_89 : decode cX6_go 89 = .ok (.putfield 31, 3) := by decide +kernel
theorem dX6_go_92 : decode cX6_go 92 = .ok (.return_, 1) := by decide +kernel
theorem dX6_go_93 : decode cX6_go 93 = .ok (.aload_n 0, 1) := by decide +kernel
theorem dX6_go_94 : decode cX6_go 94 = .ok (.getfield 25, 3) := by decide +kernel
theorem dX6_go_97 : decode cX6_go 97 = .ok (.aload_n 0, 1) := by decide +kernel
theorem dX6_go_98 : decode cX6_go 98 = .ok (.getfield 22, 3) := by decide +kernel
theorem dX6_go_101 : decode cX6_go 101 = .ok (.if_icmp .lt 9, 3) := by decide +kernel
theorem dX6_go_104 : decode cX6_go 104 = .ok (.aload_n 0, 1) := by decide +kernel
theorem dX6_go_105 : decode cX6_go 105 = .ok (.iconst 0, 1) := by decide +kernel
theorem dX6_go_106 : decode cX6_go 106 = .ok (.putfield 31, 3) := by decide +kernel
theorem dX6_go_109 : decode cX6_go 109 = .ok (.return_, 1) := by decide +kernel
theorem dX6_go_110 : decode cX6_go 110 = .ok (.aload_n 0, 1) := by decide +kernel
theorem dX6_go_111 : decode cX6_go 111 = .ok (.getfield 11, 3) := by decide +kernel
theorem dX6_go_114 : decode cX6_go 114 = .ok (.aload_n 0, 1) := by decide +kernel
theorem dX6_go_115 : decode cX6_go 115 = .ok (.getfield 25, 3) := by decide +kernel
theorem dX6_go_118 : decode cX6_go 118 = .ok (.iaload, 1) := by decide +kernel
theorem dX6_go_119 : decode cX6_go 119 = .ok (.istore_n 1, 1) := by decide +kernel
theorem dX6_go_120 : decode cX6_go 120 = .ok (.iload_n 1, 1) := by decide +kernel
theorem dX6_go_121 : decode cX6_go 121 = .ok (.invokestatic 34, 3) := by decide +kernel
theorem dX6_go_124 : decode cX6_go 124 = .ok (.ifCond .ne 36, 3) := by decide +kernel
theorem dX6_go_127 : decode cX6_go 127 = .ok (.iload_n 1, 1) := by decide +kernel
theorem dX6_go_128 : decode cX6_go 128 = .ok (.invokestatic 38, 3) := by decide +kernel
theorem dX6_go_131 : decode cX6_go 131 = .ok (.ifCond .ne 29, 3) := by decide +kernel
theorem dX6_go_134 : decode cX6_go 134 = .ok (.aload_n 0, 1) := by decide +kernel
theorem dX6_go_135 : decode cX6_go 135 = .ok (.iload_n 1, 1) := by decide +kernel
theorem dX6_go_136 : decode cX6_go 136 = .ok (.bipush 59, 2) := by decide +kernel
theorem dX6_go_138 : decode cX6_go 138 = .ok (.if_icmp .ne 7, 3) := by decide +kernel
theorem dX6_go_141 : decode cX6_go 141 = .ok (.iconst 4, 1) := by decide +kernel
theorem dX6_go_142 : decode cX6_go 142 = .ok (.goto 4, 3) := by decide +kernel
theorem dX6_go_145 : decode cX6_go 145 = .ok (.iconst 1, 1) := by decide +kernel
theorem dX6_go_146 : decode cX6_go 146 = .ok (.putfield 31, 3) := by decide +kernel
theorem dX6_go_149 : decode cX6_go 149 = .ok (.aload_n 0, 1) := by decide +kernel
theorem dX6_go_150 : decode cX6_go 150 = .ok (.dup, 1) := by decide +kernel
theorem dX6_go_151 : decode cX6_go 151 = .ok (.getfield 25, 3) := by decide +kernel
theorem dX6_go_154 : decode cX6_go 154 = .ok (.iconst 1, 1) := by decide +kernel
theorem dX6_go_155 : decode cX6_go 155 = .ok (.iadd, 1) := by decide +kernel
theorem dX6_go_156 : decode cX6_go 156 = .ok (.putfield 25, 3) := by decide +kernel
theorem dX6_go_159 : decode cX6_go 159 = .ok (.return_, 1) := by decide +kernel
theorem dX6_go_160 : decode cX6_go 160 = .ok (.iload_n 1, 1) := by decide +kernel
theorem dX6_go_161 : decode cX6_go 161 = .ok (.invokestatic 34, 3) := by decide +kernel
theorem dX6_go_164 : decode cX6_go 164 = .ok (.istore_n 2, 1) := by decide +kernel
theorem dX6_go_165 : decode cX6_go 165 = .ok (.iconst 1, 1) := by decide +kernel
theorem dX6_go_166 : decode cX6_go 166 = .ok (.istore_n 3, 1) := by decide +kernel
theorem dX6_go_167 : decode cX6_go 167 = .ok (.aload_n 0, 1) := by decide +kernel
theorem dX6_go_168 : decode cX6_go 168 = .ok (.lconst 0, 1) := by decide +kernel
theorem dX6_go_169 : decode cX6_go 169 = .ok (.putfield 41, 3) := by decide +kernel
theorem dX6_go_172 : decode cX6_go 172 = .ok (.aload_n 0, 1) := by decide +kernel
theorem dX6_go_173 : decode cX6_go 173 = .ok (.iconst 0, 1) := by decide +kernel
theorem dX6_go_174 : decode cX6_go 174 = .ok (.putfield 45, 3) := by decide +kernel
theorem dX6_go_177 : decode cX6_go 177 = .ok (.aload_n 0, 1) := by decide +kernel
theorem dX6_go_178 : decode cX6_go 178 = .ok (.aload_n 0, 1) := by decide +kernel
theorem dX6_go_179 : decode cX6_go 179 = .ok (.getfield 25, 3) := by decide +kernel
theorem dX6_go_182 : decode cX6_go 182 = .ok (.invokevirtual 48, 3) := by decide +kernel
theorem dX6_go_185 : decode cX6_go 185 = .ok (.invokestatic 34, 3) := by decide +kernel
theorem dX6_go_188 : decode cX6_go 188 = .ok (.ifCond .ne 17, 3) := by decide +kernel
theorem dX6_go_191 : decode cX6_go 191 = .ok (.aload_n 0, 1) := by decide +kernel
theorem dX6_go_192 : decode cX6_go 192 = .ok (.aload_n 0, 1) := by decide +kernel
theorem dX6_go_193 : decode cX6_go 193 = .ok (.getfield 25, 3) := by decide +kernel
theorem dX6_go_196 : decode cX6_go 196 = .ok (.invokevirtual 48, 3) := by decide +kernel
theorem dX6_go_199 : decode cX6_go 199 = .ok (.invokestatic 38, 3) := by decide +kernel
theorem dX6_go_202 : decode cX6_go 202 = .ok (.ifCond .eq 110, 3) := by decide +kernel
theorem dX6_go_205 : decode cX6_go 205 = .ok (.aload_n 0, 1) := by decide +kernel
theorem dX6_go_206 : decode cX6_go 206 = .ok (.getfield 11, 3) := by decide +kernel
theorem dX6_go_209 : decode cX6_go 209 = .ok (.aload_n 0, 1) := by decide +kernel
theorem dX6_go_210 : decode cX6_go 210 = .ok (.getfield 25, 3) := by decide +kernel
theorem dX6_go_213 : decode cX6_go 213 = .ok (.iaload, 1) := by decide +kernel
theorem dX6_go_214 : decode cX6_go 214 = .ok (.istore 4, 2) := by decide +kernel
theorem dX6_go_216 : decode cX6_go 216 = .ok (.iload_n 3, 1) := by decide +kernel
theorem dX6_go_217 : decode cX6_go 217 = .ok (.ifCond .eq 16, 3) := by decide +kernel
theorem dX6_go_220 : decode cX6_go 220 = .ok (.iload 4, 2) := by decide +kernel
theorem dX6_go_222 : decode cX6_go 222 = .ok (.invokestatic 34, 3) := by decide +kernel
theorem dX6_go_225 : decode cX6_go 225 = .ok (.iload_n 2, 1) := by decide +kernel
theorem dX6_go_226 : decode cX6_go 226 = .ok (.if_icmp .ne 7, 3) := by decide +kernel
theorem dX6_go_229 : decode cX6_go 229 = .ok (.iconst 1, 1) := by decide +kernel
theorem dX6_go_230 : decode cX6_go 230 = .ok (.goto 4, 3) := by decide +kernel
theorem dX6_go_233 : decode cX6_go 233 = .ok (.iconst 0, 1) := by decide +kernel
theorem dX6_go_234 : decode cX6_go 234 = .ok (.istore_n 3, 1) := by decide +kernel
theorem dX6_go_235 : decode cX6_go 235 = .ok (.aload_n 0, 1) := by decide +kernel
theorem dX6_go_236 : decode cX6_go 236 = .ok (.getfield 25, 3) := by decide +kernel
theorem dX6_go_239 : decode cX6_go 239 = .ok (.aload_n 0, 1) := by decide +kernel
theorem dX6_go_240 : decode cX6_go 240 = .ok (.getfield 28, 3) := by decide +kernel
theorem dX6_go_243 : decode cX6_go 243 = .ok (.isub, 1) := by decide +kernel
theorem dX6_go_244 : decode cX6_go 244 = .ok (.bipush 8, 2) := by decide +kernel
theorem dX6_go_246 : decode cX6_go 246 = .ok (.if_icmp .ge 23, 3) := by decide +kernel
theorem dX6_go_249 : decode cX6_go 249 = .ok (.aload_n 0, 1) := by decide +kernel
theorem dX6_go_250 : decode cX6_go 250 = .ok (.ldc2_w 52, 3) := by decide +kernel
theorem dX6_go_253 : decode cX6_go 253 = .ok (.aload_n 0, 1) := by decide +kernel
theorem dX6_go_254 : decode cX6_go 254 = .ok (.getfield 41, 3) := by decide +kernel
theorem dX6_go_257 : decode cX6_go 257 = .ok (.lmul, 1) := by decide +kernel
theorem dX6_go_258 : decode cX6_go 258 = .ok (.iload 4, 2) := by decide +kernel
theorem dX6_go_260 : decode cX6_go 260 = .ok (.i2l, 1) := by decide +kernel
theorem dX6_go_261 : decode cX6_go 261 = .ok (.ladd, 1) := by decide +kernel
theorem dX6_go_262 : decode cX6_go 262 = .ok (.ldc2_w 54, 3) := by decide +kernel
theorem dX6_go_265 : decode cX6_go 265 = .ok (.lsub, 1) := by decide +kernel
theorem dX6_go_266 : decode cX6_go 266 = .ok (.putfield 41, 3) := by decide +kernel
theorem dX6_go_269 : decode cX6_go 269 = .ok (.aload_n 0, 1) := by decide +kernel
theorem dX6_go_270 : decode cX6_go 270 = .ok (.getfield 25, 3) := by decide +kernel
theorem dX6_go_273 : decode cX6_go 273 = .ok (.aload_n 0, 1) := by decide +kernel
theorem dX6_go_274 : decode cX6_go 274 = .ok (.getfield 28, 3) := by decide +kernel
theorem dX6_go_277 : decode cX6_go 277 = .ok (.isub, 1) := by decide +kernel
theorem dX6_go_278 : decode cX6_go 278 = .ok (.iconst 2, 1) := by decide +kernel
theorem dX6_go_279 : decode cX6_go 279 = .ok (.if_icmp .ge 20, 3) := by decide +kernel
theorem dX6_go_282 : decode cX6_go 282 = .ok (.aload_n 0, 1) := by decide +kernel
theorem dX6_go_283 : decode cX6_go 283 = .ok (.bipush 10, 2) := by decide +kernel
theorem dX6_go_285 : decode cX6_go 285 = .ok (.aload_n 0, 1) := by decide +kernel
theorem dX6_go_286 : decode cX6_go 286 = .ok (.getfield 45, 3) := by decide +kernel
theorem dX6_go_289 : decode cX6_go 289 = .ok (.imul, 1) := by decide +kernel
theorem dX6_go_290 : decode cX6_go 290 = .ok (.iload 4, 2) := by decide +kernel
theorem dX6_go_292 : decode cX6_go 292 = .ok (.iadd, 1) := by decide +kernel
theorem dX6_go_293 : decode cX6_go 293 = .ok (.bipush 48, 2) := by decide +kernel
theorem dX6_go_295 : decode cX6_go 295 = .ok (.isub, 1) := by decide +kernel
theorem dX6_go_296 : decode cX6_go 296 = .ok (.putfield 45, 3) := by decide +kernel
theorem dX6_go_299 : decode cX6_go 299 = .ok (.aload_n 0, 1) := by decide +kernel
theorem dX6_go_300 : decode cX6_go 300 = .ok (.dup, 1) := by decide +kernel
theorem dX6_go_301 : decode cX6_go 301 = .ok (.getfield 25, 3) := by decide +kernel
theorem dX6_go_304 : decode cX6_go 304 = .ok (.iconst 1, 1) := by decide +kernel
theorem dX6_go_305 : decode cX6_go 305 = .ok (.iadd, 1) := by decide +kernel
theorem dX6_go_306 : decode cX6_go 306 = .ok (.putfield 25, 3) := by decide +kernel
theorem dX6_go_309 : decode cX6_go 309 = .ok (.goto (-132), 3) := by decide +kernel
theorem dX6_go_312 : decode cX6_go 312 = .ok (.aload_n 0, 1) := by decide +kernel
theorem dX6_go_313 : decode cX6_go 313 = .ok (.iload_n 3, 1) := by decide +kernel
theorem dX6_go_314 : decode cX6_go 314 = .ok (.ifCond .eq 20, 3) := by decide +kernel
theorem dX6_go_317 : decode cX6_go 317 = .ok (.iload_n 2, 1) := by decide +kernel
theorem dX6_go_318 : decode cX6_go 318 = .ok (.ifCond .ne 20, 3) := by decide +kernel
theorem dX6_go_321 : decode cX6_go 321 = .ok (.aload_n 0, 1) := by decide +kernel
theorem dX6_go_322 : decode cX6_go 322 = .ok (.getfield 25, 3) := by decide +kernel
theorem dX6_go_325 : decode cX6_go 325 = .ok (.aload_n 0, 1) := by decide +kernel
theorem dX6_go_326 : decode cX6_go 326 = .ok (.getfield 28, 3) := by decide +kernel
theorem dX6_go_329 : decode cX6_go 329 = .ok (.isub, 1) := by decide +kernel
theorem dX6_go_330 : decode cX6_go 330 = .ok (.iconst 2, 1) := by decide +kernel
theorem dX6_go_331 : decode cX6_go 331 = .ok (.if_icmp .le 7, 3) := by decide +kernel
theorem dX6_go_334 : decode cX6_go 334 = .ok (.iconst 1, 1) := by decide +kernel
theorem dX6_go_335 : decode cX6_go 335 = .ok (.goto 12, 3) := by decide +kernel
theorem dX6_go_338 : decode cX6_go 338 = .ok (.iload_n 2, 1) := by decide +kernel
theorem dX6_go_339 : decode cX6_go 339 = .ok (.ifCond .eq 7, 3) := by decide +kernel
theorem dX6_go_342 : decode cX6_go 342 = .ok (.iconst 2, 1) := by decide +kernel
theorem dX6_go_343 : decode cX6_go 343 = .ok (.goto 4, 3) := by decide +kernel
theorem dX6_go_346 : decode cX6_go 346 = .ok (.iconst 3, 1) := by decide +kernel
theorem dX6_go_347 : decode cX6_go 347 = .ok (.putfield 31, 3) := by decide +kernel
theorem dX6_go_350 : decode cX6_go 350 = .ok (.return_, 1) := by decide +kernel
theorem dX6_four_0 : decode cX6_four 0 = .ok (.ldc2_w 52, 3) := by decide +kernel
theorem dX6_four_3 : decode cX6_four 3 = .ok (.ldc2_w 52, 3) := by decide +kernel
theorem dX6_four_6 : decode cX6_four 6 = .ok (.ldc2_w 52, 3) := by decide +kernel
theorem dX6_four_9 : decode cX6_four 9 = .ok (.iload_n 0, 1) := by decide +kernel
theorem dX6_four_10 : decode cX6_four 10 = .ok (.i2l, 1) := by decide +kernel
theorem dX6_four_11 : decode cX6_four 11 = .ok (.ldc2_w 54, 3) := by decide +kernel
theorem dX6_four_14 : decode cX6_four 14 = .ok (.lsub, 1) := by decide +kernel
theorem dX6_four_15 : decode cX6_four 15 = .ok (.lmul, 1) := by decide +kernel
theorem dX6_four_16 : decode cX6_four 16 = .ok (.iload_n 1, 1) := by decide +kernel
theorem dX6_four_17 : decode cX6_four 17 = .ok (.i2l, 1) := by decide +kernel
theorem dX6_four_18 : decode cX6_four 18 = .ok (.ladd, 1) := by decide +kernel
theorem dX6_four_19 : decode cX6_four 19 = .ok (.ldc2_w 54, 3) := by decide +kernel
theorem dX6_four_22 : decode cX6_four 22 = .ok (.lsub, 1) := by decide +kernel
theorem dX6_four_23 : decode cX6_four 23 = .ok (.lmul, 1) := by decide +kernel
theorem dX6_four_24 : decode cX6_four 24 = .ok (.iload_n 2, 1) := by decide +kernel
theorem dX6_four_25 : decode cX6_four 25 = .ok (.i2l, 1) := by decide +kernel
theorem dX6_four_26 : decode cX6_four 26 = .ok (.ladd, 1) := by decide +kernel
theorem dX6_four_27 : decode cX6_four 27 = .ok (.ldc2_w 54, 3) := by decide +kernel
theorem dX6_four_30 : decode cX6_four 30 = .ok (.lsub, 1) := by decide +kernel
theorem dX6_four_31 : decode cX6_four 31 = .ok (.lmul, 1) := by decide +kernel
theorem dX6_four_32 : decode cX6_four 32 = .ok (.iload_n 3, 1) := by decide +kernel
theorem dX6_four_33 : decode cX6_four 33 = .ok (.i2l, 1) := by decide +kernel
theorem dX6_four_34 : decode cX6_four 34 = .ok (.ladd, 1) := by decide +kernel
theorem dX6_four_35 : decode cX6_four 35 = .ok (.ldc2_w 54, 3) := by decide +kernel
theorem dX6_four_38 : decode cX6_four 38 = .ok (.lsub, 1) := by decide +kernel
theorem dX6_four_39 : decode cX6_four 39 = .ok (.lreturn, 1) := by decide +kernel
theorem dX6_isWord_0 : decode cX6_isWord 0 = .ok (.aload_n 0, 1) := by decide +kernel
theorem dX6_isWord_1 : decode cX6_isWord 1 = .ok (.getfield 31, 3) := by decide +kernel
theorem dX6_isWord_4 : decode cX6_isWord 4 = .ok (.iconst 2, 1) := by decide +kernel
theorem dX6_isWord_5 : decode cX6_isWord 5 = .ok (.if_icmp .ne 16, 3) := by decide +kernel
theorem dX6_isWord_8 : decode cX6_isWord 8 = .ok (.aload_n 0, 1) := by decide +kernel
theorem dX6_isWord_9 : decode cX6_isWord 9 = .ok (.getfield 41, 3) := by decide +kernel
theorem dX6_isWord_12 : decode cX6_isWord 12 = .ok (.lload_n 1, 1) := by decide +kernel
theorem dX6_isWord_13 : decode cX6_isWord 13 = .ok (.lcmp, 1) := by decide +kernel
theorem dX6_isWord_14 : decode cX6_isWord 14 = .ok (.ifCond .ne 7, 3) := by decide +kernel
theorem dX6_isWord_17 : decode cX6_isWord 17 = .ok (.iconst 1, 1) := by decide +kernel
theorem dX6_isWord_18 : decode cX6_isWord 18 = .ok (.goto 4, 3) := by decide +kernel
theorem dX6_isWord_21 : decode cX6_isWord 21 = .ok (.iconst 0, 1) := by decide +kernel
theorem dX6_isWord_22 : decode cX6_isWord 22 = .ok (.ireturn, 1) := by decide +kernel
theorem dX6_isWorks_0 : decode cX6_isWorks 0 = .ok (.aload_n 0, 1) := by decide +kernel
theorem dX6_isWorks_1 : decode cX6_isWorks 1 = .ok (.ldc2_w 52, 3) := by decide +kernel
theorem dX6_isWorks_4 : decode cX6_isWorks 4 = .ok (.bipush 119, 2) := by decide +kernel
theorem dX6_isWorks_6 : decode cX6_isWorks 6 = .ok (.bipush 111, 2) := by decide +kernel
theorem dX6_isWorks_8 : decode cX6_isWorks 8 = .ok (.bipush 114, 2) := by decide +kernel
theorem dX6_isWorks_10 : decode cX6_isWorks 10 = .ok (.bipush 107, 2) := by decide +kernel
theorem dX6_isWorks_12 : decode cX6_isWorks 12 = .ok (.invokestatic 56, 3) := by decide +kernel
theorem dX6_isWorks_15 : decode cX6_isWorks 15 = .ok (.lmul, 1) := by decide +kernel
theorem dX6_isWorks_16 : decode cX6_isWorks 16 = .ok (.ldc2_w 60, 3) := by decide +kernel
theorem dX6_isWorks_19 : decode cX6_isWorks 19 = .ok (.ladd, 1) := by decide +kernel
theorem dX6_isWorks_20 : decode cX6_isWorks 20 = .ok (.invokevirtual 62, 3) := by decide +kernel
theorem dX6_isWorks_23 : decode cX6_isWorks 23 = .ok (.ireturn, 1) := by decide +kernel
theorem dX6_isStationWord_0 : decode cX6_isStationWord 0 = .ok (.aload_n 0, 1) := by decide +kernel
theorem dX6_isStationWord_1 : decode cX6_isStationWord 1 = .ok (.ldc2_w 52, 3) := by decide +kernel
theorem dX6_isStationWord_4 : decode cX6_isStationWord 4 = .ok (.ldc2_w 52, 3) := by decide +kernel
theorem dX6_isStationWord_7 : decode cX6_isStationWord 7 = .ok (.ldc2_w 52, 3) := by decide +kernel
theorem dX6_isStationWord_10 : decode cX6_isStationWord 10 = .ok (.bipush 115, 2) := by decide +kernel
theorem dX6_isStationWord_12 : decode cX6_isStationWord 12 = .ok (.bipush 116, 2) := by decide +kernel
theorem dX6_isStationWord_14 : decode cX6_isStationWord 14 = .ok (.bipush 97, 2) := by decide +kernel
theorem dX6_isStationWord_16 : decode cX6_isStationWord 16 = .ok (.bipush 116, 2) := by decide +kernel
theorem dX6_isStationWord_18 : decode cX6_isStationWord 18 = .ok (.invokestatic 56, 3) := by decide +kernel
theorem dX6_isStationWord_21 : decode cX6_isStationWord 21 = .ok (.lmul, 1) := by decide +kernel
theorem dX6_isStationWord_22 : decode cX6_isStationWord 22 = .ok (.ldc2_w 66, 3) := by decide +kernel
theorem dX6_isStationWord_25 : decode cX6_isStationWord 25 = .ok (.ladd, 1) := by decide +kernel
theorem dX6_isStationWord_26 : decode cX6_isStationWord 26 = .ok (.lmul, 1) := by decide +kernel
theorem dX6_isStationWord_27 : decode cX6_isStationWord 27 = .ok (.ldc2_w 68, 3) := by decide +kernel
theorem dX6_isStationWord_30 : decode cX6_isStationWord 30 = .ok (.ladd, 1) := by decide +kernel
theorem dX6_isStationWord_31 : decode cX6_isStationWord 31 = .ok (.lmul, 1) := by decide +kernel
theorem dX6_isStationWord_32 : decode cX6_isStationWord 32 = .ok (.ldc2_w 70, 3) := by decide +kernel
theorem dX6_isStationWord_35 : decode cX6_isStationWord 35 = .ok (.ladd, 1) := by decide +kernel
theorem dX6_isStationWord_36 : decode cX6_isStationWord 36 = .ok (.invokevirtual 62, 3) := by decide +kernel
theorem dX6_isStationWord_39 : decode cX6_isStationWord 39 = .ok (.ireturn, 1) := by decide +kernel
theorem dX6_bad_0 : decode cX6_bad 0 = .ok (.aload_n 0, 1) := by decide +kernel
theorem dX6_bad_1 : decode cX6_bad 1 = .ok (.aload_n 0, 1) := by decide +kernel
theorem dX6_bad_2 : decode cX6_bad 2 = .ok (.getfield 31, 3) := by decide +kernel
theorem dX6_bad_5 : decode cX6_bad 5 = .ok (.iconst 1, 1) := by decide +kernel
theorem dX6_bad_6 : decode cX6_bad 6 = .ok (.if_icmp .ne 7, 3) := by decide +kernel
theorem dX6_bad_9 : decode cX6_bad 9 = .ok (.iconst 1, 1) := by decide +kernel
theorem dX6_bad_10 : decode cX6_bad 10 = .ok (.goto 4, 3) := by decide +kernel
theorem dX6_bad_13 : decode cX6_bad 13 = .ok (.iload_n 1, 1) := by decide +kernel
theorem dX6_bad_14 : decode cX6_bad 14 = .ok (.putfield 72, 3) := by decide +kernel
theorem dX6_bad_17 : decode cX6_bad 17 = .ok (.aload_n 0, 1) := by decide +kernel
theorem dX6_bad_18 : decode cX6_bad 18 = .ok (.aload_n 0, 1) := by decide +kernel
theorem dX6_bad_19 : decode cX6_bad 19 = .ok (.getfield 28, 3) := by decide +kernel
theorem dX6_bad_22 : decode cX6_bad 22 = .ok (.putfield 75, 3) := by decide +kernel
theorem dX6_bad_25 : decode cX6_bad 25 = .ok (.iconst 0, 1) := by decide +kernel
theorem dX6_bad_26 : decode cX6_bad 26 = .ok (.ireturn, 1) := by decide +kernel
theorem dX6_init_0 : decode cX6_init 0 = .ok (.aload_n 0, 1) := by decide +kernel
theorem dX6_init_1 : decode cX6_init 1 = .ok (.invokespecial 78, 3) := by decide +kernel
theorem dX6_init_4 : decode cX6_init 4 = .ok (.aload_n 0, 1) := by decide +kernel
theorem dX6_init_5 : decode cX6_init 5 = .ok (.sipush 440, 3) := by decide +kernel
theorem dX6_init_8 : decode cX6_init 8 = .ok (.newarray .int, 2) := by decide +kernel
theorem dX6_init_10 : decode cX6_init 10 = .ok (.putfield 11, 3) := by decide +kernel
theorem dX6_init_13 : decode cX6_init 13 = .ok (.aload_n 0, 1) := by decide +kernel
theorem dX6_init_14 : decode cX6_init 14 = .ok (.sipush 353, 3) := by decide +kernel
theorem dX6_init_17 : decode cX6_init 17 = .ok (.newarray .int, 2) := by decide +kernel
theorem dX6_init_19 : decode cX6_init 19 = .ok (.putfield 84, 3) := by decide +kernel
theorem dX6_init_22 : decode cX6_init 22 = .ok (.aload_n 0, 1) := by decide +kernel
theorem dX6_init_23 : decode cX6_init 23 = .ok (.sipush 353, 3) := by decide +kernel
theorem dX6_init_26 : decode cX6_init 26 = .ok (.newarray .int, 2) := by decide +kernel
theorem dX6_init_28 : decode cX6_init 28 = .ok (.putfield 87, 3) := by decide +kernel
theorem dX6_init_31 : decode cX6_init 31 = .ok (.aload_n 0, 1) := by decide +kernel
theorem dX6_init_32 : decode cX6_init 32 = .ok (.sipush 353, 3) := by decide +kernel
theorem dX6_init_35 : decode cX6_init 35 = .ok (.newarray .int, 2) := by decide +kernel
theorem dX6_init_37 : decode cX6_init 37 = .ok (.putfield 90, 3) := by decide +kernel
theorem dX6_init_40 : decode cX6_init 40 = .ok (.aload_n 0, 1) := by decide +kernel
theorem dX6_init_41 : decode cX6_init 41 = .ok (.sipush 2824, 3) := by decide +kernel
theorem dX6_init_44 : decode cX6_init 44 = .ok (.newarray .int, 2) := by decide +kernel
theorem dX6_init_46 : decode cX6_init 46 = .ok (.putfield 93, 3) := by decide +kernel
theorem dX6_init_49 : decode cX6_init 49 = .ok (.aload_n 0, 1) := by decide +kernel
theorem dX6_init_50 : decode cX6_init 50 = .ok (.ldc 96, 2) := by decide +kernel
theorem dX6_init_52 : decode cX6_init 52 = .ok (.newarray .int, 2) := by decide +kernel
theorem dX6_init_54 : decode cX6_init 54 = .ok (.putfield 97, 3) := by decide +kernel
theorem dX6_init_57 : decode cX6_init 57 = .ok (.aload_n 0, 1) := by decide +kernel
theorem dX6_init_58 : decode cX6_init 58 = .ok (.sipush 1500, 3) := by decide +kernel
theorem dX6_init_61 : decode cX6_init 61 = .ok (.newarray .int, 2) := by decide +kernel
theorem dX6_init_63 : decode cX6_init 63 = .ok (.putfield 100, 3) := by decide +kernel
theorem dX6_init_66 : decode cX6_init 66 = .ok (.aload_n 0, 1) := by decide +kernel
theorem dX6_init_67 : decode cX6_init 67 = .ok (.sipush 1500, 3) := by decide +kernel
theorem dX6_init_70 : decode cX6_init 70 = .ok (.newarray .long, 2) := by decide +kernel
theorem dX6_init_72 : decode cX6_init 72 = .ok (.putfield 103, 3) := by decide +kernel
theorem dX6_init_75 : decode cX6_init 75 = .ok (.aload_n 0, 1) := by decide +kernel
theorem dX6_init_76 : decode cX6_init 76 = .ok (.getfield 84, 3) := by decide +kernel
theorem dX6_init_79 : decode cX6_init 79 = .ok (.invokestatic 107, 3) := by decide +kernel
theorem dX6_init_82 : decode cX6_init 82 = .ok (.return_, 1) := by decide +kernel
theorem dX6_copy_0 : decode cX6_copy 0 = .ok (.iconst 0, 1) := by decide +kernel
theorem dX6_copy_1 : decode cX6_copy 1 = .ok (.istore 4, 2) := by decide +kernel
theorem dX6_copy_3 : decode cX6_copy 3 = .ok (.iload 4, 2) := by decide +kernel
theorem dX6_copy_5 : decode cX6_copy 5 = .ok (.sipush 353, 3) := by decide +kernel
theorem dX6_copy_8 : decode cX6_copy 8 = .ok (.if_icmp .ge 21, 3) := by decide +kernel
theorem dX6_copy_11 : decode cX6_copy 11 = .ok (.aload_n 2, 1) := by decide +kernel
theorem dX6_copy_12 : decode cX6_copy 12 = .ok (.iload_n 3, 1) := by decide +kernel
theorem dX6_copy_13 : decode cX6_copy 13 = .ok (.iload 4, 2) := by decide +kernel
theorem dX6_copy_15 : decode cX6_copy 15 = .ok (.iadd, 1) := by decide +kernel
theorem dX6_copy_16 : decode cX6_copy 16 = .ok (.aload_n 0, 1) := by decide +kernel
theorem dX6_copy_17 : decode cX6_copy 17 = .ok (.iload_n 1, 1) := by decide +kernel
theorem dX6_copy_18 : decode cX6_copy 18 = .ok (.iload 4, 2) := by decide +kernel
theorem dX6_copy_20 : decode cX6_copy 20 = .ok (.iadd, 1) := by decide +kernel
theorem dX6_copy_21 : decode cX6_copy 21 = .ok (.iaload, 1) := by decide +kernel
theorem dX6_copy_22 : decode cX6_copy 22 = .ok (.iastore, 1) := by decide +kernel
theorem dX6_copy_23 : decode cX6_copy 23 = .ok (.iinc 4 1, 3) := by decide +kernel
theorem dX6_copy_26 : decode cX6_copy 26 = .ok (.goto (-23), 3) := by decide +kernel
theorem dX6_copy_29 : decode cX6_copy 29 = .ok (.return_, 1) := by decide +kernel
theorem dX6_clears_0 : decode cX6_clears 0 = .ok (.bipush 48, 2) := by decide +kernel
theorem dX6_clears_2 : decode cX6_clears 2 = .ok (.istore_n 1, 1) := by decide +kernel
theorem dX6_clears_3 : decode cX6_clears 3 = .ok (.iload_n 1, 1) := by decide +kernel
theorem dX6_clears_4 : decode cX6_clears 4 = .ok (.sipush 353, 3) := by decide +kernel
theorem dX6_clears_7 : decode cX6_clears 7 = .ok (.if_icmp .ge 13, 3) := by decide +kernel
theorem dX6_clears_10 : decode cX6_clears 10 = .ok (.aload_n 0, 1) := by decide +kernel
theorem dX6_clears_11 : decode cX6_clears 11 = .ok (.iload_n 1, 1) := by decide +kernel
theorem dX6_clears_12 : decode cX6_clears 12 = .ok (.iconst 0, 1) := by decide +kernel
theorem dX6_clears_13 : decode cX6_clears 13 = .ok (.iastore, 1) := by decide +kernel
theorem dX6_clears_14 : decode cX6_clears 14 = .ok (.iinc 1 1, 3) := by decide +kernel
theorem dX6_clears_17 : decode cX6_clears 17 = .ok (.goto (-14), 3) := by decide +kernel
theorem dX6_clears_20 : decode cX6_clears 20 = .ok (.aload_n 0, 1) := by decide +kernel
theorem dX6_clears_21 : decode cX6_clears 21 = .ok (.bipush 51, 2) := by decide +kernel
theorem dX6_clears_23 : decode cX6_clears 23 = .ok (.iconst (-1), 1) := by decide +kernel
theorem dX6_clears_24 : decode cX6_clears 24 = .ok (.iastore, 1) := by decide +kernel
theorem dX6_clears_25 : decode cX6_clears 25 = .ok (.aload_n 0, 1) := by decide +kernel
theorem dX6_clears_26 : decode cX6_clears 26 = .ok (.bipush 52, 2) := by decide +kernel
theorem dX6_clears_28 : decode cX6_clears 28 = .ok (.iconst (-1), 1) := by decide +kernel
theorem dX6_clears_29 : decode cX6_clears 29 = .ok (.iastore, 1) := by decide +kernel
theorem dX6_clears_30 : decode cX6_clears 30 = .ok (.iconst 0, 1) := by decide +kernel
theorem dX6_clears_31 : decode cX6_clears 31 = .ok (.istore_n 1, 1) := by decide +kernel
theorem dX6_clears_32 : decode cX6_clears 32 = .ok (.iload_n 1, 1) := by decide +kernel
theorem dX6_clears_33 : decode cX6_clears 33 = .ok (.bipush 6, 2) := by decide +kernel
theorem dX6_clears_35 : decode cX6_clears 35 = .ok (.if_icmp .ge 33, 3) := by decide +kernel
theorem dX6_clears_38 : decode cX6_clears 38 = .ok (.aload_n 0, 1) := by decide +kernel
theorem dX6_clears_39 : decode cX6_clears 39 = .ok (.bipush 53, 2) := by decide +kernel
theorem dX6_clears_41 : decode cX6_clears 41 = .ok (.bipush 9, 2) := by decide +kernel
theorem dX6_clears_43 : decode cX6_clears 43 = .ok (.iload_n 1, 1) := by decide +kernel
theorem dX6_clears_44 : decode cX6_clears 44 = .ok (.imul, 1) := by decide +kernel
theorem dX6_clears_45 : decode cX6_clears 45 = .ok (.iadd, 1) := by decide +kernel
theorem dX6_clears_46 : decode cX6_clears 46 = .ok (.iconst 0, 1) := by decide +kernel
theorem dX6_clears_47 : decode cX6_clears 47 = .ok (.iadd, 1) := by decide +kernel
theorem dX6_clears_48 : decode cX6_clears 48 = .ok (.iconst (-1), 1) := by decide +kernel
theorem dX6_clears_49 : decode cX6_clears 49 = .ok (.iastore, 1) := by decide +kernel
theorem dX6_clears_50 : decode cX6_clears 50 = .ok (.aload_n 0, 1) := by decide +kernel
theorem dX6_clears_51 : decode cX6_clears 51 = .ok (.bipush 53, 2) := by decide +kernel
theorem dX6_clears_53 : decode cX6_clears 53 = .ok (.bipush 9, 2) := by decide +kernel
theorem dX6_clears_55 : decode cX6_clears 55 = .ok (.iload_n 1, 1) := by decide +kernel
theorem dX6_clears_56 : decode cX6_clears 56 = .ok (.imul, 1) := by decide +kernel
theorem dX6_clears_57 : decode cX6_clears 57 = .ok (.iadd, 1) := by decide +kernel
theorem dX6_clears_58 : decode cX6_clears 58 = .ok (.iconst 1, 1) := by decide +kernel
theorem dX6_clears_59 : decode cX6_clears 59 = .ok (.iadd, 1) := by decide +kernel
theorem dX6_clears_60 : decode cX6_clears 60 = .ok (.iconst (-1), 1) := by decide +kernel
theorem dX6_clears_61 : decode cX6_clears 61 = .ok (.iastore, 1) := by decide +kernel
theorem dX6_clears_62 : decode cX6_clears 62 = .ok (.iinc 1 1, 3) := by decide +kernel
theorem dX6_clears_65 : decode cX6_clears 65 = .ok (.goto (-33), 3) := by decide +kernel
theorem dX6_clears_68 : decode cX6_clears 68 = .ok (.iconst 0, 1) := by decide +kernel
theorem dX6_clears_69 : decode cX6_clears 69 = .ok (.istore_n 1, 1) := by decide +kernel
theorem dX6_clears_70 : decode cX6_clears 70 = .ok (.iload_n 1, 1) := by decide +kernel
theorem dX6_clears_71 : decode cX6_clears 71 = .ok (.aload_n 0, 1) := by decide +kernel
theorem dX6_clears_72 : decode cX6_clears 72 = .ok (.bipush 14, 2) := by decide +kernel
theorem dX6_clears_74 : decode cX6_clears 74 = .ok (.iaload, 1) := by decide +kernel
theorem dX6_clears_75 : decode cX6_clears 75 = .ok (.if_icmp .ge 29, 3) := by decide +kernel
theorem dX6_clears_78 : decode cX6_clears 78 = .ok (.aload_n 0, 1) := by decide +kernel
theorem dX6_clears_79 : decode cX6_clears 79 = .ok (.bipush 15, 2) := by decide +kernel
theorem dX6_clears_81 : decode cX6_clears 81 = .ok (.iconst 4, 1) := by decide +kernel
theorem dX6_clears_82 : decode cX6_clears 82 = .ok (.iload_n 1, 1) := by decide +kernel
theorem dX6_clears_83 : decode cX6_clears 83 = .ok (.imul, 1) := by decide +kernel
theorem dX6_clears_84 : decode cX6_clears 84 = .ok (.iadd, 1) := by decide +kernel
theorem dX6_clears_85 : decode cX6_clears 85 = .ok (.iconst 3, 1) := by decide +kernel
theorem dX6_clears_86 : decode cX6_clears 86 = .ok (.iadd, 1) := by decide +kernel
theorem dX6_clears_87 : decode cX6_clears 87 = .ok (.aload_n 0, 1) := by decide +kernel
theorem dX6_clears_88 : decode cX6_clears 88 = .ok (.bipush 15, 2) := by decide +kernel
theorem dX6_clears_90 : decode cX6_clears 90 = .ok (.iconst 4, 1) := by decide +kernel
theorem dX6_clears_91 : decode cX6_clears 91 = .ok (.iload_n 1, 1) := by decide +kernel
theorem dX6_clears_92 : decode cX6_clears 92 = .ok (.imul, 1) := by decide +kernel
theorem dX6_clears_93 : decode cX6_clears 93 = .ok (.iadd, 1) := by decide +kernel
theorem dX6_clears_94 : decode cX6_clears 94 = .ok (.iconst 2, 1) := by decide +kernel
theorem dX6_clears_95 : decode cX6_clears 95 = .ok (.iadd, 1) := by decide +kernel
theorem dX6_clears_96 : decode cX6_clears 96 = .ok (.iaload, 1) := by decide +kernel
theorem dX6_clears_97 : decode cX6_clears 97 = .ok (.iastore, 1) := by decide +kernel
theorem dX6_clears_98 : decode cX6_clears 98 = .ok (.iinc 1 1, 3) := by decide +kernel
theorem dX6_clears_101 : decode cX6_clears 101 = .ok (.goto (-31), 3) := by decide +kernel
theorem dX6_clears_104 : decode cX6_clears 104 = .ok (.return_, 1) := by decide +kernel
theorem dX6_told_0 : decode cX6_told 0 = .ok (.aload_n 0, 1) := by decide +kernel
theorem dX6_told_1 : decode cX6_told 1 = .ok (.getfield 31, 3) := by decide +kernel
theorem dX6_told_4 : decode cX6_told 4 = .ok (.iconst 3, 1) := by decide +kernel
theorem dX6_told_5 : decode cX6_told 5 = .ok (.if_icmp .eq 9, 3) := by decide +kernel
theorem dX6_told_8 : decode cX6_told 8 = .ok (.aload_n 0, 1) := by decide +kernel
theorem dX6_told_9 : decode cX6_told 9 = .ok (.iconst 1, 1) := by decide +kernel
theorem dX6_told_10 : decode cX6_told 10 = .ok (.invokevirtual 111, 3) := by decide +kernel
theorem dX6_told_13 : decode cX6_told 13 = .ok (.ireturn, 1) := by decide +kernel
theorem dX6_told_14 : decode cX6_told 14 = .ok (.aload_n 0, 1) := by decide +kernel
theorem dX6_told_15 : decode cX6_told 15 = .ok (.getfield 45, 3) := by decide +kernel
theorem dX6_told_18 : decode cX6_told 18 = .ok (.iload_n 2, 1) := by decide +kernel
theorem dX6_told_19 : decode cX6_told 19 = .ok (.iload_n 3, 1) := by decide +kernel
theorem dX6_told_20 : decode cX6_told 20 = .ok (.invokestatic 114, 3) := by decide +kernel
theorem dX6_told_23 : decode cX6_told 23 = .ok (.ifCond .ne 9, 3) := by decide +kernel
theorem dX6_told_26 : decode cX6_told 26 = .ok (.aload_n 0, 1) := by decide +kernel
theorem dX6_told_27 : decode cX6_told 27 = .ok (.iconst 2, 1) := by decide +kernel
theorem dX6_told_28 : decode cX6_told 28 = .ok (.invokevirtual 111, 3) := by decide +kernel
theorem dX6_told_31 : decode cX6_told 31 = .ok (.ireturn, 1) := by decide +kernel
theorem dX6_told_32 : decode cX6_told 32 = .ok (.aload_n 0, 1) := by decide +kernel
theorem dX6_told_33 : decode cX6_told 33 = .ok (.getfield 87, 3) := by decide +kernel
theorem dX6_told_36 : decode cX6_told 36 = .ok (.iload_n 1, 1) := by decide +kernel
theorem dX6_told_37 : decode cX6_told 37 = .ok (.aload_n 0, 1) := by decide +kernel
theorem dX6_told_38 : decode cX6_told 38 = .ok (.getfield 45, 3) := by decide +kernel
theorem dX6_told_41 : decode cX6_told 41 = .ok (.iastore, 1) := by decide +kernel
theorem dX6_told_42 : decode cX6_told 42 = .ok (.aload_n 0, 1) := by decide +kernel
theorem dX6_told_43 : decode cX6_told 43 = .ok (.invokevirtual 118, 3) := by decide +kernel
theorem dX6_told_46 : decode cX6_told 46 = .ok (.iconst 1, 1) := by decide +kernel
theorem dX6_told_47 : decode cX6_told 47 = .ok (.ireturn, 1) := by decide +kernel
theorem dX6_readWorks_0 : decode cX6_readWorks 0 = .ok (.aload_n 0, 1) := by decide +kernel
theorem dX6_readWorks_1 : decode cX6_readWorks 1 = .ok (.invokevirtual 118, 3) := by decide +kernel
theorem dX6_readWorks_4 : decode cX6_readWorks 4 = .ok (.aload_n 0, 1) := by decide +kernel
theorem dX6_readWorks_5 : decode cX6_readWorks 5 = .ok (.bipush 17, 2) := by decide +kernel
theorem dX6_readWorks_7 : decode cX6_readWorks 7 = .ok (.iconst 1, 1) := by decide +kernel
theorem dX6_readWorks_8 : decode cX6_readWorks 8 = .ok (.bipush 20, 2) := by decide +kernel
theorem dX6_readWorks_10 : decode cX6_readWorks 10 = .ok (.invokevirtual 121, 3) := by decide +kernel
theorem dX6_readWorks_13 : decode cX6_readWorks 13 = .ok (.ifCond .ne 5, 3) := by decide +kernel
theorem dX6_readWorks_16 : decode cX6_readWorks 16 = .ok (.iconst 0, 1) := by decide +kernel
theorem dX6_readWorks_17 : decode cX6_readWorks 17 = .ok (.ireturn, 1) := by decide +kernel
theorem dX6_readWorks_18 : decode cX6_readWorks 18 = .ok (.aload_n 0, 1) := by decide +kernel
theorem dX6_readWorks_19 : decode cX6_readWorks 19 = .ok (.getfield 87, 3) := by decide +kernel
theorem dX6_readWorks_22 : decode cX6_readWorks 22 = .ok (.iconst 0, 1) := by decide +kernel
theorem dX6_readWorks_23 : decode cX6_readWorks 23 = .ok (.iconst 1, 1) := by decide +kernel
theorem dX6_readWorks_24 : decode cX6_readWorks 24 = .ok (.iastore, 1) := by decide +kernel
theorem dX6_readWorks_25 : decode cX6_readWorks 25 = .ok (.aload_n 0, 1) := by decide +kernel
theorem dX6_readWorks_26 : decode cX6_readWorks 26 = .ok (.getfield 87, 3) := by decide +kernel
theorem dX6_readWorks_29 : decode cX6_readWorks 29 = .ok (.bipush 14, 2) := by decide +kernel
theorem dX6_readWorks_31 : decode cX6_readWorks 31 = .ok (.iconst 1, 1) := by decide +kernel
theorem dX6_readWorks_32 : decode cX6_readWorks 32 = .ok (.iastore, 1) := by decide +kernel
theorem dX6_readWorks_33 : decode cX6_readWorks 33 = .ok (.iconst 1, 1) := by decide +kernel
theorem dX6_readWorks_34 : decode cX6_readWorks 34 = .ok (.ireturn, 1) := by decide +kernel
theorem dX6_readStation_0 : decode cX6_readStation 0 = .ok (.aload_n 0, 1) := by decide +kernel
theorem dX6_readStation_1 : decode cX6_readStation 1 = .ok (.getfield 87, 3) := by decide +kernel
theorem dX6_readStation_4 : decode cX6_readStation 4 = .ok (.iconst 1, 1) := by decide +kernel
theorem dX6_readStation_5 : decode cX6_readStation 5 = .ok (.iaload, 1) := by decide +kernel
theorem dX6_readStation_6 : decode cX6_readStation 6 = .ok (.istore_n 1, 1) := by decide +kernel
theorem dX6_readStation_7 : decode cX6_readStation 7 = .ok (.iload_n 1, 1) := by decide +kernel
theorem dX6_readStation_8 : decode cX6_readStation 8 = .ok (.bipush 6, 2) := by decide +kernel
theorem dX6_readStation_10 : decode cX6_readStation 10 = .ok (.if_icmp .ne 9, 3) := by decide +kernel
theorem dX6_readStation_13 : decode cX6_readStation 13 = .ok (.aload_n 0, 1) := by decide +kernel
theorem dX6_readStation_14 : decode cX6_readStation 14 = .ok (.iconst 3, 1) := by decide +kernel
theorem dX6_readStation_15 : decode cX6_readStation 15 = .ok (.invokevirtual 111, 3) := by decide +kernel
theorem dX6_readStation_18 : decode cX6_readStation 18 = .ok (.ireturn, 1) := by decide +kernel
theorem dX6_readStation_19 : decode cX6_readStation 19 = .ok (.aload_n 0, 1) := by decide +kernel
theorem dX6_readStation_20 : decode cX6_readStation 20 = .ok (.invokevirtual 118, 3) := by decide +kernel
theorem dX6_readStation_23 : decode cX6_readStation 23 = .ok (.aload_n 0, 1) := by decide +kernel
theorem dX6_readStation_24 : decode cX6_readStation 24 = .ok (.iconst 2, 1) := by decide +kernel
theorem dX6_readStation_25 : decode cX6_readStation 25 = .ok (.iload_n 1, 1) := by decide +kernel
theorem dX6_readStation_26 : decode cX6_readStation 26 = .ok (.iadd, 1) := by decide +kernel
theorem dX6_readStation_27 : decode cX6_readStation 27 = .ok (.iconst 1, 1) := by decide +kernel
theorem dX6_readStation_28 : decode cX6_readStation 28 = .ok (.bipush 60, 2) := by decide +kernel
theorem dX6_readStation_30 : decode cX6_readStation 30 = .ok (.invokevirtual 121, 3) := by decide +kernel
theorem dX6_readStation_33 : decode cX6_readStation 33 = .ok (.ifCond .eq 17, 3) := by decide +kernel
theorem dX6_readStation_36 : decode cX6_readStation 36 = .ok (.aload_n 0, 1) := by decide +kernel
theorem dX6_readStation_37 : decode cX6_readStation 37 = .ok (.bipush 8, 2) := by decide +kernel
theorem dX6_readStation_39 : decode cX6_readStation 39 = .ok (.iload_n 1, 1) := by decide +kernel
theorem dX6_readStation_40 : decode cX6_readStation 40 = .ok (.iadd, 1) := by decide +kernel
theorem dX6_readStation_41 : decode cX6_readStation 41 = .ok (.iconst 0, 1) := by decide +kernel
theorem dX6_readStation_42 : decode cX6_readStation 42 = .ok (.bipush 60, 2) := by decide +kernel
theorem dX6_readStation_44 : decode cX6_readStation 44 = .ok (.invokevirtual 121, 3) := by decide +kernel
theorem dX6_readStation_47 : decode cX6_readStation 47 = .ok (.ifCond .ne 5, 3) := by decide +kernel
theorem dX6_readStation_50 : decode cX6_readStation 50 = .ok (.iconst 0, 1) := by decide +kernel
theorem dX6_readStation_51 : decode cX6_readStation 51 = .ok (.ireturn, 1) := by decide +kernel
theorem dX6_readStation_52 : decode cX6_readStation 52 = .ok (.aload_n 0, 1) := by decide +kernel
theorem dX6_readStation_53 : decode cX6_readStation 53 = .ok (.getfield 87, 3) := by decide +kernel
theorem dX6_readStation_56 : decode cX6_readStation 56 = .ok (.iconst 1, 1) := by decide +kernel
theorem dX6_readStation_57 : decode cX6_readStation 57 = .ok (.dup2, 1) := by decide +kernel
theorem dX6_readStation_58 : decode cX6_readStation 58 = .ok (.iaload, 1) := by decide +kernel
theorem dX6_readStation_59 : decode cX6_readStation 59 = .ok (.iconst 1, 1) := by decide +kernel
theorem dX6_readStation_60 : decode cX6_readStation 60 = .ok (.iadd, 1) := by decide +kernel
theorem dX6_readStation_61 : decode cX6_readStation 61 = .ok (.iastore, 1) := by decide +kernel
theorem dX6_readStation_62 : decode cX6_readStation 62 = .ok (.iconst 1, 1) := by decide +kernel
theorem dX6_readStation_63 : decode cX6_readStation 63 = .ok (.ireturn, 1) := by decide +kernel
theorem dX6_readLoop_0 : decode cX6_readLoop 0 = .ok (.aload_n 0, 1) := by decide +kernel
theorem dX6_readLoop_1 : decode cX6_readLoop 1 = .ok (.getfield 87, 3) := by decide +kernel
theorem dX6_readLoop_4 : decode cX6_readLoop 4 = .ok (.bipush 14, 2) := by decide +kernel
theorem dX6_readLoop_6 : decode cX6_readLoop 6 = .ok (.iaload, 1) := by decide +kernel
theorem dX6_readLoop_7 : decode cX6_readLoop 7 = .ok (.iconst 5, 1) := by decide +kernel
theorem dX6_readLoop_8 : decode cX6_readLoop 8 = .ok (.if_icmp .ne 9, 3) := by decide +kernel
theorem dX6_readLoop_11 : decode cX6_readLoop 11 = .ok (.aload_n 0, 1) := by decide +kernel
theorem dX6_readLoop_12 : decode cX6_readLoop 12 = .ok (.iconst 3, 1) := by decide +kernel
theorem dX6_readLoop_13 : decode cX6_readLoop 13 = .ok (.invokevirtual 111, 3) := by decide +kernel
theorem dX6_readLoop_16 : decode cX6_readLoop 16 = .ok (.ireturn, 1) := by decide +kernel
theorem dX6_readLoop_17 : decode cX6_readLoop 17 = .ok (.aload_n 0, 1) := by decide +kernel
theorem dX6_readLoop_18 : decode cX6_readLoop 18 = .ok (.invokevirtual 118, 3) := by decide +kernel
theorem dX6_readLoop_21 : decode cX6_readLoop 21 = .ok (.bipush 15, 2) := by decide +kernel
theorem dX6_readLoop_23 : decode cX6_readLoop 23 = .ok (.iconst 4, 1) := by decide +kernel
theorem dX6_readLoop_24 : decode cX6_readLoop 24 = .ok (.aload_n 0, 1) := by decide +kernel
theorem dX6_readLoop_25 : decode cX6_readLoop 25 = .ok (.getfield 87, 3) := by decide +kernel
theorem dX6_readLoop_28 : decode cX6_readLoop 28 = .ok (.bipush 14, 2) := by decide +kernel
theorem dX6_readLoop_30 : decode cX6_readLoop 30 = .ok (.iaload, 1) := by decide +kernel
theorem dX6_readLoop_31 : decode cX6_readLoop 31 = .ok (.imul, 1) := by decide +kernel
theorem dX6_readLoop_32 : decode cX6_readLoop 32 = .ok (.iadd, 1) := by decide +kernel
theorem dX6_readLoop_33 : decode cX6_readLoop 33 = .ok (.istore_n 1, 1) := by decide +kernel
theorem dX6_readLoop_34 : decode cX6_readLoop 34 = .ok (.aload_n 0, 1) := by decide +kernel
theorem dX6_readLoop_35 : decode cX6_readLoop 35 = .ok (.iload_n 1, 1) := by decide +kernel
theorem dX6_readLoop_36 : decode cX6_readLoop 36 = .ok (.iconst 0, 1) := by decide +kernel
theorem dX6_readLoop_37 : decode cX6_readLoop 37 = .ok (.aload_n 0, 1) := by decide +kernel
theorem dX6_readLoop_38 : decode cX6_readLoop 38 = .ok (.getfield 87, 3) := by decide +kernel
theorem dX6_readLoop_41 : decode cX6_readLoop 41 = .ok (.iconst 1, 1) := by decide +kernel
theorem dX6_readLoop_42 : decode cX6_readLoop 42 = .ok (.iaload, 1) := by decide +kernel
theorem dX6_readLoop_43 : decode cX6_readLoop 43 = .ok (.iconst 1, 1) := by decide +kernel
theorem dX6_readLoop_44 : decode cX6_readLoop 44 = .ok (.isub, 1) := by decide +kernel
theorem dX6_readLoop_45 : decode cX6_readLoop 45 = .ok (.invokevirtual 121, 3) := by decide +kernel
theorem dX6_readLoop_48 : decode cX6_readLoop 48 = .ok (.ifCond .eq 40, 3) := by decide +kernel
theorem dX6_readLoop_51 : decode cX6_readLoop 51 = .ok (.aload_n 0, 1) := by decide +kernel
theorem dX6_readLoop_52 : decode cX6_readLoop 52 = .ok (.iload_n 1, 1) := by decide +kernel
theorem dX6_readLoop_53 : decode cX6_readLoop 53 = .ok (.iconst 1, 1) := by decide +kernel
theorem dX6_readLoop_54 : decode cX6_readLoop 54 = .ok (.iadd, 1) := by decide +kernel
theorem dX6_readLoop_55 : decode cX6_readLoop 55 = .ok (.aload_n 0, 1) := by decide +kernel
theorem dX6_readLoop_56 : decode cX6_readLoop 56 = .ok (.getfield 87, 3) := by decide +kernel
theorem dX6_readLoop_59 : decode cX6_readLoop 59 = .ok (.iload_n 1, 1) := by decide +kernel
theorem dX6_readLoop_60 : decode cX6_readLoop 60 = .ok (.iaload, 1) := by decide +kernel
theorem dX6_readLoop_61 : decode cX6_readLoop 61 = .ok (.aload_n 0, 1) := by decide +kernel
theorem dX6_readLoop_62 : decode cX6_readLoop 62 = .ok (.getfield 87, 3) := by decide +kernel
theorem dX6_readLoop_65 : decode cX6_readLoop 65 = .ok (.iconst 1, 1) := by decide +kernel
theorem dX6_readLoop_66 : decode cX6_readLoop 66 = .ok (.iaload, 1) := by decide +kernel
theorem dX6_readLoop_67 : decode cX6_readLoop 67 = .ok (.iconst 1, 1) := by decide +kernel
theorem dX6_readLoop_68 : decode cX6_readLoop 68 = .ok (.isub, 1) := by decide +kernel
theorem dX6_readLoop_69 : decode cX6_readLoop 69 = .ok (.invokevirtual 121, 3) := by decide +kernel
theorem dX6_readLoop_72 : decode cX6_readLoop 72 = .ok (.ifCond .eq 16, 3) := by decide +kernel
theorem dX6_readLoop_75 : decode cX6_readLoop 75 = .ok (.aload_n 0, 1) := by decide +kernel
theorem dX6_readLoop_76 : decode cX6_readLoop 76 = .ok (.iload_n 1, 1) := by decide +kernel
theorem dX6_readLoop_77 : decode cX6_readLoop 77 = .ok (.iconst 2, 1) := by decide +kernel
theorem dX6_readLoop_78 : decode cX6_readLoop 78 = .ok (.iadd, 1) := by decide +kernel
theorem dX6_readLoop_79 : decode cX6_readLoop 79 = .ok (.iconst 1, 1) := by decide +kernel
theorem dX6_readLoop_80 : decode cX6_readLoop 80 = .ok (.bipush 20, 2) := by decide +kernel
theorem dX6_readLoop_82 : decode cX6_readLoop 82 = .ok (.invokevirtual 121, 3) := by decide +kernel
theorem dX6_readLoop_85 : decode cX6_readLoop 85 = .ok (.ifCond .ne 5, 3) := by decide +kernel
theorem dX6_readLoop_88 : decode cX6_readLoop 88 = .ok (.iconst 0, 1) := by decide +kernel
theorem dX6_readLoop_89 : decode cX6_readLoop 89 = .ok (.ireturn, 1) := by decide +kernel
theorem dX6_readLoop_90 : decode cX6_readLoop 90 = .ok (.aload_n 0, 1) := by decide +kernel
theorem dX6_readLoop_91 : decode cX6_readLoop 91 = .ok (.getfield 87, 3) := by decide +kernel
theorem dX6_readLoop_94 : decode cX6_readLoop 94 = .ok (.bipush 14, 2) := by decide +kernel
theorem dX6_readLoop_96 : decode cX6_readLoop 96 = .ok (.dup2, 1) := by decide +kernel
theorem dX6_readLoop_97 : decode cX6_readLoop 97 = .ok (.iaload, 1) := by decide +kernel
theorem dX6_readLoop_98 : decode cX6_readLoop 98 = .ok (.iconst 1, 1) := by decide +kernel
theorem dX6_readLoop_99 : decode cX6_readLoop 99 = .ok (.iadd, 1) := by decide +kernel
theorem dX6_readLoop_100 : decode cX6_readLoop 100 = .ok (.iastore, 1) := by decide +kernel
theorem dX6_readLoop_101 : decode cX6_readLoop 101 = .ok (.iconst 1, 1) := by decide +kernel
theorem dX6_readLoop_102 : decode cX6_readLoop 102 = .ok (.ireturn, 1) := by decide +kernel
theorem dX6_readRun_0 : decode cX6_readRun 0 = .ok (.aload_n 0, 1) := by decide +kernel
theorem dX6_readRun_1 : decode cX6_readRun 1 = .ok (.getfield 87, 3) := by decide +kernel
theorem dX6_readRun_4 : decode cX6_readRun 4 = .ok (.bipush 35, 2) := by decide +kernel
theorem dX6_readRun_6 : decode cX6_readRun 6 = .ok (.iaload, 1) := by decide +kernel
theorem dX6_readRun_7 : decode cX6_readRun 7 = .ok (.bipush 6, 2) := by decide +kernel
theorem dX6_readRun_9 : decode cX6_readRun 9 = .ok (.if_icmp .ne 9, 3) := by decide +kernel
theorem dX6_readRun_12 : decode cX6_readRun 12 = .ok (.aload_n 0, 1) := by decide +kernel
theorem dX6_readRun_13 : decode cX6_readRun 13 = .ok (.iconst 3, 1) := by decide +kernel
theorem dX6_readRun_14 : decode cX6_readRun 14 = .ok (.invokevirtual 111, 3) := by decide +kernel
theorem dX6_readRun_17 : decode cX6_readRun 17 = .ok (.ireturn, 1) := by decide +kernel
theorem dX6_readRun_18 : decode cX6_readRun 18 = .ok (.aload_n 0, 1) := by decide +kernel
theorem dX6_readRun_19 : decode cX6_readRun 19 = .ok (.invokevirtual 118, 3) := by decide +kernel
theorem dX6_readRun_22 : decode cX6_readRun 22 = .ok (.bipush 36, 2) := by decide +kernel
theorem dX6_readRun_24 : decode cX6_readRun 24 = .ok (.iconst 2, 1) := by decide +kernel
theorem dX6_readRun_25 : decode cX6_readRun 25 = .ok (.aload_n 0, 1) := by decide +kernel
theorem dX6_readRun_26 : decode cX6_readRun 26 = .ok (.getfield 87, 3) := by decide +kernel
theorem dX6_readRun_29 : decode cX6_readRun 29 = .ok (.bipush 35, 2) := by decide +kernel
theorem dX6_readRun_31 : decode cX6_readRun 31 = .ok (.iaload, 1) := by decide +kernel
theorem dX6_readRun_32 : decode cX6_readRun 32 = .ok (.imul, 1) := by decide +kernel
theorem dX6_readRun_33 : decode cX6_readRun 33 = .ok (.iadd, 1) := by decide +kernel
theorem dX6_readRun_34 : decode cX6_readRun 34 = .ok (.istore_n 1, 1) := by decide +kernel
theorem dX6_readRun_35 : decode cX6_readRun 35 = .ok (.aload_n 0, 1) := by decide +kernel
theorem dX6_readRun_36 : decode cX6_readRun 36 = .ok (.iload_n 1, 1) := by decide +kernel
theorem dX6_readRun_37 : decode cX6_readRun 37 = .ok (.iconst 0, 1) := by decide +kernel
theorem dX6_readRun_38 : decode cX6_readRun 38 = .ok (.iconst 3, 1) := by decide +kernel
theorem dX6_readRun_39 : decode cX6_readRun 39 = .ok (.invokevirtual 121, 3) := by decide +kernel
theorem dX6_readRun_42 : decode cX6_readRun 42 = .ok (.ifCond .eq 16, 3) := by decide +kernel
theorem dX6_readRun_45 : decode cX6_readRun 45 = .ok (.aload_n 0, 1) := by decide +kernel
theorem dX6_readRun_46 : decode cX6_readRun 46 = .ok (.iload_n 1, 1) := by decide +kernel
theorem dX6_readRun_47 : decode cX6_readRun 47 = .ok (.iconst 1, 1) := by decide +kernel
theorem dX6_readRun_48 : decode cX6_readRun 48 = .ok (.iadd, 1) := by decide +kernel
theorem dX6_readRun_49 : decode cX6_readRun 49 = .ok (.iconst 1, 1) := by decide +kernel
theorem dX6_readRun_50 : decode cX6_readRun 50 = .ok (.bipush 20, 2) := by decide +kernel
theorem dX6_readRun_52 : decode cX6_readRun 52 = .ok (.invokevirtual 121, 3) := by decide +kernel
theorem dX6_readRun_55 : decode cX6_readRun 55 = .ok (.ifCond .ne 5, 3) := by decide +kernel
theorem dX6_readRun_58 : decode cX6_readRun 58 = .ok (.iconst 0, 1) := by decide +kernel
theorem dX6_readRun_59 : decode cX6_readRun 59 = .ok (.ireturn, 1) := by decide +kernel
theorem dX6_readRun_60 : decode cX6_readRun 60 = .ok (.aload_n 0, 1) := by decide +kernel
theorem dX6_readRun_61 : decode cX6_readRun 61 = .ok (.getfield 87, 3) := by decide +kernel
theorem dX6_readRun_64 : decode cX6_readRun 64 = .ok (.bipush 35, 2) := by decide +kernel
theorem dX6_readRun_66 : decode cX6_readRun 66 = .ok (.dup2, 1) := by decide +kernel
theorem dX6_readRun_67 : decode cX6_readRun 67 = .ok (.iaload, 1) := by decide +kernel
theorem dX6_readRun_68 : decode cX6_readRun 68 = .ok (.iconst 1, 1) := by decide +kernel
theorem dX6_readRun_69 : decode cX6_readRun 69 = .ok (.iadd, 1) := by decide +kernel
theorem dX6_readRun_70 : decode cX6_readRun 70 = .ok (.iastore, 1) := by decide +kernel
theorem dX6_readRun_71 : decode cX6_readRun 71 = .ok (.iconst 1, 1) := by decide +kernel
theorem dX6_readRun_72 : decode cX6_readRun 72 = .ok (.ireturn, 1) := by decide +kernel
theorem dX6_readLine_0 : decode cX6_readLine 0 = .ok (.aload_n 0, 1) := by decide +kernel
theorem dX6_readLine_1 : decode cX6_readLine 1 = .ok (.getfield 87, 3) := by decide +kernel
theorem dX6_readLine_4 : decode cX6_readLine 4 = .ok (.iconst 0, 1) := by decide +kernel
theorem dX6_readLine_5 : decode cX6_readLine 5 = .ok (.iaload, 1) := by decide +kernel
theorem dX6_readLine_6 : decode cX6_readLine 6 = .ok (.ifCond .ne 23, 3) := by decide +kernel
theorem dX6_readLine_9 : decode cX6_readLine 9 = .ok (.aload_n 0, 1) := by decide +kernel
theorem dX6_readLine_10 : decode cX6_readLine 10 = .ok (.invokevirtual 124, 3) := by decide +kernel
theorem dX6_readLine_13 : decode cX6_readLine 13 = .ok (.ifCond .eq 10, 3) := by decide +kernel
theorem dX6_readLine_16 : decode cX6_readLine 16 = .ok (.aload_n 0, 1) := by decide +kernel
theorem dX6_readLine_17 : decode cX6_readLine 17 = .ok (.invokevirtual 128, 3) := by decide +kernel
theorem dX6_readLine_20 : decode cX6_readLine 20 = .ok (.goto 8, 3) := by decide +kernel
theorem dX6_readLine_23 : decode cX6_readLine 23 = .ok (.aload_n 0, 1) := by decide +kernel
theorem dX6_readLine_24 : decode cX6_readLine 24 = .ok (.iconst 1, 1) := by decide +kernel
theorem dX6_readLine_25 : decode cX6_readLine 25 = .ok (.invokevirtual 111, 3) := by decide +kernel
theorem dX6_readLine_28 : decode cX6_readLine 28 = .ok (.ireturn, 1) := by decide +kernel
theorem dX6_readLine_29 : decode cX6_readLine 29 = .ok (.aload_n 0, 1) := by decide +kernel
theorem dX6_readLine_30 : decode cX6_readLine 30 = .ok (.invokevirtual 131, 3) := by decide +kernel
theorem dX6_readLine_33 : decode cX6_readLine 33 = .ok (.ifCond .eq 8, 3) := by decide +kernel
theorem dX6_readLine_36 : decode cX6_readLine 36 = .ok (.aload_n 0, 1) := by decide +kernel
theorem dX6_readLine_37 : decode cX6_readLine 37 = .ok (.invokevirtual 134, 3) := by decide +kernel
theorem dX6_readLine_40 : decode cX6_readLine 40 = .ok (.ireturn, 1) := by decide +kernel
theorem dX6_readLine_41 : decode cX6_readLine 41 = .ok (.aload_n 0, 1) := by decide +kernel
theorem dX6_readLine_42 : decode cX6_readLine 42 = .ok (.bipush 108, 2) := by decide +kernel
theorem dX6_readLine_44 : decode cX6_readLine 44 = .ok (.bipush 111, 2) := by decide +kernel
theorem dX6_readLine_46 : decode cX6_readLine 46 = .ok (.bipush 111, 2) := by decide +kernel
theorem dX6_readLine_48 : decode cX6_readLine 48 = .ok (.bipush 112, 2) := by decide +kernel
theorem dX6_readLine_50 : decode cX6_readLine 50 = .ok (.invokestatic 56, 3) := by decide +kernel
theorem dX6_readLine_53 : decode cX6_readLine 53 = .ok (.invokevirtual 62, 3) := by decide +kernel
theorem dX6_readLine_56 : decode cX6_readLine 56 = .ok (.ifCond .eq 8, 3) := by decide +kernel
theorem dX6_readLine_59 : decode cX6_readLine 59 = .ok (.aload_n 0, 1) := by decide +kernel
theorem dX6_readLine_60 : decode cX6_readLine 60 = .ok (.invokevirtual 137, 3) := by decide +kernel
theorem dX6_readLine_63 : decode cX6_readLine 63 = .ok (.ireturn, 1) := by decide +kernel
theorem dX6_readLine_64 : decode cX6_readLine 64 = .ok (.aload_n 0, 1) := by decide +kernel
theorem dX6_readLine_65 : decode cX6_readLine 65 = .ok (.ldc2_w 140, 3) := by decide +kernel
theorem dX6_readLine_68 : decode cX6_readLine 68 = .ok (.invokevirtual 62, 3) := by decide +kernel
theorem dX6_readLine_71 : decode cX6_readLine 71 = .ok (.ifCond .eq 10, 3) := by decide +kernel
theorem dX6_readLine_74 : decode cX6_readLine 74 = .ok (.aload_n 0, 1) := by decide +kernel
theorem dX6_readLine_75 : decode cX6_readLine 75 = .ok (.invokevirtual 142, 3) := by decide +kernel
theorem dX6_readLine_78 : decode cX6_readLine 78 = .ok (.goto 8, 3) := by decide +kernel
theorem dX6_readLine_81 : decode cX6_readLine 81 = .ok (.aload_n 0, 1) := by decide +kernel
theorem dX6_readLine_82 : decode cX6_readLine 82 = .ok (.iconst 1, 1) := by decide +kernel
theorem dX6_readLine_83 : decode cX6_readLine 83 = .ok (.invokevirtual 111, 3) := by decide +kernel
theorem dX6_readLine_86 : decode cX6_readLine 86 = .ok (.ireturn, 1) := by decide +kernel
theorem dX6_readEnd_0 : decode cX6_readEnd 0 = .ok (.aload_n 0, 1) := by decide +kernel
theorem dX6_readEnd_1 : decode cX6_readEnd 1 = .ok (.getfield 31, 3) := by decide +kernel
theorem dX6_readEnd_4 : decode cX6_readEnd 4 = .ok (.iconst 4, 1) := by decide +kernel
theorem dX6_readEnd_5 : decode cX6_readEnd 5 = .ok (.if_icmp .eq 9, 3) := by decide +kernel
theorem dX6_readEnd_8 : decode cX6_readEnd 8 = .ok (.aload_n 0, 1) := by decide +kernel
theorem dX6_readEnd_9 : decode cX6_readEnd 9 = .ok (.iconst 1, 1) := by decide +kernel
theorem dX6_readEnd_10 : decode cX6_readEnd 10 = .ok (.invokevirtual 111, 3) := by decide +kernel
theorem dX6_readEnd_13 : decode cX6_readEnd 13 = .ok (.ireturn, 1) := by decide +kernel
theorem dX6_readEnd_14 : decode cX6_readEnd 14 = .ok (.aload_n 0, 1) := by decide +kernel
theorem dX6_readEnd_15 : decode cX6_readEnd 15 = .ok (.invokevirtual 118, 3) := by decide +kernel
theorem dX6_readEnd_18 : decode cX6_readEnd 18 = .ok (.iconst 1, 1) := by decide +kernel
theorem dX6_readEnd_19 : decode cX6_readEnd 19 = .ok (.ireturn, 1) := by decide +kernel
theorem dX6_text_0 : decode cX6_text 0 = .ok (.aload_n 0, 1) := by decide +kernel
theorem dX6_text_1 : decode cX6_text 1 = .ok (.iconst 0, 1) := by decide +kernel
theorem dX6_text_2 : decode cX6_text 2 = .ok (.putfield 1, 3) := by decide +kernel
theorem dX6_text_5 : decode cX6_text 5 = .ok (.aload_n 0, 1) := by decide +kernel
theorem dX6_text_6 : decode cX6_text 6 = .ok (.aload_n 0, 1) := by decide +kernel
theorem dX6_text_7 : decode cX6_text 7 = .ok (.getfield 15, 3) := by decide +kernel
theorem dX6_text_10 : decode cX6_text 10 = .ok (.putfield 22, 3) := by decide +kernel
theorem dX6_text_13 : decode cX6_text 13 = .ok (.aload_n 0, 1) := by decide +kernel
theorem dX6_text_14 : decode cX6_text 14 = .ok (.iconst 0, 1) := by decide +kernel
theorem dX6_text_15 : decode cX6_text 15 = .ok (.putfield 15, 3) := by decide +kernel
theorem dX6_text_18 : decode cX6_text 18 = .ok (.aload_n 0, 1) := by decide +kernel
theorem dX6_text_19 : decode cX6_text 19 = .ok (.iconst 0, 1) := by decide +kernel
theorem dX6_text_20 : decode cX6_text 20 = .ok (.putfield 72, 3) := by decide +kernel
theorem dX6_text_23 : decode cX6_text 23 = .ok (.aload_n 0, 1) := by decide +kernel
theorem dX6_text_24 : decode cX6_text 24 = .ok (.iconst 0, 1) := by decide +kernel
theorem dX6_text_25 : decode cX6_text 25 = .ok (.putfield 25, 3) := by decide +kernel
theorem dX6_text_28 : decode cX6_text 28 = .ok (.iconst 0, 1) := by decide +kernel
theorem dX6_text_29 : decode cX6_text 29 = .ok (.istore_n 1, 1) := by decide +kernel
theorem dX6_text_30 : decode cX6_text 30 = .ok (.iconst 0, 1) := by decide +kernel
theorem dX6_text_31 : decode cX6_text 31 = .ok (.istore_n 2, 1) := by decide +kernel
theorem dX6_text_32 : decode cX6_text 32 = .ok (.iload_n 2, 1) := by decide +kernel
theorem dX6_text_33 : decode cX6_text 33 = .ok (.sipush 353, 3) := by decide +kernel
theorem dX6_text_36 : decode cX6_text 36 = .ok (.if_icmp .ge 16, 3) := by decide +kernel
theorem dX6_text_39 : decode cX6_text 39 = .ok (.aload_n 0, 1) := by decide +kernel
theorem dX6_text_40 : decode cX6_text 40 = .ok (.getfield 87, 3) := by decide +kernel
theorem dX6_text_43 : decode cX6_text 43 = .ok (.iload_n 2, 1) := by decide +kernel
theorem dX6_text_44 : decode cX6_text 44 = .ok (.iconst 0, 1) := by decide +kernel
theorem dX6_text_45 : decode cX6_text 45 = .ok (.iastore, 1) := by decide +kernel
theorem dX6_text_46 : decode cX6_text 46 = .ok (.iinc 2 1, 3) := by decide +kernel
theorem dX6_text_49 : decode cX6_text 49 = .ok (.goto (-17), 3) := by decide +kernel
theorem dX6_text_52 : decode cX6_text 52 = .ok (.aload_n 0, 1) := by decide +kernel
theorem dX6_text_53 : decode cX6_text 53 = .ok (.invokevirtual 118, 3) := by decide +kernel
theorem dX6_text_56 : decode cX6_text 56 = .ok (.aload_n 0, 1) := by decide +kernel
theorem dX6_text_57 : decode cX6_text 57 = .ok (.getfield 31, 3) := by decide +kernel
theorem dX6_text_60 : decode cX6_text 60 = .ok (.ifCond .eq 30, 3) := by decide +kernel
theorem dX6_text_63 : decode cX6_text 63 = .ok (.aload_n 0, 1) := by decide +kernel
theorem dX6_text_64 : decode cX6_text 64 = .ok (.invokevirtual 145, 3) := by decide +kernel
theorem dX6_text_67 : decode cX6_text 67 = .ok (.ifCond .eq 10, 3) := by decide +kernel
theorem dX6_text_70 : decode cX6_text 70 = .ok (.aload_n 0, 1) := by decide +kernel
theorem dX6_text_71 : decode cX6_text 71 = .ok (.invokevirtual 148, 3) := by decide +kernel
theorem dX6_text_74 : decode cX6_text 74 = .ok (.ifCond .ne 10, 3) := by decide +kernel
theorem dX6_text_77 : decode cX6_text 77 = .ok (.iconst (-1), 1) := by decide +kernel
theorem dX6_text_78 : decode cX6_text 78 = .ok (.aload_n 0, 1) := by decide +kernel
theorem dX6_text_79 : decode cX6_text 79 = .ok (.getfield 75, 3) := by decide +kernel
theorem dX6_text_82 : decode cX6_text 82 = .ok (.isub, 1) := by decide +kernel
theorem dX6_text_83 : decode cX6_text 83 = .ok (.ireturn, 1) := by decide +kernel
theorem dX6_text_84 : decode cX6_text 84 = .ok (.iinc 1 1, 3) := by decide +kernel
theorem dX6_text_87 : decode cX6_text 87 = .ok (.goto (-31), 3) := by decide +kernel
theorem dX6_text_90 : decode cX6_text 90 = .ok (.iload_n 1, 1) := by decide +kernel
theorem dX6_text_91 : decode cX6_text 91 = .ok (.ifCond .le 25, 3) := by decide +kernel
theorem dX6_text_94 : decode cX6_text 94 = .ok (.aload_n 0, 1) := by decide +kernel
theorem dX6_text_95 : decode cX6_text 95 = .ok (.getfield 87, 3) := by decide +kernel
theorem dX6_text_98 : decode cX6_text 98 = .ok (.iconst 1, 1) := by decide +kernel
theorem dX6_text_99 : decode cX6_text 99 = .ok (.iaload, 1) := by decide +kernel
theorem dX6_text_100 : decode cX6_text 100 = .ok (.ifCond .ne 16, 3) := by decide +kernel
theorem dX6_text_103 : decode cX6_text 103 = .ok (.aload_n 0, 1) := by decide +kernel
theorem dX6_text_104 : decode cX6_text 104 = .ok (.iconst 1, 1) := by decide +kernel
theorem dX6_text_105 : decode cX6_text 105 = .ok (.invokevirtual 111, 3) := by decide +kernel
theorem dX6_text_108 : decode cX6_text 108 = .ok (.pop, 1) := by decide +kernel
theorem dX6_text_109 : decode cX6_text 109 = .ok (.iconst (-1), 1) := by decide +kernel
theorem dX6_text_110 : decode cX6_text 110 = .ok (.aload_n 0, 1) := by decide +kernel
theorem dX6_text_111 : decode cX6_text 111 = .ok (.getfield 75, 3) := by decide +kernel
theorem dX6_text_114 : decode cX6_text 114 = .ok (.isub, 1) := by decide +kernel
theorem dX6_text_115 : decode cX6_text 115 = .ok (.ireturn, 1) := by decide +kernel
theorem dX6_text_116 : decode cX6_text 116 = .ok (.aload_n 0, 1) := by decide +kernel
theorem dX6_text_117 : decode cX6_text 117 = .ok (.getfield 87, 3) := by decide +kernel
theorem dX6_text_120 : decode cX6_text 120 = .ok (.bipush 16, 2) := by decide +kernel
theorem dX6_text_122 : decode cX6_text 122 = .ok (.aload_n 0, 1) := by decide +kernel
theorem dX6_text_123 : decode cX6_text 123 = .ok (.getfield 87, 3) := by decide +kernel
theorem dX6_text_126 : decode cX6_text 126 = .ok (.iconst 1, 1) := by decide +kernel
theorem dX6_text_127 : decode cX6_text 127 = .ok (.iaload, 1) := by decide +kernel
theorem dX6_text_128 : decode cX6_text 128 = .ok (.iconst 1, 1) := by decide +kernel
theorem dX6_text_129 : decode cX6_text 129 = .ok (.isub, 1) := by decide +kernel
theorem dX6_text_130 : decode cX6_text 130 = .ok (.iastore, 1) := by decide +kernel
theorem dX6_text_131 : decode cX6_text 131 = .ok (.aload_n 0, 1) := by decide +kernel
theorem dX6_text_132 : decode cX6_text 132 = .ok (.getfield 87, 3) := by decide +kernel
theorem dX6_text_135 : decode cX6_text 135 = .ok (.invokestatic 151, 3) := by decide +kernel
theorem dX6_text_138 : decode cX6_text 138 = .ok (.aload_n 0, 1) := by decide +kernel
theorem dX6_text_139 : decode cX6_text 139 = .ok (.getfield 87, 3) := by decide +kernel
theorem dX6_text_142 : decode cX6_text 142 = .ok (.iconst 0, 1) := by decide +kernel
theorem dX6_text_143 : decode cX6_text 143 = .ok (.aload_n 0, 1) := by decide +kernel
theorem dX6_text_144 : decode cX6_text 144 = .ok (.getfield 84, 3) := by decide +kernel
theorem dX6_text_147 : decode cX6_text 147 = .ok (.iconst 0, 1) := by decide +kernel
theorem dX6_text_148 : decode cX6_text 148 = .ok (.invokestatic 154, 3) := by decide +kernel
theorem dX6_text_151 : decode cX6_text 151 = .ok (.aload_n 0, 1) := by decide +kernel
theorem dX6_text_152 : decode cX6_text 152 = .ok (.iconst 0, 1) := by decide +kernel
theorem dX6_text_153 : decode cX6_text 153 = .ok (.putfield 158, 3) := by decide +kernel
theorem dX6_text_156 : decode cX6_text 156 = .ok (.iload_n 1, 1) := by decide +kernel
theorem dX6_text_157 : decode cX6_text 157 = .ok (.ireturn, 1) := by decide +kernel
theorem dX6_fault_0 : decode cX6_fault 0 = .ok (.aload_n 0, 1) := by decide +kernel
theorem dX6_fault_1 : decode cX6_fault 1 = .ok (.iconst 0, 1) := by decide +kernel
theorem dX6_fault_2 : decode cX6_fault 2 = .ok (.putfield 1, 3) := by decide +kernel
theorem dX6_fault_5 : decode cX6_fault 5 = .ok (.aload_n 0, 1) := by decide +kernel
theorem dX6_fault_6 : decode cX6_fault 6 = .ok (.getfield 72, 3) := by decide +kernel
theorem dX6_fault_9 : decode cX6_fault 9 = .ok (.ireturn, 1) := by decide +kernel
theorem dX6_perRound_0 : decode cX6_perRound 0 = .ok (.iconst 0, 1) := by decide +kernel
theorem dX6_perRound_1 : decode cX6_perRound 1 = .ok (.istore_n 1, 1) := by decide +kernel
theorem dX6_perRound_2 : decode cX6_perRound 2 = .ok (.iconst 0, 1) := by decide +kernel
theorem dX6_perRound_3 : decode cX6_perRound 3 = .ok (.istore_n 2, 1) := by decide +kernel
theorem dX6_perRound_4 : decode cX6_perRound 4 = .ok (.iload_n 2, 1) := by decide +kernel
theorem dX6_perRound_5 : decode cX6_perRound 5 = .ok (.aload_n 0, 1) := by decide +kernel
theorem dX6_perRound_6 : decode cX6_perRound 6 = .ok (.bipush 35, 2) := by decide +kernel
theorem dX6_perRound_8 : decode cX6_perRound 8 = .ok (.iaload, 1) := by decide +kernel
theorem dX6_perRound_9 : decode cX6_perRound 9 = .ok (.if_icmp .ge 22, 3) := by decide +kernel
theorem dX6_perRound_12 : decode cX6_perRound 12 = .ok (.iload_n 1, 1) := by decide +kernel
theorem dX6_perRound_13 : decode cX6_perRound 13 = .ok (.aload_n 0, 1) := by decide +kernel
theorem dX6_perRound_14 : decode cX6_perRound 14 = .ok (.bipush 36, 2) := by decide +kernel
theorem dX6_perRound_16 : decode cX6_perRound 16 = .ok (.iconst 2, 1) := by decide +kernel
theorem dX6_perRound_17 : decode cX6_perRound 17 = .ok (.iload_n 2, 1) := by decide +kernel
theorem dX6_perRound_18 : decode cX6_perRound 18 = .ok (.imul, 1) := by decide +kernel
theorem dX6_perRound_19 : decode cX6_perRound 19 = .ok (.iadd, 1) := by decide +kernel
theorem dX6_perRound_20 : decode cX6_perRound 20 = .ok (.iconst 1, 1) := by decide +kernel
theorem dX6_perRound_21 : decode cX6_perRound 21 = .ok (.iadd, 1) := by decide +kernel
theorem dX6_perRound_22 : decode cX6_perRound 22 = .ok (.iaload, 1) := by decide +kernel
theorem dX6_perRound_23 : decode cX6_perRound 23 = .ok (.iadd, 1) := by decide +kernel
theorem dX6_perRound_24 : decode cX6_perRound 24 = .ok (.istore_n 1, 1) := by decide +kernel
theorem dX6_perRound_25 : decode cX6_perRound 25 = .ok (.iinc 2 1, 3) := by decide +kernel
theorem dX6_perRound_28 : decode cX6_perRound 28 = .ok (.goto (-24), 3) := by decide +kernel
theorem dX6_perRound_31 : decode cX6_perRound 31 = .ok (.iload_n 1, 1) := by decide +kernel
theorem dX6_perRound_32 : decode cX6_perRound 32 = .ok (.ireturn, 1) := by decide +kernel
theorem dX6_kindOf_0 : decode cX6_kindOf 0 = .ok (.aload_n 0, 1) := by decide +kernel
theorem dX6_kindOf_1 : decode cX6_kindOf 1 = .ok (.bipush 35, 2) := by decide +kernel
theorem dX6_kindOf_3 : decode cX6_kindOf 3 = .ok (.iaload, 1) := by decide +kernel
theorem dX6_kindOf_4 : decode cX6_kindOf 4 = .ok (.ifCond .ne 5, 3) := by decide +kernel
theorem dX6_kindOf_7 : decode cX6_kindOf 7 = .ok (.iconst 0, 1) := by decide +kernel
theorem dX6_kindOf_8 : decode cX6_kindOf 8 = .ok (.ireturn, 1) := by decide +kernel
theorem dX6_kindOf_9 : decode cX6_kindOf 9 = .ok (.iload_n 1, 1) := by decide +kernel
theorem dX6_kindOf_10 : decode cX6_kindOf 10 = .ok (.aload_n 0, 1) := by decide +kernel
theorem dX6_kindOf_11 : decode cX6_kindOf 11 = .ok (.invokestatic 161, 3) := by decide +kernel
theorem dX6_kindOf_14 : decode cX6_kindOf 14 = .ok (.irem, 1) := by decide +kernel
theorem dX6_kindOf_15 : decode cX6_kindOf 15 = .ok (.istore_n 2, 1) := by decide +kernel
theorem dX6_kindOf_16 : decode cX6_kindOf 16 = .ok (.iconst 0, 1) := by decide +kernel
theorem dX6_kindOf_17 : decode cX6_kindOf 17 = .ok (.istore_n 3, 1) := by decide +kernel
theorem dX6_kindOf_18 : decode cX6_kindOf 18 = .ok (.iload_n 2, 1) := by decide +kernel
theorem dX6_kindOf_19 : decode cX6_kindOf 19 = .ok (.aload_n 0, 1) := by decide +kernel
theorem dX6_kindOf_20 : decode cX6_kindOf 20 = .ok (.bipush 36, 2) := by decide +kernel
theorem dX6_kindOf_22 : decode cX6_kindOf 22 = .ok (.iconst 2, 1) := by decide +kernel
theorem dX6_kindOf_23 : decode cX6_kindOf 23 = .ok (.iload_n 3, 1) := by decide +kernel
theorem dX6_kindOf_24 : decode cX6_kindOf 24 = .ok (.imul, 1) := by decide +kernel
theorem dX6_kindOf_25 : decode cX6_kindOf 25 = .ok (.iadd, 1) := by decide +kernel
theorem dX6_kindOf_26 : decode cX6_kindOf 26 = .ok (.iconst 1, 1) := by decide +kernel
theorem dX6_kindOf_27 : decode cX6_kindOf 27 = .ok (.iadd, 1) := by decide +kernel
theorem dX6_kindOf_28 : decode cX6_kindOf 28 = .ok (.iaload, 1) := by decide +kernel
theorem dX6_kindOf_29 : decode cX6_kindOf 29 = .ok (.if_icmp .lt 22, 3) := by decide +kernel
theorem dX6_kindOf_32 : decode cX6_kindOf 32 = .ok (.iload_n 2, 1) := by decide +kernel
theorem dX6_kindOf_33 : decode cX6_kindOf 33 = .ok (.aload_n 0, 1) := by decide +kernel
theorem dX6_kindOf_34 : decode cX6_kindOf 34 = .ok (.bipush 36, 2) := by decide +kernel
theorem dX6_kindOf_36 : decode cX6_kindOf 36 = .ok (.iconst 2, 1) := by decide +kernel
theorem dX6_kindOf_37 : decode cX6_kindOf 37 = .ok (.iload_n 3, 1) := by decide +kernel
theorem dX6_kindOf_38 : decode cX6_kindOf 38 = .ok (.imul, 1) := by decide +kernel
theorem dX6_kindOf_39 : decode cX6_kindOf 39 = .ok (.iadd, 1) := by decide +kernel
theorem dX6_kindOf_40 : decode cX6_kindOf 40 = .ok (.iconst 1, 1) := by decide +kernel
theorem dX6_kindOf_41 : decode cX6_kindOf 41 = .ok (.iadd, 1) := by decide +kernel
theorem dX6_kindOf_42 : decode cX6_kindOf 42 = .ok (.iaload, 1) := by decide +kernel
theorem dX6_kindOf_43 : decode cX6_kindOf 43 = .ok (.isub, 1) := by decide +kernel
theorem dX6_kindOf_44 : decode cX6_kindOf 44 = .ok (.istore_n 2, 1) := by decide +kernel
theorem dX6_kindOf_45 : decode cX6_kindOf 45 = .ok (.iinc 3 1, 3) := by decide +kernel
theorem dX6_kindOf_48 : decode cX6_kindOf 48 = .ok (.goto (-30), 3) := by decide +kernel
theorem dX6_kindOf_51 : decode cX6_kindOf 51 = .ok (.aload_n 0, 1) := by decide +kernel
theorem dX6_kindOf_52 : decode cX6_kindOf 52 = .ok (.bipush 36, 2) := by decide +kernel
theorem dX6_kindOf_54 : decode cX6_kindOf 54 = .ok (.iconst 2, 1) := by decide +kernel
theorem dX6_kindOf_55 : decode cX6_kindOf 55 = .ok (.iload_n 3, 1) := by decide +kernel
theorem dX6_kindOf_56 : decode cX6_kindOf 56 = .ok (.imul, 1) := by decide +kernel
theorem dX6_kindOf_57 : decode cX6_kindOf 57 = .ok (.iadd, 1) := by decide +kernel
theorem dX6_kindOf_58 : decode cX6_kindOf 58 = .ok (.iaload, 1) := by decide +kernel
theorem dX6_kindOf_59 : decode cX6_kindOf 59 = .ok (.ireturn, 1) := by decide +kernel
theorem dX6_its_0 : decode cX6_its 0 = .ok (.aload_n 0, 1) := by decide +kernel
theorem dX6_its_1 : decode cX6_its 1 = .ok (.bipush 53, 2) := by decide +kernel
theorem dX6_its_3 : decode cX6_its 3 = .ok (.bipush 9, 2) := by decide +kernel
theorem dX6_its_5 : decode cX6_its 5 = .ok (.iload_n 1, 1) := by decide +kernel
theorem dX6_its_6 : decode cX6_its 6 = .ok (.imul, 1) := by decide +kernel
theorem dX6_its_7 : decode cX6_its 7 = .ok (.iadd, 1) := by decide +kernel
theorem dX6_its_8 : decode cX6_its 8 = .ok (.iload_n 2, 1) := by decide +kernel
theorem dX6_its_9 : decode cX6_its 9 = .ok (.iadd, 1) := by decide +kernel
theorem dX6_its_10 : decode cX6_its 10 = .ok (.iaload, 1) := by decide +kernel
theorem dX6_its_11 : decode cX6_its 11 = .ok (.ireturn, 1) := by decide +kernel
theorem dX6_isIdle_0 : decode cX6_isIdle 0 = .ok (.aload_n 0, 1) := by decide +kernel
theorem dX6_isIdle_1 : decode cX6_isIdle 1 = .ok (.iload_n 1, 1) := by decide +kernel
theorem dX6_isIdle_2 : decode cX6_isIdle 2 = .ok (.iconst 0, 1) := by decide +kernel
theorem dX6_isIdle_3 : decode cX6_isIdle 3 = .ok (.invokestatic 165, 3) := by decide +kernel
theorem dX6_isIdle_6 : decode cX6_isIdle 6 = .ok (.iconst (-1), 1) := by decide +kernel
theorem dX6_isIdle_7 : decode cX6_isIdle 7 = .ok (.if_icmp .ne 7, 3) := by decide +kernel
theorem dX6_isIdle_10 : decode cX6_isIdle 10 = .ok (.iconst 1, 1) := by decide +kernel
theorem dX6_isIdle_11 : decode cX6_isIdle 11 = .ok (.goto 4, 3) := by decide +kernel
theorem dX6_isIdle_14 : decode cX6_isIdle 14 = .ok (.iconst 0, 1) := by decide +kernel
theorem dX6_isIdle_15 : decode cX6_isIdle 15 = .ok (.ireturn, 1) := by decide +kernel
theorem dX6_waiting_0 : decode cX6_waiting 0 = .ok (.aload_n 0, 1) := by decide +kernel
theorem dX6_waiting_1 : decode cX6_waiting 1 = .ok (.bipush 107, 2) := by decide +kernel
theorem dX6_waiting_3 : decode cX6_waiting 3 = .ok (.bipush 41, 2) := by decide +kernel
theorem dX6_waiting_5 : decode cX6_waiting 5 = .ok (.iload_n 1, 1) := by decide +kernel
theorem dX6_waiting_6 : decode cX6_waiting 6 = .ok (.imul, 1) := by decide +kernel
theorem dX6_waiting_7 : decode cX6_waiting 7 = .ok (.iadd, 1) := by decide +kernel
theorem dX6_waiting_8 : decode cX6_waiting 8 = .ok (.iaload, 1) := by decide +kernel
theorem dX6_waiting_9 : decode cX6_waiting 9 = .ok (.ireturn, 1) := by decide +kernel
theorem dX6_goesOn_0 : decode cX6_goesOn 0 = .ok (.aload_n 0, 1) := by decide +kernel
theorem dX6_goesOn_1 : decode cX6_goesOn 1 = .ok (.iload_n 1, 1) := by decide +kernel
theorem dX6_goesOn_2 : decode cX6_goesOn 2 = .ok (.iconst 0, 1) := by decide +kernel
theorem dX6_goesOn_3 : decode cX6_goesOn 3 = .ok (.invokestatic 165, 3) := by decide +kernel
theorem dX6_goesOn_6 : decode cX6_goesOn 6 = .ok (.istore_n 2, 1) := by decide +kernel
theorem dX6_goesOn_7 : decode cX6_goesOn 7 = .ok (.aload_n 0, 1) := by decide +kernel
theorem dX6_goesOn_8 : decode cX6_goesOn 8 = .ok (.iload_n 1, 1) := by decide +kernel
theorem dX6_goesOn_9 : decode cX6_goesOn 9 = .ok (.iconst 4, 1) := by decide +kernel
theorem dX6_goesOn_10 : decode cX6_goesOn 10 = .ok (.invokestatic 165, 3) := by decide +kernel
theorem dX6_goesOn_13 : decode cX6_goesOn 13 = .ok (.istore_n 3, 1) := by decide +kernel
theorem dX6_goesOn_14 : decode cX6_goesOn 14 = .ok (.aload_n 0, 1) := by decide +kernel
theorem dX6_goesOn_15 : decode cX6_goesOn 15 = .ok (.bipush 53, 2) := by decide +kernel
theorem dX6_goesOn_17 : decode cX6_goesOn 17 = .ok (.bipush 9, 2) := by decide +kernel
theorem dX6_goesOn_19 : decode cX6_goesOn 19 = .ok (.iload_n 1, 1) := by decide +kernel
theorem dX6_goesOn_20 : decode cX6_goesOn 20 = .ok (.imul, 1) := by decide +kernel
theorem dX6_goesOn_21 : decode cX6_goesOn 21 = .ok (.iadd, 1) := by decide +kernel
theorem dX6_goesOn_22 : decode cX6_goesOn 22 = .ok (.iconst 1, 1) := by decide +kernel
theorem dX6_goesOn_23 : decode cX6_goesOn 23 = .ok (.iadd, 1) := by decide +kernel
theorem dX6_goesOn_24 : decode cX6_goesOn 24 = .ok (.iload_n 2, 1) := by decide +kernel
theorem dX6_goesOn_25 : decode cX6_goesOn 25 = .ok (.iastore, 1) := by decide +kernel
theorem dX6_goesOn_26 : decode cX6_goesOn 26 = .ok (.aload_n 0, 1) := by decide +kernel
theorem dX6_goesOn_27 : decode cX6_goesOn 27 = .ok (.bipush 53, 2) := by decide +kernel
theorem dX6_goesOn_29 : decode cX6_goesOn 29 = .ok (.bipush 9, 2) := by decide +kernel
theorem dX6_goesOn_31 : decode cX6_goesOn 31 = .ok (.iload_n 1, 1) := by decide +kernel
theorem dX6_goesOn_32 : decode cX6_goesOn 32 = .ok (.imul, 1) := by decide +kernel
theorem dX6_goesOn_33 : decode cX6_goesOn 33 = .ok (.iadd, 1) := by decide +kernel
theorem dX6_goesOn_34 : decode cX6_goesOn 34 = .ok (.iconst 0, 1) := by decide +kernel
theorem dX6_goesOn_35 : decode cX6_goesOn 35 = .ok (.iadd, 1) := by decide +kernel
theorem dX6_goesOn_36 : decode cX6_goesOn 36 = .ok (.iconst (-1), 1) := by decide +kernel
theorem dX6_goesOn_37 : decode cX6_goesOn 37 = .ok (.iastore, 1) := by decide +kernel
theorem dX6_goesOn_38 : decode cX6_goesOn 38 = .ok (.iconst 0, 1) := by decide +kernel
theorem dX6_goesOn_39 : decode cX6_goesOn 39 = .ok (.istore 4, 2) := by decide +kernel
theorem dX6_goesOn_41 : decode cX6_goesOn 41 = .ok (.iload 4, 2) := by decide +kernel
theorem dX6_goesOn_43 : decode cX6_goesOn 43 = .ok (.aload_n 0, 1) := by decide +kernel
theorem dX6_goesOn_44 : decode cX6_goesOn 44 = .ok (.bipush 14, 2) := by decide +kernel
theorem dX6_goesOn_46 : decode cX6_goesOn 46 = .ok (.iaload, 1) := by decide +kernel
theorem dX6_goesOn_47 : decode cX6_goesOn 47 = .ok (.if_icmp .ge 39, 3) := by decide +kernel
theorem dX6_goesOn_50 : decode cX6_goesOn 50 = .ok (.aload_n 0, 1) := by decide +kernel
theorem dX6_goesOn_51 : decode cX6_goesOn 51 = .ok (.bipush 15, 2) := by decide +kernel
theorem dX6_goesOn_53 : decode cX6_goesOn 53 = .ok (.iconst 4, 1) := by decide +kernel
theorem dX6_goesOn_54 : decode cX6_goesOn 54 = .ok (.iload 4, 2) := by decide +kernel
theorem dX6_goesOn_56 : decode cX6_goesOn 56 = .ok (.imul, 1) := by decide +kernel
theorem dX6_goesOn_57 : decode cX6_goesOn 57 = .ok (.iadd, 1) := by decide +kernel
theorem dX6_goesOn_58 : decode cX6_goesOn 58 = .ok (.iconst 1, 1) := by decide +kernel
theorem dX6_goesOn_59 : decode cX6_goesOn 59 = .ok (.iadd, 1) := by decide +kernel
theorem dX6_goesOn_60 : decode cX6_goesOn 60 = .ok (.iaload, 1) := by decide +kernel
theorem dX6_goesOn_61 : decode cX6_goesOn 61 = .ok (.iload_n 1, 1) := by decide +kernel
theorem dX6_goesOn_62 : decode cX6_goesOn 62 = .ok (.if_icmp .ne 18, 3) := by decide +kernel
theorem dX6_goesOn_65 : decode cX6_goesOn 65 = .ok (.aload_n 0, 1) := by decide +kernel
theorem dX6_goesOn_66 : decode cX6_goesOn 66 = .ok (.bipush 15, 2) := by decide +kernel
theorem dX6_goesOn_68 : decode cX6_goesOn 68 = .ok (.iconst 4, 1) := by decide +kernel
theorem dX6_goesOn_69 : decode cX6_goesOn 69 = .ok (.iload 4, 2) := by decide +kernel
theorem dX6_goesOn_71 : decode cX6_goesOn 71 = .ok (.imul, 1) := by decide +kernel
theorem dX6_goesOn_72 : decode cX6_goesOn 72 = .ok (.iadd, 1) := by decide +kernel
theorem dX6_goesOn_73 : decode cX6_goesOn 73 = .ok (.iconst 3, 1) := by decide +kernel
theorem dX6_goesOn_74 : decode cX6_goesOn 74 = .ok (.iadd, 1) := by decide +kernel
theorem dX6_goesOn_75 : decode cX6_goesOn 75 = .ok (.dup2, 1) := by decide +kernel
theorem dX6_goesOn_76 : decode cX6_goesOn 76 = .ok (.iaload, 1) := by decide +kernel
theorem dX6_goesOn_77 : decode cX6_goesOn 77 = .ok (.iconst 1, 1) := by decide +kernel
theorem dX6_goesOn_78 : decode cX6_goesOn 78 = .ok (.iadd, 1) := by decide +kernel
theorem dX6_goesOn_79 : decode cX6_goesOn 79 = .ok (.iastore, 1) := by decide +kernel
theorem dX6_goesOn_80 : decode cX6_goesOn 80 = .ok (.iinc 4 1, 3) := by decide +kernel
theorem dX6_goesOn_83 : decode cX6_goesOn 83 = .ok (.goto (-42), 3) := by decide +kernel
theorem dX6_goesOn_86 : decode cX6_goesOn 86 = .ok (.iload_n 1, 1) := by decide +kernel
theorem dX6_goesOn_87 : decode cX6_goesOn 87 = .ok (.iconst 1, 1) := by decide +kernel
theorem dX6_goesOn_88 : decode cX6_goesOn 88 = .ok (.iadd, 1) := by decide +kernel
theorem dX6_goesOn_89 : decode cX6_goesOn 89 = .ok (.aload_n 0, 1) := by decide +kernel
theorem dX6_goesOn_90 : decode cX6_goesOn 90 = .ok (.iconst 1, 1) := by decide +kernel
theorem dX6_goesOn_91 : decode cX6_goesOn 91 = .ok (.iaload, 1) := by decide +kernel
theorem dX6_goesOn_92 : decode cX6_goesOn 92 = .ok (.if_icmp .ge 52, 3) := by decide +kernel
theorem dX6_goesOn_95 : decode cX6_goesOn 95 = .ok (.bipush 107, 2) := by decide +kernel
theorem dX6_goesOn_97 : decode cX6_goesOn 97 = .ok (.bipush 41, 2) := by decide +kernel
theorem dX6_goesOn_99 : decode cX6_goesOn 99 = .ok (.iload_n 1, 1) := by decide +kernel
theorem dX6_goesOn_100 : decode cX6_goesOn 100 = .ok (.iconst 1, 1) := by decide +kernel
theorem dX6_goesOn_101 : decode cX6_goesOn 101 = .ok (.iadd, 1) := by decide +kernel
theorem dX6_goesOn_102 : decode cX6_goesOn 102 = .ok (.imul, 1) := by decide +kernel
theorem dX6_goesOn_103 : decode cX6_goesOn 103 = .ok (.iadd, 1) := by decide +kernel
theorem dX6_goesOn_104 : decode cX6_goesOn 104 = .ok (.istore 4, 2) := by decide +kernel
theorem dX6_goesOn_106 : decode cX6_goesOn 106 = .ok (.aload_n 0, 1) := by decide +kernel
theorem dX6_goesOn_107 : decode cX6_goesOn 107 = .ok (.iload 4, 2) := by decide +kernel
theorem dX6_goesOn_109 : decode cX6_goesOn 109 = .ok (.iconst 1, 1) := by decide +kernel
theorem dX6_goesOn_110 : decode cX6_goesOn 110 = .ok (.iadd, 1) := by decide +kernel
theorem dX6_goesOn_111 : decode cX6_goesOn 111 = .ok (.iconst 2, 1) := by decide +kernel
theorem dX6_goesOn_112 : decode cX6_goesOn 112 = .ok (.aload_n 0, 1) := by decide +kernel
theorem dX6_goesOn_113 : decode cX6_goesOn 113 = .ok (.iload 4, 2) := by decide +kernel
theorem dX6_goesOn_115 : decode cX6_goesOn 115 = .ok (.iaload, 1) := by decide +kernel
theorem dX6_goesOn_116 : decode cX6_goesOn 116 = .ok (.imul, 1) := by decide +kernel
theorem dX6_goesOn_117 : decode cX6_goesOn 117 = .ok (.iadd, 1) := by decide +kernel
theorem dX6_goesOn_118 : decode cX6_goesOn 118 = .ok (.iload_n 2, 1) := by decide +kernel
theorem dX6_goesOn_119 : decode cX6_goesOn 119 = .ok (.iastore, 1) := by decide +kernel
theorem dX6_goesOn_120 : decode cX6_goesOn 120 = .ok (.aload_n 0, 1) := by decide +kernel
theorem dX6_goesOn_121 : decode cX6_goesOn 121 = .ok (.iload 4, 2) := by decide +kernel
theorem dX6_goesOn_123 : decode cX6_goesOn 123 = .ok (.iconst 2, 1) := by decide +kernel
theorem dX6_goesOn_124 : decode cX6_goesOn 124 = .ok (.iadd, 1) := by decide +kernel
theorem dX6_goesOn_125 : decode cX6_goesOn 125 = .ok (.iconst 2, 1) := by decide +kernel
theorem dX6_goesOn_126 : decode cX6_goesOn 126 = .ok (.aload_n 0, 1) := by decide +kernel
theorem dX6_goesOn_127 : decode cX6_goesOn 127 = .ok (.iload 4, 2) := by decide +kernel
theorem dX6_goesOn_129 : decode cX6_goesOn 129 = .ok (.iaload, 1) := by decide +kernel
theorem dX6_goesOn_130 : decode cX6_goesOn 130 = .ok (.imul, 1) := by decide +kernel
theorem dX6_goesOn_131 : decode cX6_goesOn 131 = .ok (.iadd, 1) := by decide +kernel
theorem dX6_goesOn_132 : decode cX6_goesOn 132 = .ok (.iload_n 3, 1) := by decide +kernel
theorem dX6_goesOn_133 : decode cX6_goesOn 133 = .ok (.iastore, 1) := by decide +kernel
theorem dX6_goesOn_134 : decode cX6_goesOn 134 = .ok (.aload_n 0, 1) := by decide +kernel
theorem dX6_goesOn_135 : decode cX6_goesOn 135 = .ok (.iload 4, 2) := by decide +kernel
theorem dX6_goesOn_137 : decode cX6_goesOn 137 = .ok (.dup2, 1) := by decide +kernel
theorem dX6_goesOn_138 : decode cX6_goesOn 138 = .ok (.iaload, 1) := by decide +kernel
theorem dX6_goesOn_139 : decode cX6_goesOn 139 = .ok (.iconst 1, 1) := by decide +kernel
theorem dX6_goesOn_140 : decode cX6_goesOn 140 = .ok (.iadd, 1) := by decide +kernel
theorem dX6_goesOn_141 : decode cX6_goesOn 141 = .ok (.iastore, 1) := by decide +kernel
theorem dX6_goesOn_142 : decode cX6_goesOn 142 = .ok (.iconst 0, 1) := by decide +kernel
theorem dX6_goesOn_143 : decode cX6_goesOn 143 = .ok (.ireturn, 1) := by decide +kernel
theorem dX6_goesOn_144 : decode cX6_goesOn 144 = .ok (.aload_n 0, 1) := by decide +kernel
theorem dX6_goesOn_145 : decode cX6_goesOn 145 = .ok (.bipush 49, 2) := by decide +kernel
theorem dX6_goesOn_147 : decode cX6_goesOn 147 = .ok (.dup2, 1) := by decide +kernel
theorem dX6_goesOn_148 : decode cX6_goesOn 148 = .ok (.iaload, 1) := by decide +kernel
theorem dX6_goesOn_149 : decode cX6_goesOn 149 = .ok (.iconst 1, 1) := by decide +kernel
theorem dX6_goesOn_150 : decode cX6_goesOn 150 = .ok (.iadd, 1) := by decide +kernel
theorem dX6_goesOn_151 : decode cX6_goesOn 151 = .ok (.iastore, 1) := by decide +kernel
theorem dX6_goesOn_152 : decode cX6_goesOn 152 = .ok (.aload_n 0, 1) := by decide +kernel
theorem dX6_goesOn_153 : decode cX6_goesOn 153 = .ok (.bipush 51, 2) := by decide +kernel
theorem dX6_goesOn_155 : decode cX6_goesOn 155 = .ok (.aload_n 0, 1) := by decide +kernel
theorem dX6_goesOn_156 : decode cX6_goesOn 156 = .ok (.bipush 48, 2) := by decide +kernel
theorem dX6_goesOn_158 : decode cX6_goesOn 158 = .ok (.iaload, 1) := by decide +kernel
theorem dX6_goesOn_159 : decode cX6_goesOn 159 = .ok (.iload_n 3, 1) := by decide +kernel
theorem dX6_goesOn_160 : decode cX6_goesOn 160 = .ok (.isub, 1) := by decide +kernel
theorem dX6_goesOn_161 : decode cX6_goesOn 161 = .ok (.iastore, 1) := by decide +kernel
theorem dX6_goesOn_162 : decode cX6_goesOn 162 = .ok (.aload_n 0, 1) := by decide +kernel
theorem dX6_goesOn_163 : decode cX6_goesOn 163 = .ok (.bipush 51, 2) := by decide +kernel
theorem dX6_goesOn_165 : decode cX6_goesOn 165 = .ok (.iaload, 1) := by decide +kernel
theorem dX6_goesOn_166 : decode cX6_goesOn 166 = .ok (.aload_n 0, 1) := by decide +kernel
theorem dX6_goesOn_167 : decode cX6_goesOn 167 = .ok (.bipush 52, 2) := by decide +kernel
theorem dX6_goesOn_169 : decode cX6_goesOn 169 = .ok (.iaload, 1) := by decide +kernel
theorem dX6_goesOn_170 : decode cX6_goesOn 170 = .ok (.if_icmp .le 11, 3) := by decide +kernel
theorem dX6_goesOn_173 : decode cX6_goesOn 173 = .ok (.aload_n 0, 1) := by decide +kernel
theorem dX6_goesOn_174 : decode cX6_goesOn 174 = .ok (.bipush 52, 2) := by decide +kernel
theorem dX6_goesOn_176 : decode cX6_goesOn 176 = .ok (.aload_n 0, 1) := by decide +kernel
theorem dX6_goesOn_177 : decode cX6_goesOn 177 = .ok (.bipush 51, 2) := by decide +kernel
theorem dX6_goesOn_179 : decode cX6_goesOn 179 = .ok (.iaload, 1) := by decide +kernel
theorem dX6_goesOn_180 : decode cX6_goesOn 180 = .ok (.iastore, 1) := by decide +kernel
theorem dX6_goesOn_181 : decode cX6_goesOn 181 = .ok (.iconst 1, 1) := by decide +kernel
theorem dX6_goesOn_182 : decode cX6_goesOn 182 = .ok (.ireturn, 1) := by decide +kernel
theorem dX6_hasCards_0 : decode cX6_hasCards 0 = .ok (.iconst 0, 1) := by decide +kernel
theorem dX6_hasCards_1 : decode cX6_hasCards 1 = .ok (.istore_n 2, 1) := by decide +kernel
theorem dX6_hasCards_2 : decode cX6_hasCards 2 = .ok (.iload_n 2, 1) := by decide +kernel
theorem dX6_hasCards_3 : decode cX6_hasCards 3 = .ok (.aload_n 0, 1) := by decide +kernel
theorem dX6_hasCards_4 : decode cX6_hasCards 4 = .ok (.bipush 14, 2) := by decide +kernel
theorem dX6_hasCards_6 : decode cX6_hasCards 6 = .ok (.iaload, 1) := by decide +kernel
theorem dX6_hasCards_7 : decode cX6_hasCards 7 = .ok (.if_icmp .ge 36, 3) := by decide +kernel
theorem dX6_hasCards_10 : decode cX6_hasCards 10 = .ok (.aload_n 0, 1) := by decide +kernel
theorem dX6_hasCards_11 : decode cX6_hasCards 11 = .ok (.bipush 15, 2) := by decide +kernel
theorem dX6_hasCards_13 : decode cX6_hasCards 13 = .ok (.iconst 4, 1) := by decide +kernel
theorem dX6_hasCards_14 : decode cX6_hasCards 14 = .ok (.iload_n 2, 1) := by decide +kernel
theorem dX6_hasCards_15 : decode cX6_hasCards 15 = .ok (.imul, 1) := by decide +kernel
theorem dX6_hasCards_16 : decode cX6_hasCards 16 = .ok (.iadd, 1) := by decide +kernel
theorem dX6_hasCards_17 : decode cX6_hasCards 17 = .ok (.iaload, 1) := by decide +kernel
theorem dX6_hasCards_18 : decode cX6_hasCards 18 = .ok (.iload_n 1, 1) := by decide +kernel
theorem dX6_hasCards_19 : decode cX6_hasCards 19 = .ok (.if_icmp .ne 18, 3) := by decide +kernel
theorem dX6_hasCards_22 : decode cX6_hasCards 22 = .ok (.aload_n 0, 1) := by decide +kernel
theorem dX6_hasCards_23 : decode cX6_hasCards 23 = .ok (.bipush 15, 2) := by decide +kernel
theorem dX6_hasCards_25 : decode cX6_hasCards 25 = .ok (.iconst 4, 1) := by decide +kernel
theorem dX6_hasCards_26 : decode cX6_hasCards 26 = .ok (.iload_n 2, 1) := by decide +kernel
theorem dX6_hasCards_27 : decode cX6_hasCards 27 = .ok (.imul, 1) := by decide +kernel
theorem dX6_hasCards_28 : decode cX6_hasCards 28 = .ok (.iadd, 1) := by decide +kernel
theorem dX6_hasCards_29 : decode cX6_hasCards 29 = .ok (.iconst 3, 1) := by decide +kernel
theorem dX6_hasCards_30 : decode cX6_hasCards 30 = .ok (.iadd, 1) := by decide +kernel
theorem dX6_hasCards_31 : decode cX6_hasCards 31 = .ok (.iaload, 1) := by decide +kernel
theorem dX6_hasCards_32 : decode cX6_hasCards 32 = .ok (.ifCond .ne 5, 3) := by decide +kernel
theorem dX6_hasCards_35 : decode cX6_hasCards 35 = .ok (.iconst 0, 1) := by decide +kernel
theorem dX6_hasCards_36 : decode cX6_hasCards 36 = .ok (.ireturn, 1) := by decide +kernel
theorem dX6_hasCards_37 : decode cX6_hasCards 37 = .ok (.iinc 2 1, 3) := by decide +kernel
theorem dX6_hasCards_40 : decode cX6_hasCards 40 = .ok (.goto (-38), 3) := by decide +kernel
theorem dX6_hasCards_43 : decode cX6_hasCards 43 = .ok (.iconst 1, 1) := by decide +kernel
theorem dX6_hasCards_44 : decode cX6_hasCards 44 = .ok (.ireturn, 1) := by decide +kernel
theorem dX6_tries_0 : decode cX6_tries 0 = .ok (.aload_n 0, 1) := by decide +kernel
theorem dX6_tries_1 : decode cX6_tries 1 = .ok (.iload_n 1, 1) := by decide +kernel
theorem dX6_tries_2 : decode cX6_tries 2 = .ok (.invokestatic 169, 3) := by decide +kernel
theorem dX6_tries_5 : decode cX6_tries 5 = .ok (.ifCond .eq 23, 3) := by decide +kernel
theorem dX6_tries_8 : decode cX6_tries 8 = .ok (.iload_n 1, 1) := by decide +kernel
theorem dX6_tries_9 : decode cX6_tries 9 = .ok (.ifCond .le 11, 3) := by decide +kernel
theorem dX6_tries_12 : decode cX6_tries 12 = .ok (.aload_n 0, 1) := by decide +kernel
theorem dX6_tries_13 : decode cX6_tries 13 = .ok (.iload_n 1, 1) := by decide +kernel
theorem dX6_tries_14 : decode cX6_tries 14 = .ok (.invokestatic 173, 3) := by decide +kernel
theorem dX6_tries_17 : decode cX6_tries 17 = .ok (.ifCond .eq 11, 3) := by decide +kernel
theorem dX6_tries_20 : decode cX6_tries 20 = .ok (.aload_n 0, 1) := by decide +kernel
theorem dX6_tries_21 : decode cX6_tries 21 = .ok (.iload_n 1, 1) := by decide +kernel
theorem dX6_tries_22 : decode cX6_tries 22 = .ok (.invokestatic 177, 3) := by decide +kernel
theorem dX6_tries_25 : decode cX6_tries 25 = .ok (.ifCond .ne 4, 3) := by decide +kernel
theorem dX6_tries_28 : decode cX6_tries 28 = .ok (.return_, 1) := by decide +kernel
theorem dX6_tries_29 : decode cX6_tries 29 = .ok (.aload_n 0, 1) := by decide +kernel
theorem dX6_tries_30 : decode cX6_tries 30 = .ok (.bipush 48, 2) := by decide +kernel
theorem dX6_tries_32 : decode cX6_tries 32 = .ok (.iaload, 1) := by decide +kernel
theorem dX6_tries_33 : decode cX6_tries 33 = .ok (.istore_n 3, 1) := by decide +kernel
theorem dX6_tries_34 : decode cX6_tries 34 = .ok (.iload_n 1, 1) := by decide +kernel
theorem dX6_tries_35 : decode cX6_tries 35 = .ok (.ifCond .ne 23, 3) := by decide +kernel
theorem dX6_tries_38 : decode cX6_tries 38 = .ok (.aload_n 0, 1) := by decide +kernel
theorem dX6_tries_39 : decode cX6_tries 39 = .ok (.aload_n 0, 1) := by decide +kernel
theorem dX6_tries_40 : decode cX6_tries 40 = .ok (.bipush 50, 2) := by decide +kernel
theorem dX6_tries_42 : decode cX6_tries 42 = .ok (.iaload, 1) := by decide +kernel
theorem dX6_tries_43 : decode cX6_tries 43 = .ok (.invokestatic 180, 3) := by decide +kernel
theorem dX6_tries_46 : decode cX6_tries 46 = .ok (.istore_n 2, 1) := by decide +kernel
theorem dX6_tries_47 : decode cX6_tries 47 = .ok (.aload_n 0, 1) := by decide +kernel
theorem dX6_tries_48 : decode cX6_tries 48 = .ok (.bipush 50, 2) := by decide +kernel
theorem dX6_tries_50 : decode cX6_tries 50 = .ok (.dup2, 1) := by decide +kernel
theorem dX6_tries_51 : decode cX6_tries 51 = .ok (.iaload, 1) := by decide +kernel
theorem dX6_tries_52 : decode cX6_tries 52 = .ok (.iconst 1, 1) := by decide +kernel
theorem dX6_tries_53 : decode cX6_tries 53 = .ok (.iadd, 1) := by decide +kernel
theorem dX6_tries_54 : decode cX6_tries 54 = .ok (.iastore, 1) := by decide +kernel
theorem dX6_tries_55 : decode cX6_tries 55 = .ok (.goto 100, 3) := by decide +kernel
theorem dX6_tries_58 : decode cX6_tries 58 = .ok (.bipush 107, 2) := by decide +kernel
theorem dX6_tries_60 : decode cX6_tries 60 = .ok (.bipush 41, 2) := by decide +kernel
theorem dX6_tries_62 : decode cX6_tries 62 = .ok (.iload_n 1, 1) := by decide +kernel
theorem dX6_tries_63 : decode cX6_tries 63 = .ok (.imul, 1) := by decide +kernel
theorem dX6_tries_64 : decode cX6_tries 64 = .ok (.iadd, 1) := by decide +kernel
theorem dX6_tries_65 : decode cX6_tries 65 = .ok (.istore 4, 2) := by decide +kernel
theorem dX6_tries_67 : decode cX6_tries 67 = .ok (.aload_n 0, 1) := by decide +kernel
theorem dX6_tries_68 : decode cX6_tries 68 = .ok (.iload 4, 2) := by decide +kernel
theorem dX6_tries_70 : decode cX6_tries 70 = .ok (.iconst 1, 1) := by decide +kernel
theorem dX6_tries_71 : decode cX6_tries 71 = .ok (.iadd, 1) := by decide +kernel
theorem dX6_tries_72 : decode cX6_tries 72 = .ok (.iaload, 1) := by decide +kernel
theorem dX6_tries_73 : decode cX6_tries 73 = .ok (.istore_n 2, 1) := by decide +kernel
theorem dX6_tries_74 : decode cX6_tries 74 = .ok (.aload_n 0, 1) := by decide +kernel
theorem dX6_tries_75 : decode cX6_tries 75 = .ok (.iload 4, 2) := by decide +kernel
theorem dX6_tries_77 : decode cX6_tries 77 = .ok (.iconst 2, 1) := by decide +kernel
theorem dX6_tries_78 : decode cX6_tries 78 = .ok (.iadd, 1) := by decide +kernel
theorem dX6_tries_79 : decode cX6_tries 79 = .ok (.iaload, 1) := by decide +kernel
theorem dX6_tries_80 : decode cX6_tries 80 = .ok (.istore_n 3, 1) := by decide +kernel
theorem dX6_tries_81 : decode cX6_tries 81 = .ok (.aload_n 0, 1) := by decide +kernel
theorem dX6_tries_82 : decode cX6_tries 82 = .ok (.iload 4, 2) := by decide +kernel
theorem dX6_tries_84 : decode cX6_tries 84 = .ok (.dup2, 1) := by decide +kernel
theorem dX6_tries_85 : decode cX6_tries 85 = .ok (.iaload, 1) := by decide +kernel
theorem dX6_tries_86 : decode cX6_tries 86 = .ok (.iconst 1, 1) := by decide +kernel
theorem dX6_tries_87 : decode cX6_tries 87 = .ok (.isub, 1) := by decide +kernel
theorem dX6_tries_88 : decode cX6_tries 88 = .ok (.iastore, 1) := by decide +kernel
theorem dX6_tries_89 : decode cX6_tries 89 = .ok (.iconst 0, 1) := by decide +kernel
theorem dX6_tries_90 : decode cX6_tries 90 = .ok (.istore 5, 2) := by decide +kernel
theorem dX6_tries_92 : decode cX6_tries 92 = .ok (.iload 5, 2) := by decide +kernel
theorem dX6_tries_94 : decode cX6_tries 94 = .ok (.iconst 2, 1) := by decide +kernel
theorem dX6_tries_95 : decode cX6_tries 95 = .ok (.aload_n 0, 1) := by decide +kernel
theorem dX6_tries_96 : decode cX6_tries 96 = .ok (.iload 4, 2) := by decide +kernel
theorem dX6_tries_98 : decode cX6_tries 98 = .ok (.iaload, 1) := by decide +kernel
theorem dX6_tries_99 : decode cX6_tries 99 = .ok (.imul, 1) := by decide +kernel
theorem dX6_tries_100 : decode cX6_tries 100 = .ok (.if_icmp .ge 27, 3) := by decide +kernel
theorem dX6_tries_103 : decode cX6_tries 103 = .ok (.aload_n 0, 1) := by decide +kernel
theorem dX6_tries_104 : decode cX6_tries 104 = .ok (.iload 4, 2) := by decide +kernel
theorem dX6_tries_106 : decode cX6_tries 106 = .ok (.iconst 1, 1) := by decide +kernel
theorem dX6_tries_107 : decode cX6_tries 107 = .ok (.iadd, 1) := by decide +kernel
theorem dX6_tries_108 : decode cX6_tries 108 = .ok (.iload 5, 2) := by decide +kernel
theorem dX6_tries_110 : decode cX6_tries 110 = .ok (.iadd, 1) := by decide +kernel
theorem dX6_tries_111 : decode cX6_tries 111 = .ok (.aload_n 0, 1) := by decide +kernel
theorem dX6_tries_112 : decode cX6_tries 112 = .ok (.iload 4, 2) := by decide +kernel
theorem dX6_tries_114 : decode cX6_tries 114 = .ok (.iconst 3, 1) := by decide +kernel
theorem dX6_tries_115 : decode cX6_tries 115 = .ok (.iadd, 1) := by decide +kernel
theorem dX6_tries_116 : decode cX6_tries 116 = .ok (.iload 5, 2) := by decide +kernel
theorem dX6_tries_118 : decode cX6_tries 118 = .ok (.iadd, 1) := by decide +kernel
theorem dX6_tries_119 : decode cX6_tries 119 = .ok (.iaload, 1) := by decide +kernel
theorem dX6_tries_120 : decode cX6_tries 120 = .ok (.iastore, 1) := by decide +kernel
theorem dX6_tries_121 : decode cX6_tries 121 = .ok (.iinc 5 1, 3) := by decide +kernel
theorem dX6_tries_124 : decode cX6_tries 124 = .ok (.goto (-32), 3) := by decide +kernel
theorem dX6_tries_127 : decode cX6_tries 127 = .ok (.aload_n 0, 1) := by decide +kernel
theorem dX6_tries_128 : decode cX6_tries 128 = .ok (.iload 4, 2) := by decide +kernel
theorem dX6_tries_130 : decode cX6_tries 130 = .ok (.iconst 1, 1) := by decide +kernel
theorem dX6_tries_131 : decode cX6_tries 131 = .ok (.iadd, 1) := by decide +kernel
theorem dX6_tries_132 : decode cX6_tries 132 = .ok (.iconst 2, 1) := by decide +kernel
theorem dX6_tries_133 : decode cX6_tries 133 = .ok (.aload_n 0, 1) := by decide +kernel
theorem dX6_tries_134 : decode cX6_tries 134 = .ok (.iload 4, 2) := by decide +kernel
theorem dX6_tries_136 : decode cX6_tries 136 = .ok (.iaload, 1) := by decide +kernel
theorem dX6_tries_137 : decode cX6_tries 137 = .ok (.imul, 1) := by decide +kernel
theorem dX6_tries_138 : decode cX6_tries 138 = .ok (.iadd, 1) := by decide +kernel
theorem dX6_tries_139 : decode cX6_tries 139 = .ok (.iconst 0, 1) := by decide +kernel
theorem dX6_tries_140 : decode cX6_tries 140 = .ok (.iastore, 1) := by decide +kernel
theorem dX6_tries_141 : decode cX6_tries 141 = .ok (.aload_n 0, 1) := by decide +kernel
theorem dX6_tries_142 : decode cX6_tries 142 = .ok (.iload 4, 2) := by decide +kernel
theorem dX6_tries_144 : decode cX6_tries 144 = .ok (.iconst 2, 1) := by decide +kernel
theorem dX6_tries_145 : decode cX6_tries 145 = .ok (.iadd, 1) := by decide +kernel
theorem dX6_tries_146 : decode cX6_tries 146 = .ok (.iconst 2, 1) := by decide +kernel
theorem dX6_tries_147 : decode cX6_tries 147 = .ok (.aload_n 0, 1) := by decide +kernel
theorem dX6_tries_148 : decode cX6_tries 148 = .ok (.iload 4, 2) := by decide +kernel
theorem dX6_tries_150 : decode cX6_tries 150 = .ok (.iaload, 1) := by decide +kernel
theorem dX6_tries_151 : decode cX6_tries 151 = .ok (.imul, 1) := by decide +kernel
theorem dX6_tries_152 : decode cX6_tries 152 = .ok (.iadd, 1) := by decide +kernel
theorem dX6_tries_153 : decode cX6_tries 153 = .ok (.iconst 0, 1) := by decide +kernel
theorem dX6_tries_154 : decode cX6_tries 154 = .ok (.iastore, 1) := by decide +kernel
theorem dX6_tries_155 : decode cX6_tries 155 = .ok (.iconst 0, 1) := by decide +kernel
theorem dX6_tries_156 : decode cX6_tries 156 = .ok (.istore 4, 2) := by decide +kernel
theorem dX6_tries_158 : decode cX6_tries 158 = .ok (.iload 4, 2) := by decide +kernel
theorem dX6_tries_160 : decode cX6_tries 160 = .ok (.aload_n 0, 1) := by decide +kernel
theorem dX6_tries_161 : decode cX6_tries 161 = .ok (.bipush 14, 2) := by decide +kernel
theorem dX6_tries_163 : decode cX6_tries 163 = .ok (.iaload, 1) := by decide +kernel
theorem dX6_tries_164 : decode cX6_tries 164 = .ok (.if_icmp .ge 37, 3) := by decide +kernel
theorem dX6_tries_167 : decode cX6_tries 167 = .ok (.aload_n 0, 1) := by decide +kernel
theorem dX6_tries_168 : decode cX6_tries 168 = .ok (.bipush 15, 2) := by decide +kernel
theorem dX6_tries_170 : decode cX6_tries 170 = .ok (.iconst 4, 1) := by decide +kernel
theorem dX6_tries_171 : decode cX6_tries 171 = .ok (.iload 4, 2) := by decide +kernel
theorem dX6_tries_173 : decode cX6_tries 173 = .ok (.imul, 1) := by decide +kernel
theorem dX6_tries_174 : decode cX6_tries 174 = .ok (.iadd, 1) := by decide +kernel
theorem dX6_tries_175 : decode cX6_tries 175 = .ok (.iaload, 1) := by decide +kernel
theorem dX6_tries_176 : decode cX6_tries 176 = .ok (.iload_n 1, 1) := by decide +kernel
theorem dX6_tries_177 : decode cX6_tries 177 = .ok (.if_icmp .ne 18, 3) := by decide +kernel
theorem dX6_tries_180 : decode cX6_tries 180 = .ok (.aload_n 0, 1) := by decide +kernel
theorem dX6_tries_181 : decode cX6_tries 181 = .ok (.bipush 15, 2) := by decide +kernel
theorem dX6_tries_183 : decode cX6_tries 183 = .ok (.iconst 4, 1) := by decide +kernel
theorem dX6_tries_184 : decode cX6_tries 184 = .ok (.iload 4, 2) := by decide +kernel
theorem dX6_tries_186 : decode cX6_tries 186 = .ok (.imul, 1) := by decide +kernel
theorem dX6_tries_187 : decode cX6_tries 187 = .ok (.iadd, 1) := by decide +kernel
theorem dX6_tries_188 : decode cX6_tries 188 = .ok (.iconst 3, 1) := by decide +kernel
theorem dX6_tries_189 : decode cX6_tries 189 = .ok (.iadd, 1) := by decide +kernel
theorem dX6_tries_190 : decode cX6_tries 190 = .ok (.dup2, 1) := by decide +kernel
theorem dX6_tries_191 : decode cX6_tries 191 = .ok (.iaload, 1) := by decide +kernel
theorem dX6_tries_192 : decode cX6_tries 192 = .ok (.iconst 1, 1) := by decide +kernel
theorem dX6_tries_193 : decode cX6_tries 193 = .ok (.isub, 1) := by decide +kernel
theorem dX6_tries_194 : decode cX6_tries 194 = .ok (.iastore, 1) := by decide +kernel
theorem dX6_tries_195 : decode cX6_tries 195 = .ok (.iinc 4 1, 3) := by decide +kernel
theorem dX6_tries_198 : decode cX6_tries 198 = .ok (.goto (-40), 3) := by decide +kernel
theorem dX6_tries_201 : decode cX6_tries 201 = .ok (.aload_n 0, 1) := by decide +kernel
theorem dX6_tries_202 : decode cX6_tries 202 = .ok (.iload_n 1, 1) := by decide +kernel
theorem dX6_tries_203 : decode cX6_tries 203 = .ok (.iconst 1, 1) := by decide +kernel
theorem dX6_tries_204 : decode cX6_tries 204 = .ok (.invokestatic 165, 3) := by decide +kernel
theorem dX6_tries_207 : decode cX6_tries 207 = .ok (.istore 4, 2) := by decide +kernel
theorem dX6_tries_209 : decode cX6_tries 209 = .ok (.aload_n 0, 1) := by decide +kernel
theorem dX6_tries_210 : decode cX6_tries 210 = .ok (.bipush 53, 2) := by decide +kernel
theorem dX6_tries_212 : decode cX6_tries 212 = .ok (.bipush 9, 2) := by decide +kernel
theorem dX6_tries_214 : decode cX6_tries 214 = .ok (.iload_n 1, 1) := by decide +kernel
theorem dX6_tries_215 : decode cX6_tries 215 = .ok (.imul, 1) := by decide +kernel
theorem dX6_tries_216 : decode cX6_tries 216 = .ok (.iadd, 1) := by decide +kernel
theorem dX6_tries_217 : decode cX6_tries 217 = .ok (.iconst 0, 1) := by decide +kernel
theorem dX6_tries_218 : decode cX6_tries 218 = .ok (.iadd, 1) := by decide +kernel
theorem dX6_tries_219 : decode cX6_tries 219 = .ok (.iload_n 2, 1) := by decide +kernel
theorem dX6_tries_220 : decode cX6_tries 220 = .ok (.iastore, 1) := by decide +kernel
theorem dX6_tries_221 : decode cX6_tries 221 = .ok (.aload_n 0, 1) := by decide +kernel
theorem dX6_tries_222 : decode cX6_tries 222 = .ok (.bipush 53, 2) := by decide +kernel
theorem dX6_tries_224 : decode cX6_tries 224 = .ok (.bipush 9, 2) := by decide +kernel
theorem dX6_tries_226 : decode cX6_tries 226 = .ok (.iload_n 1, 1) := by decide +kernel
theorem dX6_tries_227 : decode cX6_tries 227 = .ok (.imul, 1) := by decide +kernel
theorem dX6_tries_228 : decode cX6_tries 228 = .ok (.iadd, 1) := by decide +kernel
theorem dX6_tries_229 : decode cX6_tries 229 = .ok (.iconst 2, 1) := by decide +kernel
theorem dX6_tries_230 : decode cX6_tries 230 = .ok (.iadd, 1) := by decide +kernel
theorem dX6_tries_231 : decode cX6_tries 231 = .ok (.aload_n 0, 1) := by decide +kernel
theorem dX6_tries_232 : decode cX6_tries 232 = .ok (.bipush 48, 2) := by decide +kernel
theorem dX6_tries_234 : decode cX6_tries 234 = .ok (.iaload, 1) := by decide +kernel
theorem dX6_tries_235 : decode cX6_tries 235 = .ok (.iload 4, 2) := by decide +kernel
theorem dX6_tries_237 : decode cX6_tries 237 = .ok (.iconst (-1), 1) := by decide +kernel
theorem dX6_tries_238 : decode cX6_tries 238 = .ok (.if_icmp .eq 18, 3) := by decide +kernel
theorem dX6_tries_241 : decode cX6_tries 241 = .ok (.iload 4, 2) := by decide +kernel
theorem dX6_tries_243 : decode cX6_tries 243 = .ok (.iload_n 2, 1) := by decide +kernel
theorem dX6_tries_244 : decode cX6_tries 244 = .ok (.if_icmp .eq 12, 3) := by decide +kernel
theorem dX6_tries_247 : decode cX6_tries 247 = .ok (.aload_n 0, 1) := by decide +kernel
theorem dX6_tries_248 : decode cX6_tries 248 = .ok (.bipush 8, 2) := by decide +kernel
theorem dX6_tries_250 : decode cX6_tries 250 = .ok (.iload_n 1, 1) := by decide +kernel
theorem dX6_tries_251 : decode cX6_tries 251 = .ok (.iadd, 1) := by decide +kernel
theorem dX6_tries_252 : decode cX6_tries 252 = .ok (.iaload, 1) := by decide +kernel
theorem dX6_tries_253 : decode cX6_tries 253 = .ok (.goto 4, 3) := by decide +kernel
theorem dX6_tries_256 : decode cX6_tries 256 = .ok (.iconst 0, 1) := by decide +kernel
theorem dX6_tries_257 : decode cX6_tries 257 = .ok (.iadd, 1) := by decide +kernel
theorem dX6_tries_258 : decode cX6_tries 258 = .ok (.iastore, 1) := by decide +kernel
theorem dX6_tries_259 : decode cX6_tries 259 = .ok (.aload_n 0, 1) := by decide +kernel
theorem dX6_tries_260 : decode cX6_tries 260 = .ok (.bipush 53, 2) := by decide +kernel
theorem dX6_tries_262 : decode cX6_tries 262 = .ok (.bipush 9, 2) := by decide +kernel
theorem dX6_tries_264 : decode cX6_tries 264 = .ok (.iload_n 1, 1) := by decide +kernel
theorem dX6_tries_265 : decode cX6_tries 265 = .ok (.imul, 1) := by decide +kernel
theorem dX6_tries_266 : decode cX6_tries 266 = .ok (.iadd, 1) := by decide +kernel
theorem dX6_tries_267 : decode cX6_tries 267 = .ok (.iconst 3, 1) := by decide +kernel
theorem dX6_tries_268 : decode cX6_tries 268 = .ok (.iadd, 1) := by decide +kernel
theorem dX6_tries_269 : decode cX6_tries 269 = .ok (.aload_n 0, 1) := by decide +kernel
theorem dX6_tries_270 : decode cX6_tries 270 = .ok (.iload_n 1, 1) := by decide +kernel
theorem dX6_tries_271 : decode cX6_tries 271 = .ok (.iconst 2, 1) := by decide +kernel
theorem dX6_tries_272 : decode cX6_tries 272 = .ok (.invokestatic 165, 3) := by decide +kernel
theorem dX6_tries_275 : decode cX6_tries 275 = .ok (.aload_n 0, 1) := by decide +kernel
theorem dX6_tries_276 : decode cX6_tries 276 = .ok (.iconst 2, 1) := by decide +kernel
theorem dX6_tries_277 : decode cX6_tries 277 = .ok (.iload_n 1, 1) := by decide +kernel
theorem dX6_tries_278 : decode cX6_tries 278 = .ok (.iadd, 1) := by decide +kernel
theorem dX6_tries_279 : decode cX6_tries 279 = .ok (.iaload, 1) := by decide +kernel
theorem dX6_tries_280 : decode cX6_tries 280 = .ok (.iadd, 1) := by decide +kernel
theorem dX6_tries_281 : decode cX6_tries 281 = .ok (.iastore, 1) := by decide +kernel
theorem dX6_tries_282 : decode cX6_tries 282 = .ok (.aload_n 0, 1) := by decide +kernel
theorem dX6_tries_283 : decode cX6_tries 283 = .ok (.bipush 53, 2) := by decide +kernel
theorem dX6_tries_285 : decode cX6_tries 285 = .ok (.bipush 9, 2) := by decide +kernel
theorem dX6_tries_287 : decode cX6_tries 287 = .ok (.iload_n 1, 1) := by decide +kernel
theorem dX6_tries_288 : decode cX6_tries 288 = .ok (.imul, 1) := by decide +kernel
theorem dX6_tries_289 : decode cX6_tries 289 = .ok (.iadd, 1) := by decide +kernel
theorem dX6_tries_290 : decode cX6_tries 290 = .ok (.iconst 4, 1) := by decide +kernel
theorem dX6_tries_291 : decode cX6_tries 291 = .ok (.iadd, 1) := by decide +kernel
theorem dX6_tries_292 : decode cX6_tries 292 = .ok (.iload_n 3, 1) := by decide +kernel
theorem dX6_tries_293 : decode cX6_tries 293 = .ok (.iastore, 1) := by decide +kernel
theorem dX6_tries_294 : decode cX6_tries 294 = .ok (.return_, 1) := by decide +kernel
theorem dX6_rounds_0 : decode cX6_rounds 0 = .ok (.iconst 0, 1) := by decide +kernel
theorem dX6_rounds_1 : decode cX6_rounds 1 = .ok (.istore_n 1, 1) := by decide +kernel
theorem dX6_rounds_2 : decode cX6_rounds 2 = .ok (.aload_n 0, 1) := by decide +kernel
theorem dX6_rounds_3 : decode cX6_rounds 3 = .ok (.iconst 1, 1) := by decide +kernel
theorem dX6_rounds_4 : decode cX6_rounds 4 = .ok (.iaload, 1) := by decide +kernel
theorem dX6_rounds_5 : decode cX6_rounds 5 = .ok (.iconst 1, 1) := by decide +kernel
theorem dX6_rounds_6 : decode cX6_rounds 6 = .ok (.isub, 1) := by decide +kernel
theorem dX6_rounds_7 : decode cX6_rounds 7 = .ok (.istore_n 2, 1) := by decide +kernel
theorem dX6_rounds_8 : decode cX6_rounds 8 = .ok (.iload_n 2, 1) := by decide +kernel
theorem dX6_rounds_9 : decode cX6_rounds 9 = .ok (.ifCond .lt 38, 3) := by decide +kernel
theorem dX6_rounds_12 : decode cX6_rounds 12 = .ok (.aload_n 0, 1) := by decide +kernel
theorem dX6_rounds_13 : decode cX6_rounds 13 = .ok (.iload_n 2, 1) := by decide +kernel
theorem dX6_rounds_14 : decode cX6_rounds 14 = .ok (.invokestatic 169, 3) := by decide +kernel
theorem dX6_rounds_17 : decode cX6_rounds 17 = .ok (.ifCond .ne 24, 3) := by decide +kernel
theorem dX6_rounds_20 : decode cX6_rounds 20 = .ok (.aload_n 0, 1) := by decide +kernel
theorem dX6_rounds_21 : decode cX6_rounds 21 = .ok (.iload_n 2, 1) := by decide +kernel
theorem dX6_rounds_22 : decode cX6_rounds 22 = .ok (.iconst 3, 1) := by decide +kernel
theorem dX6_rounds_23 : decode cX6_rounds 23 = .ok (.invokestatic 165, 3) := by decide +kernel
theorem dX6_rounds_26 : decode cX6_rounds 26 = .ok (.aload_n 0, 1) := by decide +kernel
theorem dX6_rounds_27 : decode cX6_rounds 27 = .ok (.bipush 48, 2) := by decide +kernel
theorem dX6_rounds_29 : decode cX6_rounds 29 = .ok (.iaload, 1) := by decide +kernel
theorem dX6_rounds_30 : decode cX6_rounds 30 = .ok (.if_icmp .ne 11, 3) := by decide +kernel
theorem dX6_rounds_33 : decode cX6_rounds 33 = .ok (.iload_n 1, 1) := by decide +kernel
theorem dX6_rounds_34 : decode cX6_rounds 34 = .ok (.aload_n 0, 1) := by decide +kernel
theorem dX6_rounds_35 : decode cX6_rounds 35 = .ok (.iload_n 2, 1) := by decide +kernel
theorem dX6_rounds_36 : decode cX6_rounds 36 = .ok (.invokestatic 183, 3) := by decide +kernel
theorem dX6_rounds_39 : decode cX6_rounds 39 = .ok (.iadd, 1) := by decide +kernel
theorem dX6_rounds_40 : decode cX6_rounds 40 = .ok (.istore_n 1, 1) := by decide +kernel
theorem dX6_rounds_41 : decode cX6_rounds 41 = .ok (.iinc 2 (-1), 3) := by decide +kernel
theorem dX6_rounds_44 : decode cX6_rounds 44 = .ok (.goto (-36), 3) := by decide +kernel
theorem dX6_rounds_47 : decode cX6_rounds 47 = .ok (.aload_n 0, 1) := by decide +kernel
theorem dX6_rounds_48 : decode cX6_rounds 48 = .ok (.iconst 1, 1) := by decide +kernel
theorem dX6_rounds_49 : decode cX6_rounds 49 = .ok (.iaload, 1) := by decide +kernel
theorem dX6_rounds_50 : decode cX6_rounds 50 = .ok (.iconst 1, 1) := by decide +kernel
theorem dX6_rounds_51 : decode cX6_rounds 51 = .ok (.isub, 1) := by decide +kernel
theorem dX6_rounds_52 : decode cX6_rounds 52 = .ok (.istore_n 2, 1) := by decide +kernel
theorem dX6_rounds_53 : decode cX6_rounds 53 = .ok (.iload_n 2, 1) := by decide +kernel
theorem dX6_rounds_54 : decode cX6_rounds 54 = .ok (.ifCond .lt 14, 3) := by decide +kernel
theorem dX6_rounds_57 : decode cX6_rounds 57 = .ok (.aload_n 0, 1) := by decide +kernel
theorem dX6_rounds_58 : decode cX6_rounds 58 = .ok (.iload_n 2, 1) := by decide +kernel
theorem dX6_rounds_59 : decode cX6_rounds 59 = .ok (.invokestatic 186, 3) := by decide +kernel
theorem dX6_rounds_62 : decode cX6_rounds 62 = .ok (.iinc 2 (-1), 3) := by decide +kernel
theorem dX6_rounds_65 : decode cX6_rounds 65 = .ok (.goto (-12), 3) := by decide +kernel
theorem dX6_rounds_68 : decode cX6_rounds 68 = .ok (.iload_n 1, 1) := by decide +kernel
theorem dX6_rounds_69 : decode cX6_rounds 69 = .ok (.ireturn, 1) := by decide +kernel
theorem dX6_begins_0 : decode cX6_begins 0 = .ok (.aload_n 0, 1) := by decide +kernel
theorem dX6_begins_1 : decode cX6_begins 1 = .ok (.invokestatic 107, 3) := by decide +kernel
theorem dX6_begins_4 : decode cX6_begins 4 = .ok (.aload_n 0, 1) := by decide +kernel
theorem dX6_begins_5 : decode cX6_begins 5 = .ok (.invokestatic 190, 3) := by decide +kernel
theorem dX6_begins_8 : decode cX6_begins 8 = .ok (.pop, 1) := by decide +kernel
theorem dX6_begins_9 : decode cX6_begins 9 = .ok (.return_, 1) := by decide +kernel
theorem dX6_doing_0 : decode cX6_doing 0 = .ok (.aload_n 0, 1) := by decide +kernel
