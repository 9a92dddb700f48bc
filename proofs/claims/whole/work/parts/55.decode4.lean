theorem dX6_doing_1 : decode cX6_doing 1 = .ok (.iload_n 1, 1) := by decide +kernel
theorem dX6_doing_2 : decode cX6_doing 2 = .ok (.invokestatic 169, 3) := by decide +kernel
theorem dX6_doing_5 : decode cX6_doing 5 = .ok (.ifCond .eq 21, 3) := by decide +kernel
theorem dX6_doing_8 : decode cX6_doing 8 = .ok (.iload_n 1, 1) := by decide +kernel
theorem dX6_doing_9 : decode cX6_doing 9 = .ok (.ifCond .le 15, 3) := by decide +kernel
theorem dX6_doing_12 : decode cX6_doing 12 = .ok (.aload_n 0, 1) := by decide +kernel
theorem dX6_doing_13 : decode cX6_doing 13 = .ok (.iload_n 1, 1) := by decide +kernel
theorem dX6_doing_14 : decode cX6_doing 14 = .ok (.invokestatic 173, 3) := by decide +kernel
theorem dX6_doing_17 : decode cX6_doing 17 = .ok (.ifCond .ne 7, 3) := by decide +kernel
theorem dX6_doing_20 : decode cX6_doing 20 = .ok (.iconst 0, 1) := by decide +kernel
theorem dX6_doing_21 : decode cX6_doing 21 = .ok (.goto 4, 3) := by decide +kernel
theorem dX6_doing_24 : decode cX6_doing 24 = .ok (.iconst 1, 1) := by decide +kernel
theorem dX6_doing_25 : decode cX6_doing 25 = .ok (.ireturn, 1) := by decide +kernel
theorem dX6_doing_26 : decode cX6_doing 26 = .ok (.aload_n 0, 1) := by decide +kernel
theorem dX6_doing_27 : decode cX6_doing 27 = .ok (.bipush 48, 2) := by decide +kernel
theorem dX6_doing_29 : decode cX6_doing 29 = .ok (.iaload, 1) := by decide +kernel
theorem dX6_doing_30 : decode cX6_doing 30 = .ok (.aload_n 0, 1) := by decide +kernel
theorem dX6_doing_31 : decode cX6_doing 31 = .ok (.iload_n 1, 1) := by decide +kernel
theorem dX6_doing_32 : decode cX6_doing 32 = .ok (.iconst 2, 1) := by decide +kernel
theorem dX6_doing_33 : decode cX6_doing 33 = .ok (.invokestatic 165, 3) := by decide +kernel
theorem dX6_doing_36 : decode cX6_doing 36 = .ok (.if_icmp .ge 7, 3) := by decide +kernel
theorem dX6_doing_39 : decode cX6_doing 39 = .ok (.iconst 2, 1) := by decide +kernel
theorem dX6_doing_40 : decode cX6_doing 40 = .ok (.goto 4, 3) := by decide +kernel
theorem dX6_doing_43 : decode cX6_doing 43 = .ok (.iconst 3, 1) := by decide +kernel
theorem dX6_doing_44 : decode cX6_doing 44 = .ok (.ireturn, 1) := by decide +kernel
theorem dX6_waits_0 : decode cX6_waits 0 = .ok (.iconst 0, 1) := by decide +kernel
theorem dX6_waits_1 : decode cX6_waits 1 = .ok (.istore_n 2, 1) := by decide +kernel
theorem dX6_waits_2 : decode cX6_waits 2 = .ok (.iload_n 2, 1) := by decide +kernel
theorem dX6_waits_3 : decode cX6_waits 3 = .ok (.aload_n 0, 1) := by decide +kernel
theorem dX6_waits_4 : decode cX6_waits 4 = .ok (.iconst 1, 1) := by decide +kernel
theorem dX6_waits_5 : decode cX6_waits 5 = .ok (.iaload, 1) := by decide +kernel
theorem dX6_waits_6 : decode cX6_waits 6 = .ok (.if_icmp .ge 90, 3) := by decide +kernel
theorem dX6_waits_9 : decode cX6_waits 9 = .ok (.aload_n 0, 1) := by decide +kernel
theorem dX6_waits_10 : decode cX6_waits 10 = .ok (.iload_n 2, 1) := by decide +kernel
theorem dX6_waits_11 : decode cX6_waits 11 = .ok (.invokestatic 193, 3) := by decide +kernel
theorem dX6_waits_14 : decode cX6_waits 14 = .ok (.istore_n 3, 1) := by decide +kernel
theorem dX6_waits_15 : decode cX6_waits 15 = .ok (.iload_n 3, 1) := by decide +kernel
theorem dX6_waits_16 : decode cX6_waits 16 = .ok (.iconst 2, 1) := by decide +kernel
theorem dX6_waits_17 : decode cX6_waits 17 = .ok (.if_icmp .ne 32, 3) := by decide +kernel
theorem dX6_waits_20 : decode cX6_waits 20 = .ok (.aload_n 0, 1) := by decide +kernel
theorem dX6_waits_21 : decode cX6_waits 21 = .ok (.iload_n 2, 1) := by decide +kernel
theorem dX6_waits_22 : decode cX6_waits 22 = .ok (.iconst 2, 1) := by decide +kernel
theorem dX6_waits_23 : decode cX6_waits 23 = .ok (.invokestatic 165, 3) := by decide +kernel
theorem dX6_waits_26 : decode cX6_waits 26 = .ok (.aload_n 0, 1) := by decide +kernel
theorem dX6_waits_27 : decode cX6_waits 27 = .ok (.bipush 48, 2) := by decide +kernel
theorem dX6_waits_29 : decode cX6_waits 29 = .ok (.iaload, 1) := by decide +kernel
theorem dX6_waits_30 : decode cX6_waits 30 = .ok (.isub, 1) := by decide +kernel
theorem dX6_waits_31 : decode cX6_waits 31 = .ok (.iload_n 1, 1) := by decide +kernel
theorem dX6_waits_32 : decode cX6_waits 32 = .ok (.if_icmp .ge 17, 3) := by decide +kernel
theorem dX6_waits_35 : decode cX6_waits 35 = .ok (.aload_n 0, 1) := by decide +kernel
theorem dX6_waits_36 : decode cX6_waits 36 = .ok (.iload_n 2, 1) := by decide +kernel
theorem dX6_waits_37 : decode cX6_waits 37 = .ok (.iconst 2, 1) := by decide +kernel
theorem dX6_waits_38 : decode cX6_waits 38 = .ok (.invokestatic 165, 3) := by decide +kernel
theorem dX6_waits_41 : decode cX6_waits 41 = .ok (.aload_n 0, 1) := by decide +kernel
theorem dX6_waits_42 : decode cX6_waits 42 = .ok (.bipush 48, 2) := by decide +kernel
theorem dX6_waits_44 : decode cX6_waits 44 = .ok (.iaload, 1) := by decide +kernel
theorem dX6_waits_45 : decode cX6_waits 45 = .ok (.isub, 1) := by decide +kernel
theorem dX6_waits_46 : decode cX6_waits 46 = .ok (.goto 4, 3) := by decide +kernel
theorem dX6_waits_49 : decode cX6_waits 49 = .ok (.iload_n 1, 1) := by decide +kernel
theorem dX6_waits_50 : decode cX6_waits 50 = .ok (.istore 4, 2) := by decide +kernel
theorem dX6_waits_52 : decode cX6_waits 52 = .ok (.aload_n 0, 1) := by decide +kernel
theorem dX6_waits_53 : decode cX6_waits 53 = .ok (.bipush 53, 2) := by decide +kernel
theorem dX6_waits_55 : decode cX6_waits 55 = .ok (.bipush 9, 2) := by decide +kernel
theorem dX6_waits_57 : decode cX6_waits 57 = .ok (.iload_n 2, 1) := by decide +kernel
theorem dX6_waits_58 : decode cX6_waits 58 = .ok (.imul, 1) := by decide +kernel
theorem dX6_waits_59 : decode cX6_waits 59 = .ok (.iadd, 1) := by decide +kernel
theorem dX6_waits_60 : decode cX6_waits 60 = .ok (.iconst 5, 1) := by decide +kernel
theorem dX6_waits_61 : decode cX6_waits 61 = .ok (.iadd, 1) := by decide +kernel
theorem dX6_waits_62 : decode cX6_waits 62 = .ok (.iload_n 3, 1) := by decide +kernel
theorem dX6_waits_63 : decode cX6_waits 63 = .ok (.iadd, 1) := by decide +kernel
theorem dX6_waits_64 : decode cX6_waits 64 = .ok (.dup2, 1) := by decide +kernel
theorem dX6_waits_65 : decode cX6_waits 65 = .ok (.iaload, 1) := by decide +kernel
theorem dX6_waits_66 : decode cX6_waits 66 = .ok (.iload 4, 2) := by decide +kernel
theorem dX6_waits_68 : decode cX6_waits 68 = .ok (.iadd, 1) := by decide +kernel
theorem dX6_waits_69 : decode cX6_waits 69 = .ok (.iastore, 1) := by decide +kernel
theorem dX6_waits_70 : decode cX6_waits 70 = .ok (.aload_n 0, 1) := by decide +kernel
theorem dX6_waits_71 : decode cX6_waits 71 = .ok (.bipush 53, 2) := by decide +kernel
theorem dX6_waits_73 : decode cX6_waits 73 = .ok (.bipush 9, 2) := by decide +kernel
theorem dX6_waits_75 : decode cX6_waits 75 = .ok (.iload_n 2, 1) := by decide +kernel
theorem dX6_waits_76 : decode cX6_waits 76 = .ok (.imul, 1) := by decide +kernel
theorem dX6_waits_77 : decode cX6_waits 77 = .ok (.iadd, 1) := by decide +kernel
theorem dX6_waits_78 : decode cX6_waits 78 = .ok (.iconst 5, 1) := by decide +kernel
theorem dX6_waits_79 : decode cX6_waits 79 = .ok (.iadd, 1) := by decide +kernel
theorem dX6_waits_80 : decode cX6_waits 80 = .ok (.iconst 3, 1) := by decide +kernel
theorem dX6_waits_81 : decode cX6_waits 81 = .ok (.iadd, 1) := by decide +kernel
theorem dX6_waits_82 : decode cX6_waits 82 = .ok (.dup2, 1) := by decide +kernel
theorem dX6_waits_83 : decode cX6_waits 83 = .ok (.iaload, 1) := by decide +kernel
theorem dX6_waits_84 : decode cX6_waits 84 = .ok (.iload_n 1, 1) := by decide +kernel
theorem dX6_waits_85 : decode cX6_waits 85 = .ok (.iload 4, 2) := by decide +kernel
theorem dX6_waits_87 : decode cX6_waits 87 = .ok (.isub, 1) := by decide +kernel
theorem dX6_waits_88 : decode cX6_waits 88 = .ok (.iadd, 1) := by decide +kernel
theorem dX6_waits_89 : decode cX6_waits 89 = .ok (.iastore, 1) := by decide +kernel
theorem dX6_waits_90 : decode cX6_waits 90 = .ok (.iinc 2 1, 3) := by decide +kernel
theorem dX6_waits_93 : decode cX6_waits 93 = .ok (.goto (-91), 3) := by decide +kernel
theorem dX6_waits_96 : decode cX6_waits 96 = .ok (.aload_n 0, 1) := by decide +kernel
theorem dX6_waits_97 : decode cX6_waits 97 = .ok (.bipush 48, 2) := by decide +kernel
theorem dX6_waits_99 : decode cX6_waits 99 = .ok (.dup2, 1) := by decide +kernel
theorem dX6_waits_100 : decode cX6_waits 100 = .ok (.iaload, 1) := by decide +kernel
theorem dX6_waits_101 : decode cX6_waits 101 = .ok (.iload_n 1, 1) := by decide +kernel
theorem dX6_waits_102 : decode cX6_waits 102 = .ok (.iadd, 1) := by decide +kernel
theorem dX6_waits_103 : decode cX6_waits 103 = .ok (.iastore, 1) := by decide +kernel
theorem dX6_waits_104 : decode cX6_waits 104 = .ok (.return_, 1) := by decide +kernel
theorem dX6_nextTime_0 : decode cX6_nextTime 0 = .ok (.iconst (-1), 1) := by decide +kernel
theorem dX6_nextTime_1 : decode cX6_nextTime 1 = .ok (.istore_n 1, 1) := by decide +kernel
theorem dX6_nextTime_2 : decode cX6_nextTime 2 = .ok (.iconst 0, 1) := by decide +kernel
theorem dX6_nextTime_3 : decode cX6_nextTime 3 = .ok (.istore_n 2, 1) := by decide +kernel
theorem dX6_nextTime_4 : decode cX6_nextTime 4 = .ok (.iload_n 2, 1) := by decide +kernel
theorem dX6_nextTime_5 : decode cX6_nextTime 5 = .ok (.aload_n 0, 1) := by decide +kernel
theorem dX6_nextTime_6 : decode cX6_nextTime 6 = .ok (.iconst 1, 1) := by decide +kernel
theorem dX6_nextTime_7 : decode cX6_nextTime 7 = .ok (.iaload, 1) := by decide +kernel
theorem dX6_nextTime_8 : decode cX6_nextTime 8 = .ok (.if_icmp .ge 39, 3) := by decide +kernel
theorem dX6_nextTime_11 : decode cX6_nextTime 11 = .ok (.aload_n 0, 1) := by decide +kernel
theorem dX6_nextTime_12 : decode cX6_nextTime 12 = .ok (.iload_n 2, 1) := by decide +kernel
theorem dX6_nextTime_13 : decode cX6_nextTime 13 = .ok (.invokestatic 169, 3) := by decide +kernel
theorem dX6_nextTime_16 : decode cX6_nextTime 16 = .ok (.ifCond .ne 25, 3) := by decide +kernel
theorem dX6_nextTime_19 : decode cX6_nextTime 19 = .ok (.iload_n 1, 1) := by decide +kernel
theorem dX6_nextTime_20 : decode cX6_nextTime 20 = .ok (.iconst (-1), 1) := by decide +kernel
theorem dX6_nextTime_21 : decode cX6_nextTime 21 = .ok (.if_icmp .eq 13, 3) := by decide +kernel
theorem dX6_nextTime_24 : decode cX6_nextTime 24 = .ok (.aload_n 0, 1) := by decide +kernel
theorem dX6_nextTime_25 : decode cX6_nextTime 25 = .ok (.iload_n 2, 1) := by decide +kernel
theorem dX6_nextTime_26 : decode cX6_nextTime 26 = .ok (.iconst 3, 1) := by decide +kernel
theorem dX6_nextTime_27 : decode cX6_nextTime 27 = .ok (.invokestatic 165, 3) := by decide +kernel
theorem dX6_nextTime_30 : decode cX6_nextTime 30 = .ok (.iload_n 1, 1) := by decide +kernel
theorem dX6_nextTime_31 : decode cX6_nextTime 31 = .ok (.if_icmp .ge 10, 3) := by decide +kernel
theorem dX6_nextTime_34 : decode cX6_nextTime 34 = .ok (.aload_n 0, 1) := by decide +kernel
theorem dX6_nextTime_35 : decode cX6_nextTime 35 = .ok (.iload_n 2, 1) := by decide +kernel
theorem dX6_nextTime_36 : decode cX6_nextTime 36 = .ok (.iconst 3, 1) := by decide +kernel
theorem dX6_nextTime_37 : decode cX6_nextTime 37 = .ok (.invokestatic 165, 3) := by decide +kernel
theorem dX6_nextTime_40 : decode cX6_nextTime 40 = .ok (.istore_n 1, 1) := by decide +kernel
theorem dX6_nextTime_41 : decode cX6_nextTime 41 = .ok (.iinc 2 1, 3) := by decide +kernel
theorem dX6_nextTime_44 : decode cX6_nextTime 44 = .ok (.goto (-40), 3) := by decide +kernel
theorem dX6_nextTime_47 : decode cX6_nextTime 47 = .ok (.iload_n 1, 1) := by decide +kernel
theorem dX6_nextTime_48 : decode cX6_nextTime 48 = .ok (.ireturn, 1) := by decide +kernel
theorem dX6_steps_0 : decode cX6_steps 0 = .ok (.aload_n 0, 1) := by decide +kernel
theorem dX6_steps_1 : decode cX6_steps 1 = .ok (.aload_n 0, 1) := by decide +kernel
theorem dX6_steps_2 : decode cX6_steps 2 = .ok (.invokestatic 196, 3) := by decide +kernel
theorem dX6_steps_5 : decode cX6_steps 5 = .ok (.aload_n 0, 1) := by decide +kernel
theorem dX6_steps_6 : decode cX6_steps 6 = .ok (.bipush 48, 2) := by decide +kernel
theorem dX6_steps_8 : decode cX6_steps 8 = .ok (.iaload, 1) := by decide +kernel
theorem dX6_steps_9 : decode cX6_steps 9 = .ok (.isub, 1) := by decide +kernel
theorem dX6_steps_10 : decode cX6_steps 10 = .ok (.invokestatic 199, 3) := by decide +kernel
theorem dX6_steps_13 : decode cX6_steps 13 = .ok (.aload_n 0, 1) := by decide +kernel
theorem dX6_steps_14 : decode cX6_steps 14 = .ok (.invokestatic 190, 3) := by decide +kernel
theorem dX6_steps_17 : decode cX6_steps 17 = .ok (.ireturn, 1) := by decide +kernel
theorem dX6_isThere_0 : decode cX6_isThere 0 = .ok (.aload_n 0, 1) := by decide +kernel
theorem dX6_isThere_1 : decode cX6_isThere 1 = .ok (.getfield 84, 3) := by decide +kernel
theorem dX6_isThere_4 : decode cX6_isThere 4 = .ok (.iconst 0, 1) := by decide +kernel
theorem dX6_isThere_5 : decode cX6_isThere 5 = .ok (.iaload, 1) := by decide +kernel
theorem dX6_isThere_6 : decode cX6_isThere 6 = .ok (.iconst 1, 1) := by decide +kernel
theorem dX6_isThere_7 : decode cX6_isThere 7 = .ok (.if_icmp .ne 7, 3) := by decide +kernel
theorem dX6_isThere_10 : decode cX6_isThere 10 = .ok (.iconst 1, 1) := by decide +kernel
theorem dX6_isThere_11 : decode cX6_isThere 11 = .ok (.goto 4, 3) := by decide +kernel
theorem dX6_isThere_14 : decode cX6_isThere 14 = .ok (.iconst 0, 1) := by decide +kernel
theorem dX6_isThere_15 : decode cX6_isThere 15 = .ok (.ireturn, 1) := by decide +kernel
theorem dX6_isLoop_0 : decode cX6_isLoop 0 = .ok (.iload_n 1, 1) := by decide +kernel
theorem dX6_isLoop_1 : decode cX6_isLoop 1 = .ok (.iconst 0, 1) := by decide +kernel
theorem dX6_isLoop_2 : decode cX6_isLoop 2 = .ok (.aload_n 0, 1) := by decide +kernel
theorem dX6_isLoop_3 : decode cX6_isLoop 3 = .ok (.getfield 84, 3) := by decide +kernel
theorem dX6_isLoop_6 : decode cX6_isLoop 6 = .ok (.bipush 14, 2) := by decide +kernel
theorem dX6_isLoop_8 : decode cX6_isLoop 8 = .ok (.iaload, 1) := by decide +kernel
theorem dX6_isLoop_9 : decode cX6_isLoop 9 = .ok (.iconst 1, 1) := by decide +kernel
theorem dX6_isLoop_10 : decode cX6_isLoop 10 = .ok (.isub, 1) := by decide +kernel
theorem dX6_isLoop_11 : decode cX6_isLoop 11 = .ok (.invokestatic 114, 3) := by decide +kernel
theorem dX6_isLoop_14 : decode cX6_isLoop 14 = .ok (.ireturn, 1) := by decide +kernel
theorem dX6_now_0 : decode cX6_now 0 = .ok (.aload_n 0, 1) := by decide +kernel
theorem dX6_now_1 : decode cX6_now 1 = .ok (.iconst 0, 1) := by decide +kernel
theorem dX6_now_2 : decode cX6_now 2 = .ok (.putfield 1, 3) := by decide +kernel
theorem dX6_now_5 : decode cX6_now 5 = .ok (.iload_n 1, 1) := by decide +kernel
theorem dX6_now_6 : decode cX6_now 6 = .ok (.tableswitch 135 0 9 #[54, 61, 69, 77, 85, 93, 109, 117, 125, 130], 54) := by decide +kernel
theorem dX6_now_60 : decode cX6_now 60 = .ok (.aload_n 0, 1) := by decide +kernel
theorem dX6_now_61 : decode cX6_now 61 = .ok (.getfield 84, 3) := by decide +kernel
theorem dX6_now_64 : decode cX6_now 64 = .ok (.iconst 1, 1) := by decide +kernel
theorem dX6_now_65 : decode cX6_now 65 = .ok (.iaload, 1) := by decide +kernel
theorem dX6_now_66 : decode cX6_now 66 = .ok (.ireturn, 1) := by decide +kernel
theorem dX6_now_67 : decode cX6_now 67 = .ok (.aload_n 0, 1) := by decide +kernel
theorem dX6_now_68 : decode cX6_now 68 = .ok (.getfield 84, 3) := by decide +kernel
theorem dX6_now_71 : decode cX6_now 71 = .ok (.bipush 14, 2) := by decide +kernel
theorem dX6_now_73 : decode cX6_now 73 = .ok (.iaload, 1) := by decide +kernel
theorem dX6_now_74 : decode cX6_now 74 = .ok (.ireturn, 1) := by decide +kernel
theorem dX6_now_75 : decode cX6_now 75 = .ok (.aload_n 0, 1) := by decide +kernel
theorem dX6_now_76 : decode cX6_now 76 = .ok (.getfield 84, 3) := by decide +kernel
theorem dX6_now_79 : decode cX6_now 79 = .ok (.bipush 35, 2) := by decide +kernel
theorem dX6_now_81 : decode cX6_now 81 = .ok (.iaload, 1) := by decide +kernel
theorem dX6_now_82 : decode cX6_now 82 = .ok (.ireturn, 1) := by decide +kernel
theorem dX6_now_83 : decode cX6_now 83 = .ok (.aload_n 0, 1) := by decide +kernel
theorem dX6_now_84 : decode cX6_now 84 = .ok (.getfield 84, 3) := by decide +kernel
theorem dX6_now_87 : decode cX6_now 87 = .ok (.bipush 48, 2) := by decide +kernel
theorem dX6_now_89 : decode cX6_now 89 = .ok (.iaload, 1) := by decide +kernel
theorem dX6_now_90 : decode cX6_now 90 = .ok (.ireturn, 1) := by decide +kernel
theorem dX6_now_91 : decode cX6_now 91 = .ok (.aload_n 0, 1) := by decide +kernel
theorem dX6_now_92 : decode cX6_now 92 = .ok (.getfield 84, 3) := by decide +kernel
theorem dX6_now_95 : decode cX6_now 95 = .ok (.bipush 49, 2) := by decide +kernel
theorem dX6_now_97 : decode cX6_now 97 = .ok (.iaload, 1) := by decide +kernel
theorem dX6_now_98 : decode cX6_now 98 = .ok (.ireturn, 1) := by decide +kernel
theorem dX6_now_99 : decode cX6_now 99 = .ok (.aload_n 0, 1) := by decide +kernel
theorem dX6_now_100 : decode cX6_now 100 = .ok (.getfield 84, 3) := by decide +kernel
theorem dX6_now_103 : decode cX6_now 103 = .ok (.bipush 50, 2) := by decide +kernel
theorem dX6_now_105 : decode cX6_now 105 = .ok (.iaload, 1) := by decide +kernel
theorem dX6_now_106 : decode cX6_now 106 = .ok (.aload_n 0, 1) := by decide +kernel
theorem dX6_now_107 : decode cX6_now 107 = .ok (.getfield 84, 3) := by decide +kernel
theorem dX6_now_110 : decode cX6_now 110 = .ok (.bipush 49, 2) := by decide +kernel
theorem dX6_now_112 : decode cX6_now 112 = .ok (.iaload, 1) := by decide +kernel
theorem dX6_now_113 : decode cX6_now 113 = .ok (.isub, 1) := by decide +kernel
theorem dX6_now_114 : decode cX6_now 114 = .ok (.ireturn, 1) := by decide +kernel
theorem dX6_now_115 : decode cX6_now 115 = .ok (.aload_n 0, 1) := by decide +kernel
theorem dX6_now_116 : decode cX6_now 116 = .ok (.getfield 84, 3) := by decide +kernel
theorem dX6_now_119 : decode cX6_now 119 = .ok (.bipush 51, 2) := by decide +kernel
theorem dX6_now_121 : decode cX6_now 121 = .ok (.iaload, 1) := by decide +kernel
theorem dX6_now_122 : decode cX6_now 122 = .ok (.ireturn, 1) := by decide +kernel
theorem dX6_now_123 : decode cX6_now 123 = .ok (.aload_n 0, 1) := by decide +kernel
theorem dX6_now_124 : decode cX6_now 124 = .ok (.getfield 84, 3) := by decide +kernel
theorem dX6_now_127 : decode cX6_now 127 = .ok (.bipush 52, 2) := by decide +kernel
theorem dX6_now_129 : decode cX6_now 129 = .ok (.iaload, 1) := by decide +kernel
theorem dX6_now_130 : decode cX6_now 130 = .ok (.ireturn, 1) := by decide +kernel
theorem dX6_now_131 : decode cX6_now 131 = .ok (.aload_n 0, 1) := by decide +kernel
theorem dX6_now_132 : decode cX6_now 132 = .ok (.getfield 158, 3) := by decide +kernel
theorem dX6_now_135 : decode cX6_now 135 = .ok (.ireturn, 1) := by decide +kernel
theorem dX6_now_136 : decode cX6_now 136 = .ok (.aload_n 0, 1) := by decide +kernel
theorem dX6_now_137 : decode cX6_now 137 = .ok (.getfield 15, 3) := by decide +kernel
theorem dX6_now_140 : decode cX6_now 140 = .ok (.ireturn, 1) := by decide +kernel
theorem dX6_now_141 : decode cX6_now 141 = .ok (.iconst (-1), 1) := by decide +kernel
theorem dX6_now_142 : decode cX6_now 142 = .ok (.ireturn, 1) := by decide +kernel
theorem dX6_station_0 : decode cX6_station 0 = .ok (.aload_n 0, 1) := by decide +kernel
theorem dX6_station_1 : decode cX6_station 1 = .ok (.iconst 0, 1) := by decide +kernel
theorem dX6_station_2 : decode cX6_station 2 = .ok (.putfield 1, 3) := by decide +kernel
theorem dX6_station_5 : decode cX6_station 5 = .ok (.iload_n 1, 1) := by decide +kernel
theorem dX6_station_6 : decode cX6_station 6 = .ok (.iconst 0, 1) := by decide +kernel
theorem dX6_station_7 : decode cX6_station 7 = .ok (.aload_n 0, 1) := by decide +kernel
theorem dX6_station_8 : decode cX6_station 8 = .ok (.getfield 84, 3) := by decide +kernel
theorem dX6_station_11 : decode cX6_station 11 = .ok (.iconst 1, 1) := by decide +kernel
theorem dX6_station_12 : decode cX6_station 12 = .ok (.iaload, 1) := by decide +kernel
theorem dX6_station_13 : decode cX6_station 13 = .ok (.iconst 1, 1) := by decide +kernel
theorem dX6_station_14 : decode cX6_station 14 = .ok (.isub, 1) := by decide +kernel
theorem dX6_station_15 : decode cX6_station 15 = .ok (.invokestatic 114, 3) := by decide +kernel
theorem dX6_station_18 : decode cX6_station 18 = .ok (.ifCond .eq 13, 3) := by decide +kernel
theorem dX6_station_21 : decode cX6_station 21 = .ok (.iload_n 2, 1) := by decide +kernel
theorem dX6_station_22 : decode cX6_station 22 = .ok (.iconst 0, 1) := by decide +kernel
theorem dX6_station_23 : decode cX6_station 23 = .ok (.bipush 9, 2) := by decide +kernel
theorem dX6_station_25 : decode cX6_station 25 = .ok (.invokestatic 114, 3) := by decide +kernel
theorem dX6_station_28 : decode cX6_station 28 = .ok (.ifCond .ne 8, 3) := by decide +kernel
theorem dX6_station_31 : decode cX6_station 31 = .ok (.aload_n 0, 1) := by decide +kernel
theorem dX6_station_32 : decode cX6_station 32 = .ok (.invokevirtual 202, 3) := by decide +kernel
theorem dX6_station_35 : decode cX6_station 35 = .ok (.ireturn, 1) := by decide +kernel
theorem dX6_station_36 : decode cX6_station 36 = .ok (.iload_n 2, 1) := by decide +kernel
theorem dX6_station_37 : decode cX6_station 37 = .ok (.tableswitch 111 0 5 #[39, 48, 58, 67, 77, 86], 39) := by decide +kernel
theorem dX6_station_76 : decode cX6_station 76 = .ok (.aload_n 0, 1) := by decide +kernel
theorem dX6_station_77 : decode cX6_station 77 = .ok (.getfield 84, 3) := by decide +kernel
theorem dX6_station_80 : decode cX6_station 80 = .ok (.iconst 2, 1) := by decide +kernel
theorem dX6_station_81 : decode cX6_station 81 = .ok (.iload_n 1, 1) := by decide +kernel
theorem dX6_station_82 : decode cX6_station 82 = .ok (.iadd, 1) := by decide +kernel
theorem dX6_station_83 : decode cX6_station 83 = .ok (.iaload, 1) := by decide +kernel
theorem dX6_station_84 : decode cX6_station 84 = .ok (.ireturn, 1) := by decide +kernel
theorem dX6_station_85 : decode cX6_station 85 = .ok (.aload_n 0, 1) := by decide +kernel
theorem dX6_station_86 : decode cX6_station 86 = .ok (.getfield 84, 3) := by decide +kernel
theorem dX6_station_89 : decode cX6_station 89 = .ok (.bipush 8, 2) := by decide +kernel
theorem dX6_station_91 : decode cX6_station 91 = .ok (.iload_n 1, 1) := by decide +kernel
theorem dX6_station_92 : decode cX6_station 92 = .ok (.iadd, 1) := by decide +kernel
theorem dX6_station_93 : decode cX6_station 93 = .ok (.iaload, 1) := by decide +kernel
theorem dX6_station_94 : decode cX6_station 94 = .ok (.ireturn, 1) := by decide +kernel
theorem dX6_station_95 : decode cX6_station 95 = .ok (.aload_n 0, 1) := by decide +kernel
theorem dX6_station_96 : decode cX6_station 96 = .ok (.getfield 84, 3) := by decide +kernel
theorem dX6_station_99 : decode cX6_station 99 = .ok (.iload_n 1, 1) := by decide +kernel
theorem dX6_station_100 : decode cX6_station 100 = .ok (.invokestatic 193, 3) := by decide +kernel
theorem dX6_station_103 : decode cX6_station 103 = .ok (.ireturn, 1) := by decide +kernel
theorem dX6_station_104 : decode cX6_station 104 = .ok (.aload_n 0, 1) := by decide +kernel
theorem dX6_station_105 : decode cX6_station 105 = .ok (.getfield 84, 3) := by decide +kernel
theorem dX6_station_108 : decode cX6_station 108 = .ok (.iload_n 1, 1) := by decide +kernel
theorem dX6_station_109 : decode cX6_station 109 = .ok (.iconst 0, 1) := by decide +kernel
theorem dX6_station_110 : decode cX6_station 110 = .ok (.invokestatic 165, 3) := by decide +kernel
theorem dX6_station_113 : decode cX6_station 113 = .ok (.ireturn, 1) := by decide +kernel
theorem dX6_station_114 : decode cX6_station 114 = .ok (.aload_n 0, 1) := by decide +kernel
theorem dX6_station_115 : decode cX6_station 115 = .ok (.getfield 84, 3) := by decide +kernel
theorem dX6_station_118 : decode cX6_station 118 = .ok (.iload_n 1, 1) := by decide +kernel
theorem dX6_station_119 : decode cX6_station 119 = .ok (.invokestatic 173, 3) := by decide +kernel
theorem dX6_station_122 : decode cX6_station 122 = .ok (.ireturn, 1) := by decide +kernel
theorem dX6_station_123 : decode cX6_station 123 = .ok (.aload_n 0, 1) := by decide +kernel
theorem dX6_station_124 : decode cX6_station 124 = .ok (.getfield 84, 3) := by decide +kernel
theorem dX6_station_127 : decode cX6_station 127 = .ok (.iload_n 1, 1) := by decide +kernel
theorem dX6_station_128 : decode cX6_station 128 = .ok (.invokestatic 169, 3) := by decide +kernel
theorem dX6_station_131 : decode cX6_station 131 = .ok (.ifCond .eq 7, 3) := by decide +kernel
theorem dX6_station_134 : decode cX6_station 134 = .ok (.iconst (-1), 1) := by decide +kernel
theorem dX6_station_135 : decode cX6_station 135 = .ok (.goto 12, 3) := by decide +kernel
theorem dX6_station_138 : decode cX6_station 138 = .ok (.aload_n 0, 1) := by decide +kernel
theorem dX6_station_139 : decode cX6_station 139 = .ok (.getfield 84, 3) := by decide +kernel
theorem dX6_station_142 : decode cX6_station 142 = .ok (.iload_n 1, 1) := by decide +kernel
theorem dX6_station_143 : decode cX6_station 143 = .ok (.iconst 3, 1) := by decide +kernel
theorem dX6_station_144 : decode cX6_station 144 = .ok (.invokestatic 165, 3) := by decide +kernel
theorem dX6_station_147 : decode cX6_station 147 = .ok (.ireturn, 1) := by decide +kernel
theorem dX6_station_148 : decode cX6_station 148 = .ok (.aload_n 0, 1) := by decide +kernel
theorem dX6_station_149 : decode cX6_station 149 = .ok (.getfield 84, 3) := by decide +kernel
theorem dX6_station_152 : decode cX6_station 152 = .ok (.iload_n 1, 1) := by decide +kernel
theorem dX6_station_153 : decode cX6_station 153 = .ok (.iconst 5, 1) := by decide +kernel
theorem dX6_station_154 : decode cX6_station 154 = .ok (.iload_n 2, 1) := by decide +kernel
theorem dX6_station_155 : decode cX6_station 155 = .ok (.iadd, 1) := by decide +kernel
theorem dX6_station_156 : decode cX6_station 156 = .ok (.bipush 6, 2) := by decide +kernel
theorem dX6_station_158 : decode cX6_station 158 = .ok (.isub, 1) := by decide +kernel
theorem dX6_station_159 : decode cX6_station 159 = .ok (.invokestatic 165, 3) := by decide +kernel
theorem dX6_station_162 : decode cX6_station 162 = .ok (.ireturn, 1) := by decide +kernel
theorem dX6_waits__0 : decode cX6_waits_ 0 = .ok (.aload_n 0, 1) := by decide +kernel
theorem dX6_waits__1 : decode cX6_waits_ 1 = .ok (.iconst 0, 1) := by decide +kernel
theorem dX6_waits__2 : decode cX6_waits_ 2 = .ok (.putfield 1, 3) := by decide +kernel
theorem dX6_waits__5 : decode cX6_waits_ 5 = .ok (.iload_n 1, 1) := by decide +kernel
theorem dX6_waits__6 : decode cX6_waits_ 6 = .ok (.iconst 0, 1) := by decide +kernel
theorem dX6_waits__7 : decode cX6_waits_ 7 = .ok (.aload_n 0, 1) := by decide +kernel
theorem dX6_waits__8 : decode cX6_waits_ 8 = .ok (.getfield 84, 3) := by decide +kernel
theorem dX6_waits__11 : decode cX6_waits_ 11 = .ok (.iconst 1, 1) := by decide +kernel
theorem dX6_waits__12 : decode cX6_waits_ 12 = .ok (.iaload, 1) := by decide +kernel
theorem dX6_waits__13 : decode cX6_waits_ 13 = .ok (.iconst 1, 1) := by decide +kernel
theorem dX6_waits__14 : decode cX6_waits_ 14 = .ok (.isub, 1) := by decide +kernel
theorem dX6_waits__15 : decode cX6_waits_ 15 = .ok (.invokestatic 114, 3) := by decide +kernel
theorem dX6_waits__18 : decode cX6_waits_ 18 = .ok (.ifCond .eq 42, 3) := by decide +kernel
theorem dX6_waits__21 : decode cX6_waits_ 21 = .ok (.iload_n 2, 1) := by decide +kernel
theorem dX6_waits__22 : decode cX6_waits_ 22 = .ok (.iconst 0, 1) := by decide +kernel
theorem dX6_waits__23 : decode cX6_waits_ 23 = .ok (.aload_n 0, 1) := by decide +kernel
theorem dX6_waits__24 : decode cX6_waits_ 24 = .ok (.getfield 84, 3) := by decide +kernel
theorem dX6_waits__27 : decode cX6_waits_ 27 = .ok (.iload_n 1, 1) := by decide +kernel
theorem dX6_waits__28 : decode cX6_waits_ 28 = .ok (.invokestatic 173, 3) := by decide +kernel
theorem dX6_waits__31 : decode cX6_waits_ 31 = .ok (.iconst 1, 1) := by decide +kernel
theorem dX6_waits__32 : decode cX6_waits_ 32 = .ok (.isub, 1) := by decide +kernel
theorem dX6_waits__33 : decode cX6_waits_ 33 = .ok (.invokestatic 114, 3) := by decide +kernel
theorem dX6_waits__36 : decode cX6_waits_ 36 = .ok (.ifCond .eq 24, 3) := by decide +kernel
theorem dX6_waits__39 : decode cX6_waits_ 39 = .ok (.aload_n 0, 1) := by decide +kernel
theorem dX6_waits__40 : decode cX6_waits_ 40 = .ok (.getfield 84, 3) := by decide +kernel
theorem dX6_waits__43 : decode cX6_waits_ 43 = .ok (.bipush 107, 2) := by decide +kernel
theorem dX6_waits__45 : decode cX6_waits_ 45 = .ok (.bipush 41, 2) := by decide +kernel
theorem dX6_waits__47 : decode cX6_waits_ 47 = .ok (.iload_n 1, 1) := by decide +kernel
theorem dX6_waits__48 : decode cX6_waits_ 48 = .ok (.imul, 1) := by decide +kernel
theorem dX6_waits__49 : decode cX6_waits_ 49 = .ok (.iadd, 1) := by decide +kernel
theorem dX6_waits__50 : decode cX6_waits_ 50 = .ok (.iconst 1, 1) := by decide +kernel
theorem dX6_waits__51 : decode cX6_waits_ 51 = .ok (.iadd, 1) := by decide +kernel
theorem dX6_waits__52 : decode cX6_waits_ 52 = .ok (.iconst 2, 1) := by decide +kernel
theorem dX6_waits__53 : decode cX6_waits_ 53 = .ok (.iload_n 2, 1) := by decide +kernel
theorem dX6_waits__54 : decode cX6_waits_ 54 = .ok (.imul, 1) := by decide +kernel
theorem dX6_waits__55 : decode cX6_waits_ 55 = .ok (.iadd, 1) := by decide +kernel
theorem dX6_waits__56 : decode cX6_waits_ 56 = .ok (.iaload, 1) := by decide +kernel
theorem dX6_waits__57 : decode cX6_waits_ 57 = .ok (.goto 4, 3) := by decide +kernel
theorem dX6_waits__60 : decode cX6_waits_ 60 = .ok (.iconst (-1), 1) := by decide +kernel
theorem dX6_waits__61 : decode cX6_waits_ 61 = .ok (.ireturn, 1) := by decide +kernel
theorem dX6_loop_0 : decode cX6_loop 0 = .ok (.aload_n 0, 1) := by decide +kernel
theorem dX6_loop_1 : decode cX6_loop 1 = .ok (.iconst 0, 1) := by decide +kernel
theorem dX6_loop_2 : decode cX6_loop 2 = .ok (.putfield 1, 3) := by decide +kernel
theorem dX6_loop_5 : decode cX6_loop 5 = .ok (.aload_n 0, 1) := by decide +kernel
theorem dX6_loop_6 : decode cX6_loop 6 = .ok (.iload_n 1, 1) := by decide +kernel
theorem dX6_loop_7 : decode cX6_loop 7 = .ok (.invokevirtual 206, 3) := by decide +kernel
theorem dX6_loop_10 : decode cX6_loop 10 = .ok (.ifCond .eq 28, 3) := by decide +kernel
theorem dX6_loop_13 : decode cX6_loop 13 = .ok (.iload_n 2, 1) := by decide +kernel
theorem dX6_loop_14 : decode cX6_loop 14 = .ok (.iconst 0, 1) := by decide +kernel
theorem dX6_loop_15 : decode cX6_loop 15 = .ok (.iconst 3, 1) := by decide +kernel
theorem dX6_loop_16 : decode cX6_loop 16 = .ok (.invokestatic 114, 3) := by decide +kernel
theorem dX6_loop_19 : decode cX6_loop 19 = .ok (.ifCond .eq 19, 3) := by decide +kernel
theorem dX6_loop_22 : decode cX6_loop 22 = .ok (.aload_n 0, 1) := by decide +kernel
theorem dX6_loop_23 : decode cX6_loop 23 = .ok (.getfield 84, 3) := by decide +kernel
theorem dX6_loop_26 : decode cX6_loop 26 = .ok (.bipush 15, 2) := by decide +kernel
theorem dX6_loop_28 : decode cX6_loop 28 = .ok (.iconst 4, 1) := by decide +kernel
theorem dX6_loop_29 : decode cX6_loop 29 = .ok (.iload_n 1, 1) := by decide +kernel
theorem dX6_loop_30 : decode cX6_loop 30 = .ok (.imul, 1) := by decide +kernel
theorem dX6_loop_31 : decode cX6_loop 31 = .ok (.iadd, 1) := by decide +kernel
theorem dX6_loop_32 : decode cX6_loop 32 = .ok (.iload_n 2, 1) := by decide +kernel
theorem dX6_loop_33 : decode cX6_loop 33 = .ok (.iadd, 1) := by decide +kernel
theorem dX6_loop_34 : decode cX6_loop 34 = .ok (.iaload, 1) := by decide +kernel
theorem dX6_loop_35 : decode cX6_loop 35 = .ok (.goto 4, 3) := by decide +kernel
theorem dX6_loop_38 : decode cX6_loop 38 = .ok (.iconst (-1), 1) := by decide +kernel
theorem dX6_loop_39 : decode cX6_loop 39 = .ok (.ireturn, 1) := by decide +kernel
theorem dX6_next_0 : decode cX6_next 0 = .ok (.aload_n 0, 1) := by decide +kernel
theorem dX6_next_1 : decode cX6_next 1 = .ok (.iconst 0, 1) := by decide +kernel
theorem dX6_next_2 : decode cX6_next 2 = .ok (.putfield 1, 3) := by decide +kernel
theorem dX6_next_5 : decode cX6_next 5 = .ok (.aload_n 0, 1) := by decide +kernel
theorem dX6_next_6 : decode cX6_next 6 = .ok (.invokevirtual 209, 3) := by decide +kernel
theorem dX6_next_9 : decode cX6_next 9 = .ok (.ifCond .eq 33, 3) := by decide +kernel
theorem dX6_next_12 : decode cX6_next 12 = .ok (.iload_n 1, 1) := by decide +kernel
theorem dX6_next_13 : decode cX6_next 13 = .ok (.iconst 0, 1) := by decide +kernel
theorem dX6_next_14 : decode cX6_next 14 = .ok (.sipush 999, 3) := by decide +kernel
theorem dX6_next_17 : decode cX6_next 17 = .ok (.invokestatic 114, 3) := by decide +kernel
theorem dX6_next_20 : decode cX6_next 20 = .ok (.ifCond .eq 22, 3) := by decide +kernel
theorem dX6_next_23 : decode cX6_next 23 = .ok (.aload_n 0, 1) := by decide +kernel
theorem dX6_next_24 : decode cX6_next 24 = .ok (.getfield 84, 3) := by decide +kernel
theorem dX6_next_27 : decode cX6_next 27 = .ok (.aload_n 0, 1) := by decide +kernel
theorem dX6_next_28 : decode cX6_next 28 = .ok (.getfield 84, 3) := by decide +kernel
theorem dX6_next_31 : decode cX6_next 31 = .ok (.bipush 50, 2) := by decide +kernel
theorem dX6_next_33 : decode cX6_next 33 = .ok (.iaload, 1) := by decide +kernel
theorem dX6_next_34 : decode cX6_next 34 = .ok (.iload_n 1, 1) := by decide +kernel
theorem dX6_next_35 : decode cX6_next 35 = .ok (.iadd, 1) := by decide +kernel
theorem dX6_next_36 : decode cX6_next 36 = .ok (.invokestatic 180, 3) := by decide +kernel
theorem dX6_next_39 : decode cX6_next 39 = .ok (.goto 4, 3) := by decide +kernel
theorem dX6_next_42 : decode cX6_next 42 = .ok (.iconst (-1), 1) := by decide +kernel
theorem dX6_next_43 : decode cX6_next 43 = .ok (.ireturn, 1) := by decide +kernel
theorem dX6_when_0 : decode cX6_when 0 = .ok (.aload_n 0, 1) := by decide +kernel
theorem dX6_when_1 : decode cX6_when 1 = .ok (.iconst 0, 1) := by decide +kernel
theorem dX6_when_2 : decode cX6_when 2 = .ok (.putfield 1, 3) := by decide +kernel
theorem dX6_when_5 : decode cX6_when 5 = .ok (.aload_n 0, 1) := by decide +kernel
theorem dX6_when_6 : decode cX6_when 6 = .ok (.invokevirtual 209, 3) := by decide +kernel
theorem dX6_when_9 : decode cX6_when 9 = .ok (.ifCond .eq 23, 3) := by decide +kernel
theorem dX6_when_12 : decode cX6_when 12 = .ok (.iload_n 1, 1) := by decide +kernel
theorem dX6_when_13 : decode cX6_when 13 = .ok (.iconst 1, 1) := by decide +kernel
theorem dX6_when_14 : decode cX6_when 14 = .ok (.sipush 200, 3) := by decide +kernel
theorem dX6_when_17 : decode cX6_when 17 = .ok (.invokestatic 114, 3) := by decide +kernel
theorem dX6_when_20 : decode cX6_when 20 = .ok (.ifCond .eq 12, 3) := by decide +kernel
theorem dX6_when_23 : decode cX6_when 23 = .ok (.iload_n 2, 1) := by decide +kernel
theorem dX6_when_24 : decode cX6_when 24 = .ok (.iconst 0, 1) := by decide +kernel
theorem dX6_when_25 : decode cX6_when 25 = .ok (.iconst 1, 1) := by decide +kernel
theorem dX6_when_26 : decode cX6_when 26 = .ok (.invokestatic 114, 3) := by decide +kernel
theorem dX6_when_29 : decode cX6_when 29 = .ok (.ifCond .ne 5, 3) := by decide +kernel
theorem dX6_when_32 : decode cX6_when 32 = .ok (.iconst (-1), 1) := by decide +kernel
theorem dX6_when_33 : decode cX6_when 33 = .ok (.ireturn, 1) := by decide +kernel
theorem dX6_when_34 : decode cX6_when 34 = .ok (.aload_n 0, 1) := by decide +kernel
theorem dX6_when_35 : decode cX6_when 35 = .ok (.getfield 84, 3) := by decide +kernel
theorem dX6_when_38 : decode cX6_when 38 = .ok (.iconst 0, 1) := by decide +kernel
theorem dX6_when_39 : decode cX6_when 39 = .ok (.aload_n 0, 1) := by decide +kernel
theorem dX6_when_40 : decode cX6_when 40 = .ok (.getfield 90, 3) := by decide +kernel
theorem dX6_when_43 : decode cX6_when 43 = .ok (.iconst 0, 1) := by decide +kernel
theorem dX6_when_44 : decode cX6_when 44 = .ok (.invokestatic 154, 3) := by decide +kernel
theorem dX6_when_47 : decode cX6_when 47 = .ok (.aload_n 0, 1) := by decide +kernel
theorem dX6_when_48 : decode cX6_when 48 = .ok (.getfield 90, 3) := by decide +kernel
theorem dX6_when_51 : decode cX6_when 51 = .ok (.bipush 49, 2) := by decide +kernel
theorem dX6_when_53 : decode cX6_when 53 = .ok (.iaload, 1) := by decide +kernel
theorem dX6_when_54 : decode cX6_when 54 = .ok (.aload_n 0, 1) := by decide +kernel
theorem dX6_when_55 : decode cX6_when 55 = .ok (.getfield 84, 3) := by decide +kernel
theorem dX6_when_58 : decode cX6_when 58 = .ok (.bipush 49, 2) := by decide +kernel
theorem dX6_when_60 : decode cX6_when 60 = .ok (.iaload, 1) := by decide +kernel
theorem dX6_when_61 : decode cX6_when 61 = .ok (.iload_n 1, 1) := by decide +kernel
theorem dX6_when_62 : decode cX6_when 62 = .ok (.iadd, 1) := by decide +kernel
theorem dX6_when_63 : decode cX6_when 63 = .ok (.if_icmp .ge 14, 3) := by decide +kernel
theorem dX6_when_66 : decode cX6_when 66 = .ok (.aload_n 0, 1) := by decide +kernel
theorem dX6_when_67 : decode cX6_when 67 = .ok (.getfield 90, 3) := by decide +kernel
theorem dX6_when_70 : decode cX6_when 70 = .ok (.invokestatic 212, 3) := by decide +kernel
theorem dX6_when_73 : decode cX6_when 73 = .ok (.pop, 1) := by decide +kernel
theorem dX6_when_74 : decode cX6_when 74 = .ok (.goto (-27), 3) := by decide +kernel
theorem dX6_when_77 : decode cX6_when 77 = .ok (.iload_n 2, 1) := by decide +kernel
theorem dX6_when_78 : decode cX6_when 78 = .ok (.ifCond .ne 13, 3) := by decide +kernel
theorem dX6_when_81 : decode cX6_when 81 = .ok (.aload_n 0, 1) := by decide +kernel
theorem dX6_when_82 : decode cX6_when 82 = .ok (.getfield 90, 3) := by decide +kernel
theorem dX6_when_85 : decode cX6_when 85 = .ok (.bipush 48, 2) := by decide +kernel
theorem dX6_when_87 : decode cX6_when 87 = .ok (.iaload, 1) := by decide +kernel
theorem dX6_when_88 : decode cX6_when 88 = .ok (.goto 10, 3) := by decide +kernel
theorem dX6_when_91 : decode cX6_when 91 = .ok (.aload_n 0, 1) := by decide +kernel
theorem dX6_when_92 : decode cX6_when 92 = .ok (.getfield 90, 3) := by decide +kernel
theorem dX6_when_95 : decode cX6_when 95 = .ok (.bipush 51, 2) := by decide +kernel
theorem dX6_when_97 : decode cX6_when 97 = .ok (.iaload, 1) := by decide +kernel
theorem dX6_when_98 : decode cX6_when 98 = .ok (.ireturn, 1) := by decide +kernel
theorem dX6_lays__0 : decode cX6_lays_ 0 = .ok (.aload_n 0, 1) := by decide +kernel
theorem dX6_lays__1 : decode cX6_lays_ 1 = .ok (.getfield 97, 3) := by decide +kernel
theorem dX6_lays__4 : decode cX6_lays_ 4 = .ok (.iload_n 1, 1) := by decide +kernel
theorem dX6_lays__5 : decode cX6_lays_ 5 = .ok (.aload_n 0, 1) := by decide +kernel
theorem dX6_lays__6 : decode cX6_lays_ 6 = .ok (.getfield 215, 3) := by decide +kernel
theorem dX6_lays__9 : decode cX6_lays_ 9 = .ok (.iadd, 1) := by decide +kernel
theorem dX6_lays__10 : decode cX6_lays_ 10 = .ok (.iload_n 2, 1) := by decide +kernel
theorem dX6_lays__11 : decode cX6_lays_ 11 = .ok (.iastore, 1) := by decide +kernel
theorem dX6_lays__12 : decode cX6_lays_ 12 = .ok (.aload_n 0, 1) := by decide +kernel
theorem dX6_lays__13 : decode cX6_lays_ 13 = .ok (.dup, 1) := by decide +kernel
theorem dX6_lays__14 : decode cX6_lays_ 14 = .ok (.getfield 215, 3) := by decide +kernel
theorem dX6_lays__17 : decode cX6_lays_ 17 = .ok (.iconst 1, 1) := by decide +kernel
theorem dX6_lays__18 : decode cX6_lays_ 18 = .ok (.iadd, 1) := by decide +kernel
theorem dX6_lays__19 : decode cX6_lays_ 19 = .ok (.putfield 215, 3) := by decide +kernel
theorem dX6_lays__22 : decode cX6_lays_ 22 = .ok (.return_, 1) := by decide +kernel
theorem dX6_meets_0 : decode cX6_meets 0 = .ok (.bipush 58, 2) := by decide +kernel
theorem dX6_meets_2 : decode cX6_meets 2 = .ok (.iload_n 2, 1) := by decide +kernel
theorem dX6_meets_3 : decode cX6_meets 3 = .ok (.imul, 1) := by decide +kernel
theorem dX6_meets_4 : decode cX6_meets 4 = .ok (.istore_n 3, 1) := by decide +kernel
theorem dX6_meets_5 : decode cX6_meets 5 = .ok (.aload_n 0, 1) := by decide +kernel
theorem dX6_meets_6 : decode cX6_meets 6 = .ok (.iconst 0, 1) := by decide +kernel
theorem dX6_meets_7 : decode cX6_meets 7 = .ok (.putfield 215, 3) := by decide +kernel
theorem dX6_meets_10 : decode cX6_meets 10 = .ok (.iconst 0, 1) := by decide +kernel
theorem dX6_meets_11 : decode cX6_meets 11 = .ok (.istore 4, 2) := by decide +kernel
theorem dX6_meets_13 : decode cX6_meets 13 = .ok (.iload 4, 2) := by decide +kernel
theorem dX6_meets_15 : decode cX6_meets 15 = .ok (.aload_n 1, 1) := by decide +kernel
theorem dX6_meets_16 : decode cX6_meets 16 = .ok (.iconst 1, 1) := by decide +kernel
theorem dX6_meets_17 : decode cX6_meets 17 = .ok (.iaload, 1) := by decide +kernel
theorem dX6_meets_18 : decode cX6_meets 18 = .ok (.if_icmp .ge 160, 3) := by decide +kernel
theorem dX6_meets_21 : decode cX6_meets 21 = .ok (.aload_n 1, 1) := by decide +kernel
theorem dX6_meets_22 : decode cX6_meets 22 = .ok (.iload 4, 2) := by decide +kernel
theorem dX6_meets_24 : decode cX6_meets 24 = .ok (.invokestatic 169, 3) := by decide +kernel
theorem dX6_meets_27 : decode cX6_meets 27 = .ok (.istore 5, 2) := by decide +kernel
theorem dX6_meets_29 : decode cX6_meets 29 = .ok (.aload_n 0, 1) := by decide +kernel
theorem dX6_meets_30 : decode cX6_meets 30 = .ok (.iload_n 3, 1) := by decide +kernel
theorem dX6_meets_31 : decode cX6_meets 31 = .ok (.iload 5, 2) := by decide +kernel
theorem dX6_meets_33 : decode cX6_meets 33 = .ok (.ifCond .eq 7, 3) := by decide +kernel
theorem dX6_meets_36 : decode cX6_meets 36 = .ok (.iconst (-1), 1) := by decide +kernel
theorem dX6_meets_37 : decode cX6_meets 37 = .ok (.goto 15, 3) := by decide +kernel
theorem dX6_meets_40 : decode cX6_meets 40 = .ok (.aload_n 1, 1) := by decide +kernel
theorem dX6_meets_41 : decode cX6_meets 41 = .ok (.iload 4, 2) := by decide +kernel
theorem dX6_meets_43 : decode cX6_meets 43 = .ok (.iconst 3, 1) := by decide +kernel
theorem dX6_meets_44 : decode cX6_meets 44 = .ok (.invokestatic 165, 3) := by decide +kernel
theorem dX6_meets_47 : decode cX6_meets 47 = .ok (.aload_n 1, 1) := by decide +kernel
theorem dX6_meets_48 : decode cX6_meets 48 = .ok (.bipush 48, 2) := by decide +kernel
theorem dX6_meets_50 : decode cX6_meets 50 = .ok (.iaload, 1) := by decide +kernel
theorem dX6_meets_51 : decode cX6_meets 51 = .ok (.isub, 1) := by decide +kernel
theorem dX6_meets_52 : decode cX6_meets 52 = .ok (.invokevirtual 218, 3) := by decide +kernel
theorem dX6_meets_55 : decode cX6_meets 55 = .ok (.aload_n 0, 1) := by decide +kernel
theorem dX6_meets_56 : decode cX6_meets 56 = .ok (.iload_n 3, 1) := by decide +kernel
theorem dX6_meets_57 : decode cX6_meets 57 = .ok (.iload 5, 2) := by decide +kernel
theorem dX6_meets_59 : decode cX6_meets 59 = .ok (.ifCond .ne 17, 3) := by decide +kernel
theorem dX6_meets_62 : decode cX6_meets 62 = .ok (.aload_n 1, 1) := by decide +kernel
theorem dX6_meets_63 : decode cX6_meets 63 = .ok (.iload 4, 2) := by decide +kernel
theorem dX6_meets_65 : decode cX6_meets 65 = .ok (.iconst 2, 1) := by decide +kernel
theorem dX6_meets_66 : decode cX6_meets 66 = .ok (.invokestatic 165, 3) := by decide +kernel
theorem dX6_meets_69 : decode cX6_meets 69 = .ok (.aload_n 1, 1) := by decide +kernel
theorem dX6_meets_70 : decode cX6_meets 70 = .ok (.bipush 48, 2) := by decide +kernel
theorem dX6_meets_72 : decode cX6_meets 72 = .ok (.iaload, 1) := by decide +kernel
theorem dX6_meets_73 : decode cX6_meets 73 = .ok (.if_icmp .ge 7, 3) := by decide +kernel
theorem dX6_meets_76 : decode cX6_meets 76 = .ok (.iconst 0, 1) := by decide +kernel
theorem dX6_meets_77 : decode cX6_meets 77 = .ok (.goto 15, 3) := by decide +kernel
theorem dX6_meets_80 : decode cX6_meets 80 = .ok (.aload_n 1, 1) := by decide +kernel
theorem dX6_meets_81 : decode cX6_meets 81 = .ok (.iload 4, 2) := by decide +kernel
theorem dX6_meets_83 : decode cX6_meets 83 = .ok (.iconst 2, 1) := by decide +kernel
theorem dX6_meets_84 : decode cX6_meets 84 = .ok (.invokestatic 165, 3) := by decide +kernel
theorem dX6_meets_87 : decode cX6_meets 87 = .ok (.aload_n 1, 1) := by decide +kernel
theorem dX6_meets_88 : decode cX6_meets 88 = .ok (.bipush 48, 2) := by decide +kernel
theorem dX6_meets_90 : decode cX6_meets 90 = .ok (.iaload, 1) := by decide +kernel
theorem dX6_meets_91 : decode cX6_meets 91 = .ok (.isub, 1) := by decide +kernel
theorem dX6_meets_92 : decode cX6_meets 92 = .ok (.invokevirtual 218, 3) := by decide +kernel
theorem dX6_meets_95 : decode cX6_meets 95 = .ok (.aload_n 0, 1) := by decide +kernel
theorem dX6_meets_96 : decode cX6_meets 96 = .ok (.iload_n 3, 1) := by decide +kernel
theorem dX6_meets_97 : decode cX6_meets 97 = .ok (.aload_n 1, 1) := by decide +kernel
theorem dX6_meets_98 : decode cX6_meets 98 = .ok (.iload 4, 2) := by decide +kernel
theorem dX6_meets_100 : decode cX6_meets 100 = .ok (.iconst 0, 1) := by decide +kernel
theorem dX6_meets_101 : decode cX6_meets 101 = .ok (.invokestatic 165, 3) := by decide +kernel
theorem dX6_meets_104 : decode cX6_meets 104 = .ok (.invokevirtual 218, 3) := by decide +kernel
theorem dX6_meets_107 : decode cX6_meets 107 = .ok (.aload_n 0, 1) := by decide +kernel
theorem dX6_meets_108 : decode cX6_meets 108 = .ok (.iload_n 3, 1) := by decide +kernel
theorem dX6_meets_109 : decode cX6_meets 109 = .ok (.aload_n 1, 1) := by decide +kernel
theorem dX6_meets_110 : decode cX6_meets 110 = .ok (.iload 4, 2) := by decide +kernel
theorem dX6_meets_112 : decode cX6_meets 112 = .ok (.iconst 1, 1) := by decide +kernel
theorem dX6_meets_113 : decode cX6_meets 113 = .ok (.invokestatic 165, 3) := by decide +kernel
theorem dX6_meets_116 : decode cX6_meets 116 = .ok (.invokevirtual 218, 3) := by decide +kernel
theorem dX6_meets_119 : decode cX6_meets 119 = .ok (.aload_n 0, 1) := by decide +kernel
theorem dX6_meets_120 : decode cX6_meets 120 = .ok (.iload_n 3, 1) := by decide +kernel
theorem dX6_meets_121 : decode cX6_meets 121 = .ok (.aload_n 1, 1) := by decide +kernel
theorem dX6_meets_122 : decode cX6_meets 122 = .ok (.iload 4, 2) := by decide +kernel
theorem dX6_meets_124 : decode cX6_meets 124 = .ok (.invokestatic 173, 3) := by decide +kernel
theorem dX6_meets_127 : decode cX6_meets 127 = .ok (.invokevirtual 218, 3) := by decide +kernel
theorem dX6_meets_130 : decode cX6_meets 130 = .ok (.iconst 0, 1) := by decide +kernel
theorem dX6_meets_131 : decode cX6_meets 131 = .ok (.istore 6, 2) := by decide +kernel
theorem dX6_meets_133 : decode cX6_meets 133 = .ok (.iload 6, 2) := by decide +kernel
theorem dX6_meets_135 : decode cX6_meets 135 = .ok (.aload_n 1, 1) := by decide +kernel
theorem dX6_meets_136 : decode cX6_meets 136 = .ok (.iload 4, 2) := by decide +kernel
theorem dX6_meets_138 : decode cX6_meets 138 = .ok (.invokestatic 173, 3) := by decide +kernel
theorem dX6_meets_141 : decode cX6_meets 141 = .ok (.if_icmp .ge 31, 3) := by decide +kernel
theorem dX6_meets_144 : decode cX6_meets 144 = .ok (.aload_n 0, 1) := by decide +kernel
theorem dX6_meets_145 : decode cX6_meets 145 = .ok (.iload_n 3, 1) := by decide +kernel
theorem dX6_meets_146 : decode cX6_meets 146 = .ok (.aload_n 1, 1) := by decide +kernel
theorem dX6_meets_147 : decode cX6_meets 147 = .ok (.bipush 107, 2) := by decide +kernel
theorem dX6_meets_149 : decode cX6_meets 149 = .ok (.bipush 41, 2) := by decide +kernel
theorem dX6_meets_151 : decode cX6_meets 151 = .ok (.iload 4, 2) := by decide +kernel
theorem dX6_meets_153 : decode cX6_meets 153 = .ok (.imul, 1) := by decide +kernel
theorem dX6_meets_154 : decode cX6_meets 154 = .ok (.iadd, 1) := by decide +kernel
theorem dX6_meets_155 : decode cX6_meets 155 = .ok (.iconst 1, 1) := by decide +kernel
theorem dX6_meets_156 : decode cX6_meets 156 = .ok (.iadd, 1) := by decide +kernel
theorem dX6_meets_157 : decode cX6_meets 157 = .ok (.iconst 2, 1) := by decide +kernel
theorem dX6_meets_158 : decode cX6_meets 158 = .ok (.iload 6, 2) := by decide +kernel
theorem dX6_meets_160 : decode cX6_meets 160 = .ok (.imul, 1) := by decide +kernel
theorem dX6_meets_161 : decode cX6_meets 161 = .ok (.iadd, 1) := by decide +kernel
theorem dX6_meets_162 : decode cX6_meets 162 = .ok (.iaload, 1) := by decide +kernel
theorem dX6_meets_163 : decode cX6_meets 163 = .ok (.invokevirtual 218, 3) := by decide +kernel
theorem dX6_meets_166 : decode cX6_meets 166 = .ok (.iinc 6 1, 3) := by decide +kernel
theorem dX6_meets_169 : decode cX6_meets 169 = .ok (.goto (-36), 3) := by decide +kernel
theorem dX6_meets_172 : decode cX6_meets 172 = .ok (.iinc 4 1, 3) := by decide +kernel
theorem dX6_meets_175 : decode cX6_meets 175 = .ok (.goto (-162), 3) := by decide +kernel
theorem dX6_meets_178 : decode cX6_meets 178 = .ok (.iconst 0, 1) := by decide +kernel
theorem dX6_meets_179 : decode cX6_meets 179 = .ok (.istore 4, 2) := by decide +kernel
theorem dX6_meets_181 : decode cX6_meets 181 = .ok (.iload 4, 2) := by decide +kernel
theorem dX6_meets_183 : decode cX6_meets 183 = .ok (.aload_n 1, 1) := by decide +kernel
theorem dX6_meets_184 : decode cX6_meets 184 = .ok (.bipush 14, 2) := by decide +kernel
theorem dX6_meets_186 : decode cX6_meets 186 = .ok (.iaload, 1) := by decide +kernel
theorem dX6_meets_187 : decode cX6_meets 187 = .ok (.if_icmp .ge 25, 3) := by decide +kernel
theorem dX6_meets_190 : decode cX6_meets 190 = .ok (.aload_n 0, 1) := by decide +kernel
theorem dX6_meets_191 : decode cX6_meets 191 = .ok (.iload_n 3, 1) := by decide +kernel
theorem dX6_meets_192 : decode cX6_meets 192 = .ok (.aload_n 1, 1) := by decide +kernel
theorem dX6_meets_193 : decode cX6_meets 193 = .ok (.bipush 15, 2) := by decide +kernel
theorem dX6_meets_195 : decode cX6_meets 195 = .ok (.iconst 4, 1) := by decide +kernel
theorem dX6_meets_196 : decode cX6_meets 196 = .ok (.iload 4, 2) := by decide +kernel
theorem dX6_meets_198 : decode cX6_meets 198 = .ok (.imul, 1) := by decide +kernel
theorem dX6_meets_199 : decode cX6_meets 199 = .ok (.iadd, 1) := by decide +kernel
theorem dX6_meets_200 : decode cX6_meets 200 = .ok (.iconst 3, 1) := by decide +kernel
theorem dX6_meets_201 : decode cX6_meets 201 = .ok (.iadd, 1) := by decide +kernel
theorem dX6_meets_202 : decode cX6_meets 202 = .ok (.iaload, 1) := by decide +kernel
theorem dX6_meets_203 : decode cX6_meets 203 = .ok (.invokevirtual 218, 3) := by decide +kernel
theorem dX6_meets_206 : decode cX6_meets 206 = .ok (.iinc 4 1, 3) := by decide +kernel
theorem dX6_meets_209 : decode cX6_meets 209 = .ok (.goto (-28), 3) := by decide +kernel
theorem dX6_meets_212 : decode cX6_meets 212 = .ok (.aload_n 0, 1) := by decide +kernel
theorem dX6_meets_213 : decode cX6_meets 213 = .ok (.iload_n 3, 1) := by decide +kernel
theorem dX6_meets_214 : decode cX6_meets 214 = .ok (.aload_n 1, 1) := by decide +kernel
theorem dX6_meets_215 : decode cX6_meets 215 = .ok (.bipush 35, 2) := by decide +kernel
theorem dX6_meets_217 : decode cX6_meets 217 = .ok (.iaload, 1) := by decide +kernel
theorem dX6_meets_218 : decode cX6_meets 218 = .ok (.ifCond .ne 7, 3) := by decide +kernel
theorem dX6_meets_221 : decode cX6_meets 221 = .ok (.iconst 0, 1) := by decide +kernel
theorem dX6_meets_222 : decode cX6_meets 222 = .ok (.goto 12, 3) := by decide +kernel
theorem dX6_meets_225 : decode cX6_meets 225 = .ok (.aload_n 1, 1) := by decide +kernel
theorem dX6_meets_226 : decode cX6_meets 226 = .ok (.bipush 50, 2) := by decide +kernel
theorem dX6_meets_228 : decode cX6_meets 228 = .ok (.iaload, 1) := by decide +kernel
theorem dX6_meets_229 : decode cX6_meets 229 = .ok (.aload_n 1, 1) := by decide +kernel
theorem dX6_meets_230 : decode cX6_meets 230 = .ok (.invokestatic 161, 3) := by decide +kernel
theorem dX6_meets_233 : decode cX6_meets 233 = .ok (.irem, 1) := by decide +kernel
theorem dX6_meets_234 : decode cX6_meets 234 = .ok (.invokevirtual 218, 3) := by decide +kernel
theorem dX6_meets_237 : decode cX6_meets 237 = .ok (.aload_n 0, 1) := by decide +kernel
theorem dX6_meets_238 : decode cX6_meets 238 = .ok (.getfield 215, 3) := by decide +kernel
theorem dX6_meets_241 : decode cX6_meets 241 = .ok (.bipush 58, 2) := by decide +kernel
theorem dX6_meets_243 : decode cX6_meets 243 = .ok (.if_icmp .ge 12, 3) := by decide +kernel
theorem dX6_meets_246 : decode cX6_meets 246 = .ok (.aload_n 0, 1) := by decide +kernel
theorem dX6_meets_247 : decode cX6_meets 247 = .ok (.iload_n 3, 1) := by decide +kernel
theorem dX6_meets_248 : decode cX6_meets 248 = .ok (.iconst 0, 1) := by decide +kernel
theorem dX6_meets_249 : decode cX6_meets 249 = .ok (.invokevirtual 218, 3) := by decide +kernel
theorem dX6_meets_252 : decode cX6_meets 252 = .ok (.goto (-15), 3) := by decide +kernel
theorem dX6_meets_255 : decode cX6_meets 255 = .ok (.ldc2_w 221, 3) := by decide +kernel
theorem dX6_meets_258 : decode cX6_meets 258 = .ok (.lstore 4, 2) := by decide +kernel
theorem dX6_meets_260 : decode cX6_meets 260 = .ok (.iconst 0, 1) := by decide +kernel
theorem dX6_meets_261 : decode cX6_meets 261 = .ok (.istore 6, 2) := by decide +kernel
theorem dX6_meets_263 : decode cX6_meets 263 = .ok (.iload 6, 2) := by decide +kernel
theorem dX6_meets_265 : decode cX6_meets 265 = .ok (.bipush 58, 2) := by decide +kernel
theorem dX6_meets_267 : decode cX6_meets 267 = .ok (.if_icmp .ge 28, 3) := by decide +kernel
theorem dX6_meets_270 : decode cX6_meets 270 = .ok (.ldc2_w 223, 3) := by decide +kernel
theorem dX6_meets_273 : decode cX6_meets 273 = .ok (.lload 4, 2) := by decide +kernel
theorem dX6_meets_275 : decode cX6_meets 275 = .ok (.lmul, 1) := by decide +kernel
theorem dX6_meets_276 : decode cX6_meets 276 = .ok (.aload_n 0, 1) := by decide +kernel
theorem dX6_meets_277 : decode cX6_meets 277 = .ok (.getfield 97, 3) := by decide +kernel
theorem dX6_meets_280 : decode cX6_meets 280 = .ok (.iload_n 3, 1) := by decide +kernel
theorem dX6_meets_281 : decode cX6_meets 281 = .ok (.iload 6, 2) := by decide +kernel
theorem dX6_meets_283 : decode cX6_meets 283 = .ok (.iadd, 1) := by decide +kernel
theorem dX6_meets_284 : decode cX6_meets 284 = .ok (.iaload, 1) := by decide +kernel
theorem dX6_meets_285 : decode cX6_meets 285 = .ok (.i2l, 1) := by decide +kernel
theorem dX6_meets_286 : decode cX6_meets 286 = .ok (.ladd, 1) := by decide +kernel
theorem dX6_meets_287 : decode cX6_meets 287 = .ok (.lstore 4, 2) := by decide +kernel
theorem dX6_meets_289 : decode cX6_meets 289 = .ok (.iinc 6 1, 3) := by decide +kernel
theorem dX6_meets_292 : decode cX6_meets 292 = .ok (.goto (-29), 3) := by decide +kernel
theorem dX6_meets_295 : decode cX6_meets 295 = .ok (.aload_n 0, 1) := by decide +kernel
theorem dX6_meets_296 : decode cX6_meets 296 = .ok (.getfield 103, 3) := by decide +kernel
theorem dX6_meets_299 : decode cX6_meets 299 = .ok (.iload_n 2, 1) := by decide +kernel
theorem dX6_meets_300 : decode cX6_meets 300 = .ok (.lload 4, 2) := by decide +kernel
theorem dX6_meets_302 : decode cX6_meets 302 = .ok (.lastore, 1) := by decide +kernel
theorem dX6_meets_303 : decode cX6_meets 303 = .ok (.aload_n 0, 1) := by decide +kernel
theorem dX6_meets_304 : decode cX6_meets 304 = .ok (.getfield 100, 3) := by decide +kernel
theorem dX6_meets_307 : decode cX6_meets 307 = .ok (.iload_n 2, 1) := by decide +kernel
theorem dX6_meets_308 : decode cX6_meets 308 = .ok (.aload_n 1, 1) := by decide +kernel
theorem dX6_meets_309 : decode cX6_meets 309 = .ok (.bipush 48, 2) := by decide +kernel
theorem dX6_meets_311 : decode cX6_meets 311 = .ok (.iaload, 1) := by decide +kernel
theorem dX6_meets_312 : decode cX6_meets 312 = .ok (.iastore, 1) := by decide +kernel
theorem dX6_meets_313 : decode cX6_meets 313 = .ok (.return_, 1) := by decide +kernel
theorem dX6_isMet_0 : decode cX6_isMet 0 = .ok (.aload_n 0, 1) := by decide +kernel
theorem dX6_isMet_1 : decode cX6_isMet 1 = .ok (.getfield 103, 3) := by decide +kernel
theorem dX6_isMet_4 : decode cX6_isMet 4 = .ok (.iload_n 1, 1) := by decide +kernel
theorem dX6_isMet_5 : decode cX6_isMet 5 = .ok (.laload, 1) := by decide +kernel
theorem dX6_isMet_6 : decode cX6_isMet 6 = .ok (.aload_n 0, 1) := by decide +kernel
theorem dX6_isMet_7 : decode cX6_isMet 7 = .ok (.getfield 103, 3) := by decide +kernel
theorem dX6_isMet_10 : decode cX6_isMet 10 = .ok (.iload_n 2, 1) := by decide +kernel
theorem dX6_isMet_11 : decode cX6_isMet 11 = .ok (.laload, 1) := by decide +kernel
theorem dX6_isMet_12 : decode cX6_isMet 12 = .ok (.lcmp, 1) := by decide +kernel
theorem dX6_isMet_13 : decode cX6_isMet 13 = .ok (.ifCond .eq 5, 3) := by decide +kernel
theorem dX6_isMet_16 : decode cX6_isMet 16 = .ok (.iconst 0, 1) := by decide +kernel
theorem dX6_isMet_17 : decode cX6_isMet 17 = .ok (.ireturn, 1) := by decide +kernel
theorem dX6_isMet_18 : decode cX6_isMet 18 = .ok (.iconst 0, 1) := by decide +kernel
theorem dX6_isMet_19 : decode cX6_isMet 19 = .ok (.istore_n 3, 1) := by decide +kernel
theorem dX6_isMet_20 : decode cX6_isMet 20 = .ok (.iload_n 3, 1) := by decide +kernel
theorem dX6_isMet_21 : decode cX6_isMet 21 = .ok (.bipush 58, 2) := by decide +kernel
theorem dX6_isMet_23 : decode cX6_isMet 23 = .ok (.if_icmp .ge 36, 3) := by decide +kernel
theorem dX6_isMet_26 : decode cX6_isMet 26 = .ok (.aload_n 0, 1) := by decide +kernel
theorem dX6_isMet_27 : decode cX6_isMet 27 = .ok (.getfield 97, 3) := by decide +kernel
theorem dX6_isMet_30 : decode cX6_isMet 30 = .ok (.bipush 58, 2) := by decide +kernel
theorem dX6_isMet_32 : decode cX6_isMet 32 = .ok (.iload_n 1, 1) := by decide +kernel
theorem dX6_isMet_33 : decode cX6_isMet 33 = .ok (.imul, 1) := by decide +kernel
theorem dX6_isMet_34 : decode cX6_isMet 34 = .ok (.iload_n 3, 1) := by decide +kernel
theorem dX6_isMet_35 : decode cX6_isMet 35 = .ok (.iadd, 1) := by decide +kernel
theorem dX6_isMet_36 : decode cX6_isMet 36 = .ok (.iaload, 1) := by decide +kernel
theorem dX6_isMet_37 : decode cX6_isMet 37 = .ok (.aload_n 0, 1) := by decide +kernel
theorem dX6_isMet_38 : decode cX6_isMet 38 = .ok (.getfield 97, 3) := by decide +kernel
theorem dX6_isMet_41 : decode cX6_isMet 41 = .ok (.bipush 58, 2) := by decide +kernel
theorem dX6_isMet_43 : decode cX6_isMet 43 = .ok (.iload_n 2, 1) := by decide +kernel
theorem dX6_isMet_44 : decode cX6_isMet 44 = .ok (.imul, 1) := by decide +kernel
theorem dX6_isMet_45 : decode cX6_isMet 45 = .ok (.iload_n 3, 1) := by decide +kernel
theorem dX6_isMet_46 : decode cX6_isMet 46 = .ok (.iadd, 1) := by decide +kernel
theorem dX6_isMet_47 : decode cX6_isMet 47 = .ok (.iaload, 1) := by decide +kernel
theorem dX6_isMet_48 : decode cX6_isMet 48 = .ok (.if_icmp .eq 5, 3) := by decide +kernel
theorem dX6_isMet_51 : decode cX6_isMet 51 = .ok (.iconst 0, 1) := by decide +kernel
theorem dX6_isMet_52 : decode cX6_isMet 52 = .ok (.ireturn, 1) := by decide +kernel
theorem dX6_isMet_53 : decode cX6_isMet 53 = .ok (.iinc 3 1, 3) := by decide +kernel
theorem dX6_isMet_56 : decode cX6_isMet 56 = .ok (.goto (-36), 3) := by decide +kernel
theorem dX6_isMet_59 : decode cX6_isMet 59 = .ok (.iconst 1, 1) := by decide +kernel
theorem dX6_isMet_60 : decode cX6_isMet 60 = .ok (.ireturn, 1) := by decide +kernel
theorem dX6_laysPace_0 : decode cX6_laysPace 0 = .ok (.aload_n 0, 1) := by decide +kernel
theorem dX6_laysPace_1 : decode cX6_laysPace 1 = .ok (.getfield 90, 3) := by decide +kernel
theorem dX6_laysPace_4 : decode cX6_laysPace 4 = .ok (.invokestatic 151, 3) := by decide +kernel
theorem dX6_laysPace_7 : decode cX6_laysPace 7 = .ok (.iconst 0, 1) := by decide +kernel
theorem dX6_laysPace_8 : decode cX6_laysPace 8 = .ok (.istore_n 1, 1) := by decide +kernel
theorem dX6_laysPace_9 : decode cX6_laysPace 9 = .ok (.iload_n 1, 1) := by decide +kernel
theorem dX6_laysPace_10 : decode cX6_laysPace 10 = .ok (.sipush 1500, 3) := by decide +kernel
theorem dX6_laysPace_13 : decode cX6_laysPace 13 = .ok (.if_icmp .ge 116, 3) := by decide +kernel
theorem dX6_laysPace_16 : decode cX6_laysPace 16 = .ok (.aload_n 0, 1) := by decide +kernel
theorem dX6_laysPace_17 : decode cX6_laysPace 17 = .ok (.getfield 90, 3) := by decide +kernel
theorem dX6_laysPace_20 : decode cX6_laysPace 20 = .ok (.bipush 49, 2) := by decide +kernel
theorem dX6_laysPace_22 : decode cX6_laysPace 22 = .ok (.iaload, 1) := by decide +kernel
theorem dX6_laysPace_23 : decode cX6_laysPace 23 = .ok (.iload_n 1, 1) := by decide +kernel
theorem dX6_laysPace_24 : decode cX6_laysPace 24 = .ok (.if_icmp .gt 14, 3) := by decide +kernel
theorem dX6_laysPace_27 : decode cX6_laysPace 27 = .ok (.aload_n 0, 1) := by decide +kernel
theorem dX6_laysPace_28 : decode cX6_laysPace 28 = .ok (.getfield 90, 3) := by decide +kernel
theorem dX6_laysPace_31 : decode cX6_laysPace 31 = .ok (.invokestatic 212, 3) := by decide +kernel
theorem dX6_laysPace_34 : decode cX6_laysPace 34 = .ok (.pop, 1) := by decide +kernel
theorem dX6_laysPace_35 : decode cX6_laysPace 35 = .ok (.goto (-19), 3) := by decide +kernel
theorem dX6_laysPace_38 : decode cX6_laysPace 38 = .ok (.aload_n 0, 1) := by decide +kernel
theorem dX6_laysPace_39 : decode cX6_laysPace 39 = .ok (.aload_n 0, 1) := by decide +kernel
theorem dX6_laysPace_40 : decode cX6_laysPace 40 = .ok (.getfield 90, 3) := by decide +kernel
theorem dX6_laysPace_43 : decode cX6_laysPace 43 = .ok (.iload_n 1, 1) := by decide +kernel
theorem dX6_laysPace_44 : decode cX6_laysPace 44 = .ok (.invokevirtual 225, 3) := by decide +kernel
theorem dX6_laysPace_47 : decode cX6_laysPace 47 = .ok (.iload_n 1, 1) := by decide +kernel
theorem dX6_laysPace_48 : decode cX6_laysPace 48 = .ok (.iconst 1, 1) := by decide +kernel
theorem dX6_laysPace_49 : decode cX6_laysPace 49 = .ok (.isub, 1) := by decide +kernel
theorem dX6_laysPace_50 : decode cX6_laysPace 50 = .ok (.istore_n 2, 1) := by decide +kernel
theorem dX6_laysPace_51 : decode cX6_laysPace 51 = .ok (.iload_n 2, 1) := by decide +kernel
theorem dX6_laysPace_52 : decode cX6_laysPace 52 = .ok (.ifCond .lt 71, 3) := by decide +kernel
theorem dX6_laysPace_55 : decode cX6_laysPace 55 = .ok (.aload_n 0, 1) := by decide +kernel
theorem dX6_laysPace_56 : decode cX6_laysPace 56 = .ok (.iload_n 2, 1) := by decide +kernel
theorem dX6_laysPace_57 : decode cX6_laysPace 57 = .ok (.iload_n 1, 1) := by decide +kernel
theorem dX6_laysPace_58 : decode cX6_laysPace 58 = .ok (.invokevirtual 228, 3) := by decide +kernel
theorem dX6_laysPace_61 : decode cX6_laysPace 61 = .ok (.ifCond .ne 6, 3) := by decide +kernel
theorem dX6_laysPace_64 : decode cX6_laysPace 64 = .ok (.goto 53, 3) := by decide +kernel
theorem dX6_laysPace_67 : decode cX6_laysPace 67 = .ok (.iload_n 1, 1) := by decide +kernel
theorem dX6_laysPace_68 : decode cX6_laysPace 68 = .ok (.iload_n 2, 1) := by decide +kernel
theorem dX6_laysPace_69 : decode cX6_laysPace 69 = .ok (.isub, 1) := by decide +kernel
theorem dX6_laysPace_70 : decode cX6_laysPace 70 = .ok (.aload_n 0, 1) := by decide +kernel
theorem dX6_laysPace_71 : decode cX6_laysPace 71 = .ok (.getfield 100, 3) := by decide +kernel
theorem dX6_laysPace_74 : decode cX6_laysPace 74 = .ok (.iload_n 1, 1) := by decide +kernel
theorem dX6_laysPace_75 : decode cX6_laysPace 75 = .ok (.iaload, 1) := by decide +kernel
theorem dX6_laysPace_76 : decode cX6_laysPace 76 = .ok (.aload_n 0, 1) := by decide +kernel
theorem dX6_laysPace_77 : decode cX6_laysPace 77 = .ok (.getfield 100, 3) := by decide +kernel
theorem dX6_laysPace_80 : decode cX6_laysPace 80 = .ok (.iload_n 2, 1) := by decide +kernel
theorem dX6_laysPace_81 : decode cX6_laysPace 81 = .ok (.iaload, 1) := by decide +kernel
theorem dX6_laysPace_82 : decode cX6_laysPace 82 = .ok (.isub, 1) := by decide +kernel
theorem dX6_laysPace_83 : decode cX6_laysPace 83 = .ok (.invokestatic 7, 3) := by decide +kernel
theorem dX6_laysPace_86 : decode cX6_laysPace 86 = .ok (.istore_n 3, 1) := by decide +kernel
theorem dX6_laysPace_87 : decode cX6_laysPace 87 = .ok (.aload_n 0, 1) := by decide +kernel
theorem dX6_laysPace_88 : decode cX6_laysPace 88 = .ok (.iload_n 1, 1) := by decide +kernel
theorem dX6_laysPace_89 : decode cX6_laysPace 89 = .ok (.iload_n 2, 1) := by decide +kernel
theorem dX6_laysPace_90 : decode cX6_laysPace 90 = .ok (.isub, 1) := by decide +kernel
theorem dX6_laysPace_91 : decode cX6_laysPace 91 = .ok (.iload_n 3, 1) := by decide +kernel
theorem dX6_laysPace_92 : decode cX6_laysPace 92 = .ok (.idiv, 1) := by decide +kernel
theorem dX6_laysPace_93 : decode cX6_laysPace 93 = .ok (.putfield 232, 3) := by decide +kernel
theorem dX6_laysPace_96 : decode cX6_laysPace 96 = .ok (.aload_n 0, 1) := by decide +kernel
theorem dX6_laysPace_97 : decode cX6_laysPace 97 = .ok (.aload_n 0, 1) := by decide +kernel
theorem dX6_laysPace_98 : decode cX6_laysPace 98 = .ok (.getfield 100, 3) := by decide +kernel
theorem dX6_laysPace_101 : decode cX6_laysPace 101 = .ok (.iload_n 1, 1) := by decide +kernel
theorem dX6_laysPace_102 : decode cX6_laysPace 102 = .ok (.iaload, 1) := by decide +kernel
theorem dX6_laysPace_103 : decode cX6_laysPace 103 = .ok (.aload_n 0, 1) := by decide +kernel
theorem dX6_laysPace_104 : decode cX6_laysPace 104 = .ok (.getfield 100, 3) := by decide +kernel
theorem dX6_laysPace_107 : decode cX6_laysPace 107 = .ok (.iload_n 2, 1) := by decide +kernel
theorem dX6_laysPace_108 : decode cX6_laysPace 108 = .ok (.iaload, 1) := by decide +kernel
theorem dX6_laysPace_109 : decode cX6_laysPace 109 = .ok (.isub, 1) := by decide +kernel
theorem dX6_laysPace_110 : decode cX6_laysPace 110 = .ok (.iload_n 3, 1) := by decide +kernel
theorem dX6_laysPace_111 : decode cX6_laysPace 111 = .ok (.idiv, 1) := by decide +kernel
theorem dX6_laysPace_112 : decode cX6_laysPace 112 = .ok (.putfield 235, 3) := by decide +kernel
theorem dX6_laysPace_115 : decode cX6_laysPace 115 = .ok (.iconst 1, 1) := by decide +kernel
theorem dX6_laysPace_116 : decode cX6_laysPace 116 = .ok (.ireturn, 1) := by decide +kernel
theorem dX6_laysPace_117 : decode cX6_laysPace 117 = .ok (.iinc 2 (-1), 3) := by decide +kernel
theorem dX6_laysPace_120 : decode cX6_laysPace 120 = .ok (.goto (-69), 3) := by decide +kernel
theorem dX6_laysPace_123 : decode cX6_laysPace 123 = .ok (.iinc 1 1, 3) := by decide +kernel
theorem dX6_laysPace_126 : decode cX6_laysPace 126 = .ok (.goto (-117), 3) := by decide +kernel
theorem dX6_laysPace_129 : decode cX6_laysPace 129 = .ok (.iconst 0, 1) := by decide +kernel
theorem dX6_laysPace_130 : decode cX6_laysPace 130 = .ok (.ireturn, 1) := by decide +kernel
theorem dX6_pace_0 : decode cX6_pace 0 = .ok (.aload_n 0, 1) := by decide +kernel
theorem dX6_pace_1 : decode cX6_pace 1 = .ok (.iconst 0, 1) := by decide +kernel
theorem dX6_pace_2 : decode cX6_pace 2 = .ok (.putfield 1, 3) := by decide +kernel
theorem dX6_pace_5 : decode cX6_pace 5 = .ok (.aload_n 0, 1) := by decide +kernel
theorem dX6_pace_6 : decode cX6_pace 6 = .ok (.invokevirtual 209, 3) := by decide +kernel
theorem dX6_pace_9 : decode cX6_pace 9 = .ok (.ifCond .eq 12, 3) := by decide +kernel
theorem dX6_pace_12 : decode cX6_pace 12 = .ok (.iload_n 1, 1) := by decide +kernel
theorem dX6_pace_13 : decode cX6_pace 13 = .ok (.iconst 0, 1) := by decide +kernel
theorem dX6_pace_14 : decode cX6_pace 14 = .ok (.iconst 1, 1) := by decide +kernel
theorem dX6_pace_15 : decode cX6_pace 15 = .ok (.invokestatic 114, 3) := by decide +kernel
theorem dX6_pace_18 : decode cX6_pace 18 = .ok (.ifCond .ne 5, 3) := by decide +kernel
theorem dX6_pace_21 : decode cX6_pace 21 = .ok (.iconst (-1), 1) := by decide +kernel
theorem dX6_pace_22 : decode cX6_pace 22 = .ok (.ireturn, 1) := by decide +kernel
theorem dX6_pace_23 : decode cX6_pace 23 = .ok (.aload_n 0, 1) := by decide +kernel
theorem dX6_pace_24 : decode cX6_pace 24 = .ok (.getfield 84, 3) := by decide +kernel
theorem dX6_pace_27 : decode cX6_pace 27 = .ok (.iconst 0, 1) := by decide +kernel
theorem dX6_pace_28 : decode cX6_pace 28 = .ok (.aload_n 0, 1) := by decide +kernel
theorem dX6_pace_29 : decode cX6_pace 29 = .ok (.getfield 90, 3) := by decide +kernel
theorem dX6_pace_32 : decode cX6_pace 32 = .ok (.iconst 0, 1) := by decide +kernel
theorem dX6_pace_33 : decode cX6_pace 33 = .ok (.invokestatic 154, 3) := by decide +kernel
theorem dX6_pace_36 : decode cX6_pace 36 = .ok (.aload_n 0, 1) := by decide +kernel
theorem dX6_pace_37 : decode cX6_pace 37 = .ok (.invokevirtual 238, 3) := by decide +kernel
theorem dX6_pace_40 : decode cX6_pace 40 = .ok (.ifCond .ne 7, 3) := by decide +kernel
theorem dX6_pace_43 : decode cX6_pace 43 = .ok (.iconst (-1), 1) := by decide +kernel
theorem dX6_pace_44 : decode cX6_pace 44 = .ok (.goto 18, 3) := by decide +kernel
theorem dX6_pace_47 : decode cX6_pace 47 = .ok (.iload_n 1, 1) := by decide +kernel
theorem dX6_pace_48 : decode cX6_pace 48 = .ok (.ifCond .ne 10, 3) := by decide +kernel
theorem dX6_pace_51 : decode cX6_pace 51 = .ok (.aload_n 0, 1) := by decide +kernel
theorem dX6_pace_52 : decode cX6_pace 52 = .ok (.getfield 232, 3) := by decide +kernel
theorem dX6_pace_55 : decode cX6_pace 55 = .ok (.goto 7, 3) := by decide +kernel
theorem dX6_pace_58 : decode cX6_pace 58 = .ok (.aload_n 0, 1) := by decide +kernel
theorem dX6_pace_59 : decode cX6_pace 59 = .ok (.getfield 235, 3) := by decide +kernel
theorem dX6_pace_62 : decode cX6_pace 62 = .ok (.ireturn, 1) := by decide +kernel
theorem dX6_ringOf_0 : decode cX6_ringOf 0 = .ok (.iconst 0, 1) := by decide +kernel
theorem dX6_ringOf_1 : decode cX6_ringOf 1 = .ok (.istore_n 2, 1) := by decide +kernel
theorem dX6_ringOf_2 : decode cX6_ringOf 2 = .ok (.aload_n 0, 1) := by decide +kernel
theorem dX6_ringOf_3 : decode cX6_ringOf 3 = .ok (.getfield 84, 3) := by decide +kernel
theorem dX6_ringOf_6 : decode cX6_ringOf 6 = .ok (.bipush 15, 2) := by decide +kernel
theorem dX6_ringOf_8 : decode cX6_ringOf 8 = .ok (.iconst 4, 1) := by decide +kernel
theorem dX6_ringOf_9 : decode cX6_ringOf 9 = .ok (.iload_n 1, 1) := by decide +kernel
theorem dX6_ringOf_10 : decode cX6_ringOf 10 = .ok (.imul, 1) := by decide +kernel
theorem dX6_ringOf_11 : decode cX6_ringOf 11 = .ok (.iadd, 1) := by decide +kernel
theorem dX6_ringOf_12 : decode cX6_ringOf 12 = .ok (.iaload, 1) := by decide +kernel
theorem dX6_ringOf_13 : decode cX6_ringOf 13 = .ok (.istore_n 3, 1) := by decide +kernel
theorem dX6_ringOf_14 : decode cX6_ringOf 14 = .ok (.iload_n 3, 1) := by decide +kernel
theorem dX6_ringOf_15 : decode cX6_ringOf 15 = .ok (.aload_n 0, 1) := by decide +kernel
theorem dX6_ringOf_16 : decode cX6_ringOf 16 = .ok (.getfield 84, 3) := by decide +kernel
theorem dX6_ringOf_19 : decode cX6_ringOf 19 = .ok (.bipush 15, 2) := by decide +kernel
theorem dX6_ringOf_21 : decode cX6_ringOf 21 = .ok (.iconst 4, 1) := by decide +kernel
theorem dX6_ringOf_22 : decode cX6_ringOf 22 = .ok (.iload_n 1, 1) := by decide +kernel
theorem dX6_ringOf_23 : decode cX6_ringOf 23 = .ok (.imul, 1) := by decide +kernel
theorem dX6_ringOf_24 : decode cX6_ringOf 24 = .ok (.iadd, 1) := by decide +kernel
theorem dX6_ringOf_25 : decode cX6_ringOf 25 = .ok (.iconst 1, 1) := by decide +kernel
theorem dX6_ringOf_26 : decode cX6_ringOf 26 = .ok (.iadd, 1) := by decide +kernel
theorem dX6_ringOf_27 : decode cX6_ringOf 27 = .ok (.iaload, 1) := by decide +kernel
theorem dX6_ringOf_28 : decode cX6_ringOf 28 = .ok (.if_icmp .gt 20, 3) := by decide +kernel
theorem dX6_ringOf_31 : decode cX6_ringOf 31 = .ok (.iload_n 2, 1) := by decide +kernel
theorem dX6_ringOf_32 : decode cX6_ringOf 32 = .ok (.aload_n 0, 1) := by decide +kernel
theorem dX6_ringOf_33 : decode cX6_ringOf 33 = .ok (.getfield 84, 3) := by decide +kernel
theorem dX6_ringOf_36 : decode cX6_ringOf 36 = .ok (.iconst 2, 1) := by decide +kernel
theorem dX6_ringOf_37 : decode cX6_ringOf 37 = .ok (.iload_n 3, 1) := by decide +kernel
theorem dX6_ringOf_38 : decode cX6_ringOf 38 = .ok (.iadd, 1) := by decide +kernel
theorem dX6_ringOf_39 : decode cX6_ringOf 39 = .ok (.iaload, 1) := by decide +kernel
theorem dX6_ringOf_40 : decode cX6_ringOf 40 = .ok (.iadd, 1) := by decide +kernel
theorem dX6_ringOf_41 : decode cX6_ringOf 41 = .ok (.istore_n 2, 1) := by decide +kernel
theorem dX6_ringOf_42 : decode cX6_ringOf 42 = .ok (.iinc 3 1, 3) := by decide +kernel
theorem dX6_ringOf_45 : decode cX6_ringOf 45 = .ok (.goto (-31), 3) := by decide +kernel
theorem dX6_ringOf_48 : decode cX6_ringOf 48 = .ok (.iload_n 2, 1) := by decide +kernel
theorem dX6_ringOf_49 : decode cX6_ringOf 49 = .ok (.ireturn, 1) := by decide +kernel
theorem dX6_bound_0 : decode cX6_bound 0 = .ok (.aload_n 0, 1) := by decide +kernel
theorem dX6_bound_1 : decode cX6_bound 1 = .ok (.iconst 0, 1) := by decide +kernel
theorem dX6_bound_2 : decode cX6_bound 2 = .ok (.putfield 1, 3) := by decide +kernel
theorem dX6_bound_5 : decode cX6_bound 5 = .ok (.aload_n 0, 1) := by decide +kernel
theorem dX6_bound_6 : decode cX6_bound 6 = .ok (.invokevirtual 209, 3) := by decide +kernel
theorem dX6_bound_9 : decode cX6_bound 9 = .ok (.ifCond .eq 12, 3) := by decide +kernel
theorem dX6_bound_12 : decode cX6_bound 12 = .ok (.iload_n 1, 1) := by decide +kernel
theorem dX6_bound_13 : decode cX6_bound 13 = .ok (.iconst 0, 1) := by decide +kernel
theorem dX6_bound_14 : decode cX6_bound 14 = .ok (.iconst 2, 1) := by decide +kernel
theorem dX6_bound_15 : decode cX6_bound 15 = .ok (.invokestatic 114, 3) := by decide +kernel
theorem dX6_bound_18 : decode cX6_bound 18 = .ok (.ifCond .ne 5, 3) := by decide +kernel
theorem dX6_bound_21 : decode cX6_bound 21 = .ok (.iconst (-1), 1) := by decide +kernel
theorem dX6_bound_22 : decode cX6_bound 22 = .ok (.ireturn, 1) := by decide +kernel
theorem dX6_bound_23 : decode cX6_bound 23 = .ok (.iconst 0, 1) := by decide +kernel
theorem dX6_bound_24 : decode cX6_bound 24 = .ok (.istore_n 2, 1) := by decide +kernel
theorem dX6_bound_25 : decode cX6_bound 25 = .ok (.aload_n 0, 1) := by decide +kernel
theorem dX6_bound_26 : decode cX6_bound 26 = .ok (.iconst 0, 1) := by decide +kernel
theorem dX6_bound_27 : decode cX6_bound 27 = .ok (.invokevirtual 241, 3) := by decide +kernel
theorem dX6_bound_30 : decode cX6_bound 30 = .ok (.istore_n 3, 1) := by decide +kernel
theorem dX6_bound_31 : decode cX6_bound 31 = .ok (.aload_n 0, 1) := by decide +kernel
theorem dX6_bound_32 : decode cX6_bound 32 = .ok (.getfield 84, 3) := by decide +kernel
theorem dX6_bound_35 : decode cX6_bound 35 = .ok (.bipush 17, 2) := by decide +kernel
theorem dX6_bound_37 : decode cX6_bound 37 = .ok (.iaload, 1) := by decide +kernel
theorem dX6_bound_38 : decode cX6_bound 38 = .ok (.istore 4, 2) := by decide +kernel
theorem dX6_bound_40 : decode cX6_bound 40 = .ok (.iconst 1, 1) := by decide +kernel
theorem dX6_bound_41 : decode cX6_bound 41 = .ok (.istore 5, 2) := by decide +kernel
theorem dX6_bound_43 : decode cX6_bound 43 = .ok (.iload 5, 2) := by decide +kernel
theorem dX6_bound_45 : decode cX6_bound 45 = .ok (.aload_n 0, 1) := by decide +kernel
theorem dX6_bound_46 : decode cX6_bound 46 = .ok (.getfield 84, 3) := by decide +kernel
theorem dX6_bound_49 : decode cX6_bound 49 = .ok (.bipush 14, 2) := by decide +kernel
theorem dX6_bound_51 : decode cX6_bound 51 = .ok (.iaload, 1) := by decide +kernel
theorem dX6_bound_52 : decode cX6_bound 52 = .ok (.aload_n 0, 1) := by decide +kernel
theorem dX6_bound_53 : decode cX6_bound 53 = .ok (.getfield 84, 3) := by decide +kernel
theorem dX6_bound_56 : decode cX6_bound 56 = .ok (.iconst 1, 1) := by decide +kernel
theorem dX6_bound_57 : decode cX6_bound 57 = .ok (.iaload, 1) := by decide +kernel
theorem dX6_bound_58 : decode cX6_bound 58 = .ok (.iadd, 1) := by decide +kernel
theorem dX6_bound_59 : decode cX6_bound 59 = .ok (.if_icmp .ge 132, 3) := by decide +kernel
theorem dX6_bound_62 : decode cX6_bound 62 = .ok (.iload 5, 2) := by decide +kernel
theorem dX6_bound_64 : decode cX6_bound 64 = .ok (.aload_n 0, 1) := by decide +kernel
theorem dX6_bound_65 : decode cX6_bound 65 = .ok (.getfield 84, 3) := by decide +kernel
theorem dX6_bound_68 : decode cX6_bound 68 = .ok (.bipush 14, 2) := by decide +kernel
theorem dX6_bound_70 : decode cX6_bound 70 = .ok (.iaload, 1) := by decide +kernel
theorem dX6_bound_71 : decode cX6_bound 71 = .ok (.if_icmp .ge 7, 3) := by decide +kernel
theorem dX6_bound_74 : decode cX6_bound 74 = .ok (.iconst 1, 1) := by decide +kernel
theorem dX6_bound_75 : decode cX6_bound 75 = .ok (.goto 4, 3) := by decide +kernel
theorem dX6_bound_78 : decode cX6_bound 78 = .ok (.iconst 0, 1) := by decide +kernel
theorem dX6_bound_79 : decode cX6_bound 79 = .ok (.istore 6, 2) := by decide +kernel
theorem dX6_bound_81 : decode cX6_bound 81 = .ok (.iload 6, 2) := by decide +kernel
theorem dX6_bound_83 : decode cX6_bound 83 = .ok (.ifCond .eq 12, 3) := by decide +kernel
theorem dX6_bound_86 : decode cX6_bound 86 = .ok (.aload_n 0, 1) := by decide +kernel
theorem dX6_bound_87 : decode cX6_bound 87 = .ok (.iload 5, 2) := by decide +kernel
theorem dX6_bound_89 : decode cX6_bound 89 = .ok (.invokevirtual 241, 3) := by decide +kernel
theorem dX6_bound_92 : decode cX6_bound 92 = .ok (.goto 20, 3) := by decide +kernel
theorem dX6_bound_95 : decode cX6_bound 95 = .ok (.aload_n 0, 1) := by decide +kernel
theorem dX6_bound_96 : decode cX6_bound 96 = .ok (.getfield 84, 3) := by decide +kernel
theorem dX6_bound_99 : decode cX6_bound 99 = .ok (.iconst 2, 1) := by decide +kernel
theorem dX6_bound_100 : decode cX6_bound 100 = .ok (.iload 5, 2) := by decide +kernel
theorem dX6_bound_102 : decode cX6_bound 102 = .ok (.iadd, 1) := by decide +kernel
theorem dX6_bound_103 : decode cX6_bound 103 = .ok (.aload_n 0, 1) := by decide +kernel
theorem dX6_bound_104 : decode cX6_bound 104 = .ok (.getfield 84, 3) := by decide +kernel
theorem dX6_bound_107 : decode cX6_bound 107 = .ok (.bipush 14, 2) := by decide +kernel
theorem dX6_bound_109 : decode cX6_bound 109 = .ok (.iaload, 1) := by decide +kernel
theorem dX6_bound_110 : decode cX6_bound 110 = .ok (.isub, 1) := by decide +kernel
theorem dX6_bound_111 : decode cX6_bound 111 = .ok (.iaload, 1) := by decide +kernel
theorem dX6_bound_112 : decode cX6_bound 112 = .ok (.istore 7, 2) := by decide +kernel
theorem dX6_bound_114 : decode cX6_bound 114 = .ok (.iload 6, 2) := by decide +kernel
theorem dX6_bound_116 : decode cX6_bound 116 = .ok (.ifCond .eq 20, 3) := by decide +kernel
theorem dX6_bound_119 : decode cX6_bound 119 = .ok (.aload_n 0, 1) := by decide +kernel
theorem dX6_bound_120 : decode cX6_bound 120 = .ok (.getfield 84, 3) := by decide +kernel
theorem dX6_bound_123 : decode cX6_bound 123 = .ok (.bipush 15, 2) := by decide +kernel
theorem dX6_bound_125 : decode cX6_bound 125 = .ok (.iconst 4, 1) := by decide +kernel
theorem dX6_bound_126 : decode cX6_bound 126 = .ok (.iload 5, 2) := by decide +kernel
theorem dX6_bound_128 : decode cX6_bound 128 = .ok (.imul, 1) := by decide +kernel
theorem dX6_bound_129 : decode cX6_bound 129 = .ok (.iadd, 1) := by decide +kernel
theorem dX6_bound_130 : decode cX6_bound 130 = .ok (.iconst 2, 1) := by decide +kernel
theorem dX6_bound_131 : decode cX6_bound 131 = .ok (.iadd, 1) := by decide +kernel
theorem dX6_bound_132 : decode cX6_bound 132 = .ok (.iaload, 1) := by decide +kernel
theorem dX6_bound_133 : decode cX6_bound 133 = .ok (.goto 4, 3) := by decide +kernel
theorem dX6_bound_136 : decode cX6_bound 136 = .ok (.iconst 1, 1) := by decide +kernel
theorem dX6_bound_137 : decode cX6_bound 137 = .ok (.istore 8, 2) := by decide +kernel
theorem dX6_bound_139 : decode cX6_bound 139 = .ok (.iload 7, 2) := by decide +kernel
theorem dX6_bound_141 : decode cX6_bound 141 = .ok (.iload 4, 2) := by decide +kernel
theorem dX6_bound_143 : decode cX6_bound 143 = .ok (.imul, 1) := by decide +kernel
theorem dX6_bound_144 : decode cX6_bound 144 = .ok (.iload_n 3, 1) := by decide +kernel
theorem dX6_bound_145 : decode cX6_bound 145 = .ok (.iload 8, 2) := by decide +kernel
theorem dX6_bound_147 : decode cX6_bound 147 = .ok (.imul, 1) := by decide +kernel
theorem dX6_bound_148 : decode cX6_bound 148 = .ok (.if_icmp .gt 6, 3) := by decide +kernel
theorem dX6_bound_151 : decode cX6_bound 151 = .ok (.goto 34, 3) := by decide +kernel
theorem dX6_bound_154 : decode cX6_bound 154 = .ok (.iload 6, 2) := by decide +kernel
theorem dX6_bound_156 : decode cX6_bound 156 = .ok (.ifCond .eq 8, 3) := by decide +kernel
theorem dX6_bound_159 : decode cX6_bound 159 = .ok (.iload 5, 2) := by decide +kernel
theorem dX6_bound_161 : decode cX6_bound 161 = .ok (.goto 16, 3) := by decide +kernel
theorem dX6_bound_164 : decode cX6_bound 164 = .ok (.bipush 100, 2) := by decide +kernel
theorem dX6_bound_166 : decode cX6_bound 166 = .ok (.iload 5, 2) := by decide +kernel
theorem dX6_bound_168 : decode cX6_bound 168 = .ok (.iadd, 1) := by decide +kernel
theorem dX6_bound_169 : decode cX6_bound 169 = .ok (.aload_n 0, 1) := by decide +kernel
theorem dX6_bound_170 : decode cX6_bound 170 = .ok (.getfield 84, 3) := by decide +kernel
theorem dX6_bound_173 : decode cX6_bound 173 = .ok (.bipush 14, 2) := by decide +kernel
theorem dX6_bound_175 : decode cX6_bound 175 = .ok (.iaload, 1) := by decide +kernel
theorem dX6_bound_176 : decode cX6_bound 176 = .ok (.isub, 1) := by decide +kernel
theorem dX6_bound_177 : decode cX6_bound 177 = .ok (.istore_n 2, 1) := by decide +kernel
theorem dX6_bound_178 : decode cX6_bound 178 = .ok (.iload 7, 2) := by decide +kernel
theorem dX6_bound_180 : decode cX6_bound 180 = .ok (.istore_n 3, 1) := by decide +kernel
theorem dX6_bound_181 : decode cX6_bound 181 = .ok (.iload 8, 2) := by decide +kernel
theorem dX6_bound_183 : decode cX6_bound 183 = .ok (.istore 4, 2) := by decide +kernel
theorem dX6_bound_185 : decode cX6_bound 185 = .ok (.iinc 5 1, 3) := by decide +kernel
theorem dX6_bound_188 : decode cX6_bound 188 = .ok (.goto (-145), 3) := by decide +kernel
theorem dX6_bound_191 : decode cX6_bound 191 = .ok (.iload 4, 2) := by decide +kernel
theorem dX6_bound_193 : decode cX6_bound 193 = .ok (.iload_n 3, 1) := by decide +kernel
theorem dX6_bound_194 : decode cX6_bound 194 = .ok (.invokestatic 7, 3) := by decide +kernel
theorem dX6_bound_197 : decode cX6_bound 197 = .ok (.istore 5, 2) := by decide +kernel
theorem dX6_bound_199 : decode cX6_bound 199 = .ok (.iload_n 1, 1) := by decide +kernel
theorem dX6_bound_200 : decode cX6_bound 200 = .ok (.ifCond .ne 11, 3) := by decide +kernel
theorem dX6_bound_203 : decode cX6_bound 203 = .ok (.iload 4, 2) := by decide +kernel
theorem dX6_bound_205 : decode cX6_bound 205 = .ok (.iload 5, 2) := by decide +kernel
theorem dX6_bound_207 : decode cX6_bound 207 = .ok (.idiv, 1) := by decide +kernel
theorem dX6_bound_208 : decode cX6_bound 208 = .ok (.goto 16, 3) := by decide +kernel
theorem dX6_bound_211 : decode cX6_bound 211 = .ok (.iload_n 1, 1) := by decide +kernel
theorem dX6_bound_212 : decode cX6_bound 212 = .ok (.iconst 1, 1) := by decide +kernel
theorem dX6_bound_213 : decode cX6_bound 213 = .ok (.if_icmp .ne 10, 3) := by decide +kernel
theorem dX6_bound_216 : decode cX6_bound 216 = .ok (.iload_n 3, 1) := by decide +kernel
theorem dX6_bound_217 : decode cX6_bound 217 = .ok (.iload 5, 2) := by decide +kernel
theorem dX6_bound_219 : decode cX6_bound 219 = .ok (.idiv, 1) := by decide +kernel
theorem dX6_bound_220 : decode cX6_bound 220 = .ok (.goto 4, 3) := by decide +kernel
theorem dX6_bound_223 : decode cX6_bound 223 = .ok (.iload_n 2, 1) := by decide +kernel
theorem dX6_bound_224 : decode cX6_bound 224 = .ok (.ireturn, 1) := by decide +kernel
theorem dX6_needs_0 : decode cX6_needs 0 = .ok (.aload_n 0, 1) := by decide +kernel
theorem dX6_needs_1 : decode cX6_needs 1 = .ok (.iconst 0, 1) := by decide +kernel
theorem dX6_needs_2 : decode cX6_needs 2 = .ok (.putfield 1, 3) := by decide +kernel
theorem dX6_needs_5 : decode cX6_needs 5 = .ok (.aload_n 0, 1) := by decide +kernel
theorem dX6_needs_6 : decode cX6_needs 6 = .ok (.iload_n 1, 1) := by decide +kernel
theorem dX6_needs_7 : decode cX6_needs 7 = .ok (.invokevirtual 206, 3) := by decide +kernel
theorem dX6_needs_10 : decode cX6_needs 10 = .ok (.ifCond .eq 23, 3) := by decide +kernel
theorem dX6_needs_13 : decode cX6_needs 13 = .ok (.iload_n 2, 1) := by decide +kernel
theorem dX6_needs_14 : decode cX6_needs 14 = .ok (.iconst 1, 1) := by decide +kernel
theorem dX6_needs_15 : decode cX6_needs 15 = .ok (.bipush 99, 2) := by decide +kernel
theorem dX6_needs_17 : decode cX6_needs 17 = .ok (.invokestatic 114, 3) := by decide +kernel
theorem dX6_needs_20 : decode cX6_needs 20 = .ok (.ifCond .eq 13, 3) := by decide +kernel
theorem dX6_needs_23 : decode cX6_needs 23 = .ok (.iload_n 3, 1) := by decide +kernel
theorem dX6_needs_24 : decode cX6_needs 24 = .ok (.iconst 1, 1) := by decide +kernel
theorem dX6_needs_25 : decode cX6_needs 25 = .ok (.bipush 99, 2) := by decide +kernel
theorem dX6_needs_27 : decode cX6_needs 27 = .ok (.invokestatic 114, 3) := by decide +kernel
theorem dX6_needs_30 : decode cX6_needs 30 = .ok (.ifCond .ne 5, 3) := by decide +kernel
theorem dX6_needs_33 : decode cX6_needs 33 = .ok (.iconst (-1), 1) := by decide +kernel
theorem dX6_needs_34 : decode cX6_needs 34 = .ok (.ireturn, 1) := by decide +kernel
theorem dX6_needs_35 : decode cX6_needs 35 = .ok (.iconst 1, 1) := by decide +kernel
theorem dX6_needs_36 : decode cX6_needs 36 = .ok (.istore 4, 2) := by decide +kernel
theorem dX6_needs_38 : decode cX6_needs 38 = .ok (.iload 4, 2) := by decide +kernel
theorem dX6_needs_40 : decode cX6_needs 40 = .ok (.iload_n 3, 1) := by decide +kernel
theorem dX6_needs_41 : decode cX6_needs 41 = .ok (.imul, 1) := by decide +kernel
theorem dX6_needs_42 : decode cX6_needs 42 = .ok (.iload_n 2, 1) := by decide +kernel
theorem dX6_needs_43 : decode cX6_needs 43 = .ok (.aload_n 0, 1) := by decide +kernel
theorem dX6_needs_44 : decode cX6_needs 44 = .ok (.iload_n 1, 1) := by decide +kernel
theorem dX6_needs_45 : decode cX6_needs 45 = .ok (.invokevirtual 241, 3) := by decide +kernel
theorem dX6_needs_48 : decode cX6_needs 48 = .ok (.imul, 1) := by decide +kernel
theorem dX6_needs_49 : decode cX6_needs 49 = .ok (.if_icmp .ge 9, 3) := by decide +kernel
theorem dX6_needs_52 : decode cX6_needs 52 = .ok (.iinc 4 1, 3) := by decide +kernel
theorem dX6_needs_55 : decode cX6_needs 55 = .ok (.goto (-17), 3) := by decide +kernel
theorem dX6_needs_58 : decode cX6_needs 58 = .ok (.iload 4, 2) := by decide +kernel
theorem dX6_needs_60 : decode cX6_needs 60 = .ok (.ireturn, 1) := by decide +kernel
theorem dX6_least_0 : decode cX6_least 0 = .ok (.aload_n 0, 1) := by decide +kernel
theorem dX6_least_1 : decode cX6_least 1 = .ok (.iconst 0, 1) := by decide +kernel
theorem dX6_least_2 : decode cX6_least 2 = .ok (.putfield 1, 3) := by decide +kernel
theorem dX6_least_5 : decode cX6_least 5 = .ok (.aload_n 0, 1) := by decide +kernel
theorem dX6_least_6 : decode cX6_least 6 = .ok (.iload_n 1, 1) := by decide +kernel
theorem dX6_least_7 : decode cX6_least 7 = .ok (.invokevirtual 206, 3) := by decide +kernel
theorem dX6_least_10 : decode cX6_least 10 = .ok (.ifCond .eq 23, 3) := by decide +kernel
theorem dX6_least_13 : decode cX6_least 13 = .ok (.iload_n 2, 1) := by decide +kernel
theorem dX6_least_14 : decode cX6_least 14 = .ok (.iconst 1, 1) := by decide +kernel
theorem dX6_least_15 : decode cX6_least 15 = .ok (.bipush 99, 2) := by decide +kernel
theorem dX6_least_17 : decode cX6_least 17 = .ok (.invokestatic 114, 3) := by decide +kernel
theorem dX6_least_20 : decode cX6_least 20 = .ok (.ifCond .eq 13, 3) := by decide +kernel
theorem dX6_least_23 : decode cX6_least 23 = .ok (.iload_n 3, 1) := by decide +kernel
theorem dX6_least_24 : decode cX6_least 24 = .ok (.iconst 1, 1) := by decide +kernel
theorem dX6_least_25 : decode cX6_least 25 = .ok (.bipush 99, 2) := by decide +kernel
theorem dX6_least_27 : decode cX6_least 27 = .ok (.invokestatic 114, 3) := by decide +kernel
theorem dX6_least_30 : decode cX6_least 30 = .ok (.ifCond .ne 5, 3) := by decide +kernel
theorem dX6_least_33 : decode cX6_least 33 = .ok (.iconst (-1), 1) := by decide +kernel
theorem dX6_least_34 : decode cX6_least 34 = .ok (.ireturn, 1) := by decide +kernel
theorem dX6_least_35 : decode cX6_least 35 = .ok (.iconst 1, 1) := by decide +kernel
theorem dX6_least_36 : decode cX6_least 36 = .ok (.istore 4, 2) := by decide +kernel
theorem dX6_least_38 : decode cX6_least 38 = .ok (.iload 4, 2) := by decide +kernel
theorem dX6_least_40 : decode cX6_least 40 = .ok (.bipush 20, 2) := by decide +kernel
theorem dX6_least_42 : decode cX6_least 42 = .ok (.if_icmp .gt 62, 3) := by decide +kernel
theorem dX6_least_45 : decode cX6_least 45 = .ok (.aload_n 0, 1) := by decide +kernel
theorem dX6_least_46 : decode cX6_least 46 = .ok (.getfield 84, 3) := by decide +kernel
theorem dX6_least_49 : decode cX6_least 49 = .ok (.iconst 0, 1) := by decide +kernel
theorem dX6_least_50 : decode cX6_least 50 = .ok (.aload_n 0, 1) := by decide +kernel
theorem dX6_least_51 : decode cX6_least 51 = .ok (.getfield 90, 3) := by decide +kernel
theorem dX6_least_54 : decode cX6_least 54 = .ok (.iconst 0, 1) := by decide +kernel
theorem dX6_least_55 : decode cX6_least 55 = .ok (.invokestatic 154, 3) := by decide +kernel
theorem dX6_least_58 : decode cX6_least 58 = .ok (.aload_n 0, 1) := by decide +kernel
theorem dX6_least_59 : decode cX6_least 59 = .ok (.getfield 90, 3) := by decide +kernel
theorem dX6_least_62 : decode cX6_least 62 = .ok (.bipush 15, 2) := by decide +kernel
theorem dX6_least_64 : decode cX6_least 64 = .ok (.iconst 4, 1) := by decide +kernel
theorem dX6_least_65 : decode cX6_least 65 = .ok (.iload_n 1, 1) := by decide +kernel
theorem dX6_least_66 : decode cX6_least 66 = .ok (.imul, 1) := by decide +kernel
theorem dX6_least_67 : decode cX6_least 67 = .ok (.iadd, 1) := by decide +kernel
theorem dX6_least_68 : decode cX6_least 68 = .ok (.iconst 2, 1) := by decide +kernel
theorem dX6_least_69 : decode cX6_least 69 = .ok (.iadd, 1) := by decide +kernel
theorem dX6_least_70 : decode cX6_least 70 = .ok (.iload 4, 2) := by decide +kernel
theorem dX6_least_72 : decode cX6_least 72 = .ok (.iastore, 1) := by decide +kernel
theorem dX6_least_73 : decode cX6_least 73 = .ok (.aload_n 0, 1) := by decide +kernel
theorem dX6_least_74 : decode cX6_least 74 = .ok (.invokevirtual 238, 3) := by decide +kernel
theorem dX6_least_77 : decode cX6_least 77 = .ok (.ifCond .eq 21, 3) := by decide +kernel
theorem dX6_least_80 : decode cX6_least 80 = .ok (.aload_n 0, 1) := by decide +kernel
theorem dX6_least_81 : decode cX6_least 81 = .ok (.getfield 232, 3) := by decide +kernel
theorem dX6_least_84 : decode cX6_least 84 = .ok (.iload_n 3, 1) := by decide +kernel
theorem dX6_least_85 : decode cX6_least 85 = .ok (.imul, 1) := by decide +kernel
theorem dX6_least_86 : decode cX6_least 86 = .ok (.iload_n 2, 1) := by decide +kernel
theorem dX6_least_87 : decode cX6_least 87 = .ok (.aload_n 0, 1) := by decide +kernel
theorem dX6_least_88 : decode cX6_least 88 = .ok (.getfield 235, 3) := by decide +kernel
theorem dX6_least_91 : decode cX6_least 91 = .ok (.imul, 1) := by decide +kernel
theorem dX6_least_92 : decode cX6_least 92 = .ok (.if_icmp .lt 6, 3) := by decide +kernel
theorem dX6_least_95 : decode cX6_least 95 = .ok (.iload 4, 2) := by decide +kernel
theorem dX6_least_97 : decode cX6_least 97 = .ok (.ireturn, 1) := by decide +kernel
theorem dX6_least_98 : decode cX6_least 98 = .ok (.iinc 4 1, 3) := by decide +kernel
theorem dX6_least_101 : decode cX6_least 101 = .ok (.goto (-63), 3) := by decide +kernel
theorem dX6_least_104 : decode cX6_least 104 = .ok (.bipush (-2), 2) := by decide +kernel
theorem dX6_least_106 : decode cX6_least 106 = .ok (.ireturn, 1) := by decide +kernel
theorem dX6_laysLonger_0 : decode cX6_laysLonger 0 = .ok (.aload_n 0, 1) := by decide +kernel
theorem dX6_laysLonger_1 : decode cX6_laysLonger 1 = .ok (.getfield 84, 3) := by decide +kernel
theorem dX6_laysLonger_4 : decode cX6_laysLonger 4 = .ok (.iconst 0, 1) := by decide +kernel
theorem dX6_laysLonger_5 : decode cX6_laysLonger 5 = .ok (.aload_n 0, 1) := by decide +kernel
theorem dX6_laysLonger_6 : decode cX6_laysLonger 6 = .ok (.getfield 90, 3) := by decide +kernel
theorem dX6_laysLonger_9 : decode cX6_laysLonger 9 = .ok (.iconst 0, 1) := by decide +kernel
theorem dX6_laysLonger_10 : decode cX6_laysLonger 10 = .ok (.invokestatic 154, 3) := by decide +kernel
theorem dX6_laysLonger_13 : decode cX6_laysLonger 13 = .ok (.iconst 0, 1) := by decide +kernel
theorem dX6_laysLonger_14 : decode cX6_laysLonger 14 = .ok (.istore_n 2, 1) := by decide +kernel
theorem dX6_laysLonger_15 : decode cX6_laysLonger 15 = .ok (.iload_n 2, 1) := by decide +kernel
theorem dX6_laysLonger_16 : decode cX6_laysLonger 16 = .ok (.aload_n 0, 1) := by decide +kernel
theorem dX6_laysLonger_17 : decode cX6_laysLonger 17 = .ok (.getfield 90, 3) := by decide +kernel
theorem dX6_laysLonger_20 : decode cX6_laysLonger 20 = .ok (.bipush 35, 2) := by decide +kernel
theorem dX6_laysLonger_22 : decode cX6_laysLonger 22 = .ok (.iaload, 1) := by decide +kernel
theorem dX6_laysLonger_23 : decode cX6_laysLonger 23 = .ok (.if_icmp .ge 26, 3) := by decide +kernel
theorem dX6_laysLonger_26 : decode cX6_laysLonger 26 = .ok (.aload_n 0, 1) := by decide +kernel
theorem dX6_laysLonger_27 : decode cX6_laysLonger 27 = .ok (.getfield 90, 3) := by decide +kernel
theorem dX6_laysLonger_30 : decode cX6_laysLonger 30 = .ok (.bipush 36, 2) := by decide +kernel
theorem dX6_laysLonger_32 : decode cX6_laysLonger 32 = .ok (.iconst 2, 1) := by decide +kernel
theorem dX6_laysLonger_33 : decode cX6_laysLonger 33 = .ok (.iload_n 2, 1) := by decide +kernel
theorem dX6_laysLonger_34 : decode cX6_laysLonger 34 = .ok (.imul, 1) := by decide +kernel
theorem dX6_laysLonger_35 : decode cX6_laysLonger 35 = .ok (.iadd, 1) := by decide +kernel
theorem dX6_laysLonger_36 : decode cX6_laysLonger 36 = .ok (.iconst 1, 1) := by decide +kernel
theorem dX6_laysLonger_37 : decode cX6_laysLonger 37 = .ok (.iadd, 1) := by decide +kernel
theorem dX6_laysLonger_38 : decode cX6_laysLonger 38 = .ok (.dup2, 1) := by decide +kernel
theorem dX6_laysLonger_39 : decode cX6_laysLonger 39 = .ok (.iaload, 1) := by decide +kernel
theorem dX6_laysLonger_40 : decode cX6_laysLonger 40 = .ok (.iload_n 1, 1) := by decide +kernel
theorem dX6_laysLonger_41 : decode cX6_laysLonger 41 = .ok (.imul, 1) := by decide +kernel
theorem dX6_laysLonger_42 : decode cX6_laysLonger 42 = .ok (.iastore, 1) := by decide +kernel
theorem dX6_laysLonger_43 : decode cX6_laysLonger 43 = .ok (.iinc 2 1, 3) := by decide +kernel
theorem dX6_laysLonger_46 : decode cX6_laysLonger 46 = .ok (.goto (-31), 3) := by decide +kernel
theorem dX6_laysLonger_49 : decode cX6_laysLonger 49 = .ok (.aload_n 0, 1) := by decide +kernel
theorem dX6_laysLonger_50 : decode cX6_laysLonger 50 = .ok (.invokevirtual 238, 3) := by decide +kernel
theorem dX6_laysLonger_53 : decode cX6_laysLonger 53 = .ok (.ireturn, 1) := by decide +kernel
theorem dX6_longer_0 : decode cX6_longer 0 = .ok (.aload_n 0, 1) := by decide +kernel
theorem dX6_longer_1 : decode cX6_longer 1 = .ok (.iconst 0, 1) := by decide +kernel
theorem dX6_longer_2 : decode cX6_longer 2 = .ok (.putfield 1, 3) := by decide +kernel
theorem dX6_longer_5 : decode cX6_longer 5 = .ok (.aload_n 0, 1) := by decide +kernel
theorem dX6_longer_6 : decode cX6_longer 6 = .ok (.invokevirtual 209, 3) := by decide +kernel
theorem dX6_longer_9 : decode cX6_longer 9 = .ok (.ifCond .eq 29, 3) := by decide +kernel
theorem dX6_longer_12 : decode cX6_longer 12 = .ok (.iload_n 1, 1) := by decide +kernel
theorem dX6_longer_13 : decode cX6_longer 13 = .ok (.iconst 1, 1) := by decide +kernel
theorem dX6_longer_14 : decode cX6_longer 14 = .ok (.iconst 5, 1) := by decide +kernel
theorem dX6_longer_15 : decode cX6_longer 15 = .ok (.invokestatic 114, 3) := by decide +kernel
theorem dX6_longer_18 : decode cX6_longer 18 = .ok (.ifCond .eq 20, 3) := by decide +kernel
theorem dX6_longer_21 : decode cX6_longer 21 = .ok (.iload_n 2, 1) := by decide +kernel
theorem dX6_longer_22 : decode cX6_longer 22 = .ok (.iconst 0, 1) := by decide +kernel
theorem dX6_longer_23 : decode cX6_longer 23 = .ok (.iconst 1, 1) := by decide +kernel
theorem dX6_longer_24 : decode cX6_longer 24 = .ok (.invokestatic 114, 3) := by decide +kernel
theorem dX6_longer_27 : decode cX6_longer 27 = .ok (.ifCond .eq 11, 3) := by decide +kernel
theorem dX6_longer_30 : decode cX6_longer 30 = .ok (.aload_n 0, 1) := by decide +kernel
theorem dX6_longer_31 : decode cX6_longer 31 = .ok (.iload_n 1, 1) := by decide +kernel
theorem dX6_longer_32 : decode cX6_longer 32 = .ok (.invokevirtual 244, 3) := by decide +kernel
theorem dX6_longer_35 : decode cX6_longer 35 = .ok (.ifCond .ne 5, 3) := by decide +kernel
theorem dX6_longer_38 : decode cX6_longer 38 = .ok (.iconst (-1), 1) := by decide +kernel
theorem dX6_longer_39 : decode cX6_longer 39 = .ok (.ireturn, 1) := by decide +kernel
theorem dX6_longer_40 : decode cX6_longer 40 = .ok (.iload_n 2, 1) := by decide +kernel
theorem dX6_longer_41 : decode cX6_longer 41 = .ok (.ifCond .ne 10, 3) := by decide +kernel
theorem dX6_longer_44 : decode cX6_longer 44 = .ok (.aload_n 0, 1) := by decide +kernel
theorem dX6_longer_45 : decode cX6_longer 45 = .ok (.getfield 232, 3) := by decide +kernel
theorem dX6_longer_48 : decode cX6_longer 48 = .ok (.goto 7, 3) := by decide +kernel
theorem dX6_longer_51 : decode cX6_longer 51 = .ok (.aload_n 0, 1) := by decide +kernel
theorem dX6_longer_52 : decode cX6_longer 52 = .ok (.getfield 235, 3) := by decide +kernel
theorem dX6_longer_55 : decode cX6_longer 55 = .ok (.ireturn, 1) := by decide +kernel
theorem dX6_longest_0 : decode cX6_longest 0 = .ok (.aload_n 0, 1) := by decide +kernel
theorem dX6_longest_1 : decode cX6_longest 1 = .ok (.iconst 0, 1) := by decide +kernel
theorem dX6_longest_2 : decode cX6_longest 2 = .ok (.putfield 1, 3) := by decide +kernel
theorem dX6_longest_5 : decode cX6_longest 5 = .ok (.aload_n 0, 1) := by decide +kernel
theorem dX6_longest_6 : decode cX6_longest 6 = .ok (.invokevirtual 209, 3) := by decide +kernel
theorem dX6_longest_9 : decode cX6_longest 9 = .ok (.ifCond .ne 5, 3) := by decide +kernel
theorem dX6_longest_12 : decode cX6_longest 12 = .ok (.iconst (-1), 1) := by decide +kernel
theorem dX6_longest_13 : decode cX6_longest 13 = .ok (.ireturn, 1) := by decide +kernel
theorem dX6_longest_14 : decode cX6_longest 14 = .ok (.iconst (-1), 1) := by decide +kernel
theorem dX6_longest_15 : decode cX6_longest 15 = .ok (.istore_n 1, 1) := by decide +kernel
theorem dX6_longest_16 : decode cX6_longest 16 = .ok (.iconst 0, 1) := by decide +kernel
theorem dX6_longest_17 : decode cX6_longest 17 = .ok (.istore_n 2, 1) := by decide +kernel
theorem dX6_longest_18 : decode cX6_longest 18 = .ok (.iconst 1, 1) := by decide +kernel
theorem dX6_longest_19 : decode cX6_longest 19 = .ok (.istore_n 3, 1) := by decide +kernel
theorem dX6_longest_20 : decode cX6_longest 20 = .ok (.iconst 1, 1) := by decide +kernel
theorem dX6_longest_21 : decode cX6_longest 21 = .ok (.istore 4, 2) := by decide +kernel
theorem dX6_longest_23 : decode cX6_longest 23 = .ok (.iload 4, 2) := by decide +kernel
theorem dX6_longest_25 : decode cX6_longest 25 = .ok (.iconst 5, 1) := by decide +kernel
theorem dX6_longest_26 : decode cX6_longest 26 = .ok (.if_icmp .gt 54, 3) := by decide +kernel
theorem dX6_longest_29 : decode cX6_longest 29 = .ok (.aload_n 0, 1) := by decide +kernel
theorem dX6_longest_30 : decode cX6_longest 30 = .ok (.iload 4, 2) := by decide +kernel
theorem dX6_longest_32 : decode cX6_longest 32 = .ok (.invokevirtual 244, 3) := by decide +kernel
theorem dX6_longest_35 : decode cX6_longest 35 = .ok (.ifCond .eq 39, 3) := by decide +kernel
theorem dX6_longest_38 : decode cX6_longest 38 = .ok (.aload_n 0, 1) := by decide +kernel
theorem dX6_longest_39 : decode cX6_longest 39 = .ok (.getfield 232, 3) := by decide +kernel
theorem dX6_longest_42 : decode cX6_longest 42 = .ok (.i2l, 1) := by decide +kernel
theorem dX6_longest_43 : decode cX6_longest 43 = .ok (.iload_n 3, 1) := by decide +kernel
theorem dX6_longest_44 : decode cX6_longest 44 = .ok (.i2l, 1) := by decide +kernel
theorem dX6_longest_45 : decode cX6_longest 45 = .ok (.lmul, 1) := by decide +kernel
theorem dX6_longest_46 : decode cX6_longest 46 = .ok (.iload_n 2, 1) := by decide +kernel
theorem dX6_longest_47 : decode cX6_longest 47 = .ok (.i2l, 1) := by decide +kernel
theorem dX6_longest_48 : decode cX6_longest 48 = .ok (.aload_n 0, 1) := by decide +kernel
theorem dX6_longest_49 : decode cX6_longest 49 = .ok (.getfield 235, 3) := by decide +kernel
theorem dX6_longest_52 : decode cX6_longest 52 = .ok (.i2l, 1) := by decide +kernel
theorem dX6_longest_53 : decode cX6_longest 53 = .ok (.lmul, 1) := by decide +kernel
theorem dX6_longest_54 : decode cX6_longest 54 = .ok (.lcmp, 1) := by decide +kernel
theorem dX6_longest_55 : decode cX6_longest 55 = .ok (.ifCond .gt 6, 3) := by decide +kernel
theorem dX6_longest_58 : decode cX6_longest 58 = .ok (.goto 16, 3) := by decide +kernel
theorem dX6_longest_61 : decode cX6_longest 61 = .ok (.iload 4, 2) := by decide +kernel
theorem dX6_longest_63 : decode cX6_longest 63 = .ok (.istore_n 1, 1) := by decide +kernel
theorem dX6_longest_64 : decode cX6_longest 64 = .ok (.aload_n 0, 1) := by decide +kernel
theorem dX6_longest_65 : decode cX6_longest 65 = .ok (.getfield 232, 3) := by decide +kernel
theorem dX6_longest_68 : decode cX6_longest 68 = .ok (.istore_n 2, 1) := by decide +kernel
theorem dX6_longest_69 : decode cX6_longest 69 = .ok (.aload_n 0, 1) := by decide +kernel
theorem dX6_longest_70 : decode cX6_longest 70 = .ok (.getfield 235, 3) := by decide +kernel
theorem dX6_longest_73 : decode cX6_longest 73 = .ok (.istore_n 3, 1) := by decide +kernel
theorem dX6_longest_74 : decode cX6_longest 74 = .ok (.iinc 4 1, 3) := by decide +kernel
theorem dX6_longest_77 : decode cX6_longest 77 = .ok (.goto (-54), 3) := by decide +kernel
theorem dX6_longest_80 : decode cX6_longest 80 = .ok (.iload_n 1, 1) := by decide +kernel
theorem dX6_longest_81 : decode cX6_longest 81 = .ok (.ireturn, 1) := by decide +kernel
theorem dX6_snap_0 : decode cX6_snap 0 = .ok (.aload_n 0, 1) := by decide +kernel
theorem dX6_snap_1 : decode cX6_snap 1 = .ok (.getfield 158, 3) := by decide +kernel
theorem dX6_snap_4 : decode cX6_snap 4 = .ok (.bipush 8, 2) := by decide +kernel
theorem dX6_snap_6 : decode cX6_snap 6 = .ok (.if_icmp .ne 44, 3) := by decide +kernel
theorem dX6_snap_9 : decode cX6_snap 9 = .ok (.iconst 0, 1) := by decide +kernel
theorem dX6_snap_10 : decode cX6_snap 10 = .ok (.istore_n 1, 1) := by decide +kernel
theorem dX6_snap_11 : decode cX6_snap 11 = .ok (.iload_n 1, 1) := by decide +kernel
theorem dX6_snap_12 : decode cX6_snap 12 = .ok (.sipush 2471, 3) := by decide +kernel
theorem dX6_snap_15 : decode cX6_snap 15 = .ok (.if_icmp .ge 25, 3) := by decide +kernel
theorem dX6_snap_18 : decode cX6_snap 18 = .ok (.aload_n 0, 1) := by decide +kernel
theorem dX6_snap_19 : decode cX6_snap 19 = .ok (.getfield 93, 3) := by decide +kernel
theorem dX6_snap_22 : decode cX6_snap 22 = .ok (.iload_n 1, 1) := by decide +kernel
theorem dX6_snap_23 : decode cX6_snap 23 = .ok (.aload_n 0, 1) := by decide +kernel
theorem dX6_snap_24 : decode cX6_snap 24 = .ok (.getfield 93, 3) := by decide +kernel
theorem dX6_snap_27 : decode cX6_snap 27 = .ok (.iload_n 1, 1) := by decide +kernel
theorem dX6_snap_28 : decode cX6_snap 28 = .ok (.sipush 353, 3) := by decide +kernel
theorem dX6_snap_31 : decode cX6_snap 31 = .ok (.iadd, 1) := by decide +kernel
theorem dX6_snap_32 : decode cX6_snap 32 = .ok (.iaload, 1) := by decide +kernel
theorem dX6_snap_33 : decode cX6_snap 33 = .ok (.iastore, 1) := by decide +kernel
theorem dX6_snap_34 : decode cX6_snap 34 = .ok (.iinc 1 1, 3) := by decide +kernel
theorem dX6_snap_37 : decode cX6_snap 37 = .ok (.goto (-26), 3) := by decide +kernel
theorem dX6_snap_40 : decode cX6_snap 40 = .ok (.aload_n 0, 1) := by decide +kernel
theorem dX6_snap_41 : decode cX6_snap 41 = .ok (.dup, 1) := by decide +kernel
theorem dX6_snap_42 : decode cX6_snap 42 = .ok (.getfield 158, 3) := by decide +kernel
theorem dX6_snap_45 : decode cX6_snap 45 = .ok (.iconst 1, 1) := by decide +kernel
theorem dX6_snap_46 : decode cX6_snap 46 = .ok (.isub, 1) := by decide +kernel
theorem dX6_snap_47 : decode cX6_snap 47 = .ok (.putfield 158, 3) := by decide +kernel
theorem dX6_snap_50 : decode cX6_snap 50 = .ok (.aload_n 0, 1) := by decide +kernel
theorem dX6_snap_51 : decode cX6_snap 51 = .ok (.getfield 84, 3) := by decide +kernel
theorem dX6_snap_54 : decode cX6_snap 54 = .ok (.iconst 0, 1) := by decide +kernel
theorem dX6_snap_55 : decode cX6_snap 55 = .ok (.aload_n 0, 1) := by decide +kernel
theorem dX6_snap_56 : decode cX6_snap 56 = .ok (.getfield 93, 3) := by decide +kernel
theorem dX6_snap_59 : decode cX6_snap 59 = .ok (.sipush 353, 3) := by decide +kernel
theorem dX6_snap_62 : decode cX6_snap 62 = .ok (.aload_n 0, 1) := by decide +kernel
theorem dX6_snap_63 : decode cX6_snap 63 = .ok (.getfield 158, 3) := by decide +kernel
theorem dX6_snap_66 : decode cX6_snap 66 = .ok (.imul, 1) := by decide +kernel
theorem dX6_snap_67 : decode cX6_snap 67 = .ok (.invokestatic 154, 3) := by decide +kernel
theorem dX6_snap_70 : decode cX6_snap 70 = .ok (.aload_n 0, 1) := by decide +kernel
theorem dX6_snap_71 : decode cX6_snap 71 = .ok (.dup, 1) := by decide +kernel
theorem dX6_snap_72 : decode cX6_snap 72 = .ok (.getfield 158, 3) := by decide +kernel
theorem dX6_snap_75 : decode cX6_snap 75 = .ok (.iconst 1, 1) := by decide +kernel
theorem dX6_snap_76 : decode cX6_snap 76 = .ok (.iadd, 1) := by decide +kernel
theorem dX6_snap_77 : decode cX6_snap 77 = .ok (.putfield 158, 3) := by decide +kernel
theorem dX6_snap_80 : decode cX6_snap 80 = .ok (.return_, 1) := by decide +kernel
theorem dX6_pass_0 : decode cX6_pass 0 = .ok (.aload_n 0, 1) := by decide +kernel
theorem dX6_pass_1 : decode cX6_pass 1 = .ok (.iconst 0, 1) := by decide +kernel
theorem dX6_pass_2 : decode cX6_pass 2 = .ok (.putfield 1, 3) := by decide +kernel
theorem dX6_pass_5 : decode cX6_pass 5 = .ok (.aload_n 0, 1) := by decide +kernel
theorem dX6_pass_6 : decode cX6_pass 6 = .ok (.invokevirtual 209, 3) := by decide +kernel
theorem dX6_pass_9 : decode cX6_pass 9 = .ok (.ifCond .eq 28, 3) := by decide +kernel
theorem dX6_pass_12 : decode cX6_pass 12 = .ok (.iload_n 1, 1) := by decide +kernel
theorem dX6_pass_13 : decode cX6_pass 13 = .ok (.iconst 1, 1) := by decide +kernel
theorem dX6_pass_14 : decode cX6_pass 14 = .ok (.sipush 999, 3) := by decide +kernel
theorem dX6_pass_17 : decode cX6_pass 17 = .ok (.invokestatic 114, 3) := by decide +kernel
theorem dX6_pass_20 : decode cX6_pass 20 = .ok (.ifCond .eq 17, 3) := by decide +kernel
theorem dX6_pass_23 : decode cX6_pass 23 = .ok (.aload_n 0, 1) := by decide +kernel
theorem dX6_pass_24 : decode cX6_pass 24 = .ok (.getfield 84, 3) := by decide +kernel
theorem dX6_pass_27 : decode cX6_pass 27 = .ok (.bipush 48, 2) := by decide +kernel
theorem dX6_pass_29 : decode cX6_pass 29 = .ok (.iaload, 1) := by decide +kernel
theorem dX6_pass_30 : decode cX6_pass 30 = .ok (.iload_n 1, 1) := by decide +kernel
theorem dX6_pass_31 : decode cX6_pass 31 = .ok (.iadd, 1) := by decide +kernel
theorem dX6_pass_32 : decode cX6_pass 32 = .ok (.ldc 247, 2) := by decide +kernel
theorem dX6_pass_34 : decode cX6_pass 34 = .ok (.if_icmp .le 5, 3) := by decide +kernel
theorem dX6_pass_37 : decode cX6_pass 37 = .ok (.iconst (-1), 1) := by decide +kernel
theorem dX6_pass_38 : decode cX6_pass 38 = .ok (.ireturn, 1) := by decide +kernel
theorem dX6_pass_39 : decode cX6_pass 39 = .ok (.aload_n 0, 1) := by decide +kernel
theorem dX6_pass_40 : decode cX6_pass 40 = .ok (.invokevirtual 248, 3) := by decide +kernel
theorem dX6_pass_43 : decode cX6_pass 43 = .ok (.aload_n 0, 1) := by decide +kernel
theorem dX6_pass_44 : decode cX6_pass 44 = .ok (.getfield 84, 3) := by decide +kernel
theorem dX6_pass_47 : decode cX6_pass 47 = .ok (.bipush 48, 2) := by decide +kernel
theorem dX6_pass_49 : decode cX6_pass 49 = .ok (.iaload, 1) := by decide +kernel
theorem dX6_pass_50 : decode cX6_pass 50 = .ok (.iload_n 1, 1) := by decide +kernel
theorem dX6_pass_51 : decode cX6_pass 51 = .ok (.iadd, 1) := by decide +kernel
theorem dX6_pass_52 : decode cX6_pass 52 = .ok (.istore_n 2, 1) := by decide +kernel
theorem dX6_pass_53 : decode cX6_pass 53 = .ok (.iconst 0, 1) := by decide +kernel
theorem dX6_pass_54 : decode cX6_pass 54 = .ok (.istore_n 3, 1) := by decide +kernel
theorem dX6_pass_55 : decode cX6_pass 55 = .ok (.aload_n 0, 1) := by decide +kernel
theorem dX6_pass_56 : decode cX6_pass 56 = .ok (.getfield 84, 3) := by decide +kernel
theorem dX6_pass_59 : decode cX6_pass 59 = .ok (.invokestatic 196, 3) := by decide +kernel
theorem dX6_pass_62 : decode cX6_pass 62 = .ok (.iload_n 2, 1) := by decide +kernel
theorem dX6_pass_63 : decode cX6_pass 63 = .ok (.if_icmp .gt 16, 3) := by decide +kernel
theorem dX6_pass_66 : decode cX6_pass 66 = .ok (.iload_n 3, 1) := by decide +kernel
theorem dX6_pass_67 : decode cX6_pass 67 = .ok (.aload_n 0, 1) := by decide +kernel
theorem dX6_pass_68 : decode cX6_pass 68 = .ok (.getfield 84, 3) := by decide +kernel
theorem dX6_pass_71 : decode cX6_pass 71 = .ok (.invokestatic 212, 3) := by decide +kernel
theorem dX6_pass_74 : decode cX6_pass 74 = .ok (.iadd, 1) := by decide +kernel
theorem dX6_pass_75 : decode cX6_pass 75 = .ok (.istore_n 3, 1) := by decide +kernel
theorem dX6_pass_76 : decode cX6_pass 76 = .ok (.goto (-21), 3) := by decide +kernel
theorem dX6_pass_79 : decode cX6_pass 79 = .ok (.aload_n 0, 1) := by decide +kernel
theorem dX6_pass_80 : decode cX6_pass 80 = .ok (.getfield 84, 3) := by decide +kernel
theorem dX6_pass_83 : decode cX6_pass 83 = .ok (.iload_n 2, 1) := by decide +kernel
theorem dX6_pass_84 : decode cX6_pass 84 = .ok (.aload_n 0, 1) := by decide +kernel
theorem dX6_pass_85 : decode cX6_pass 85 = .ok (.getfield 84, 3) := by decide +kernel
theorem dX6_pass_88 : decode cX6_pass 88 = .ok (.bipush 48, 2) := by decide +kernel
theorem dX6_pass_90 : decode cX6_pass 90 = .ok (.iaload, 1) := by decide +kernel
theorem dX6_pass_91 : decode cX6_pass 91 = .ok (.isub, 1) := by decide +kernel
theorem dX6_pass_92 : decode cX6_pass 92 = .ok (.invokestatic 199, 3) := by decide +kernel
theorem dX6_pass_95 : decode cX6_pass 95 = .ok (.iload_n 3, 1) := by decide +kernel
theorem dX6_pass_96 : decode cX6_pass 96 = .ok (.ireturn, 1) := by decide +kernel
theorem dX6_step_0 : decode cX6_step 0 = .ok (.aload_n 0, 1) := by decide +kernel
theorem dX6_step_1 : decode cX6_step 1 = .ok (.iconst 0, 1) := by decide +kernel
theorem dX6_step_2 : decode cX6_step 2 = .ok (.putfield 1, 3) := by decide +kernel
theorem dX6_step_5 : decode cX6_step 5 = .ok (.aload_n 0, 1) := by decide +kernel
theorem dX6_step_6 : decode cX6_step 6 = .ok (.invokevirtual 209, 3) := by decide +kernel
theorem dX6_step_9 : decode cX6_step 9 = .ok (.ifCond .eq 15, 3) := by decide +kernel
theorem dX6_step_12 : decode cX6_step 12 = .ok (.aload_n 0, 1) := by decide +kernel
theorem dX6_step_13 : decode cX6_step 13 = .ok (.getfield 84, 3) := by decide +kernel
theorem dX6_step_16 : decode cX6_step 16 = .ok (.invokestatic 196, 3) := by decide +kernel
theorem dX6_step_19 : decode cX6_step 19 = .ok (.ldc 247, 2) := by decide +kernel
theorem dX6_step_21 : decode cX6_step 21 = .ok (.if_icmp .le 5, 3) := by decide +kernel
theorem dX6_step_24 : decode cX6_step 24 = .ok (.iconst (-1), 1) := by decide +kernel
theorem dX6_step_25 : decode cX6_step 25 = .ok (.ireturn, 1) := by decide +kernel
theorem dX6_step_26 : decode cX6_step 26 = .ok (.aload_n 0, 1) := by decide +kernel
theorem dX6_step_27 : decode cX6_step 27 = .ok (.invokevirtual 248, 3) := by decide +kernel
theorem dX6_step_30 : decode cX6_step 30 = .ok (.aload_n 0, 1) := by decide +kernel
theorem dX6_step_31 : decode cX6_step 31 = .ok (.getfield 84, 3) := by decide +kernel
theorem dX6_step_34 : decode cX6_step 34 = .ok (.invokestatic 212, 3) := by decide +kernel
theorem dX6_step_37 : decode cX6_step 37 = .ok (.pop, 1) := by decide +kernel
theorem dX6_step_38 : decode cX6_step 38 = .ok (.aload_n 0, 1) := by decide +kernel
theorem dX6_step_39 : decode cX6_step 39 = .ok (.getfield 84, 3) := by decide +kernel
theorem dX6_step_42 : decode cX6_step 42 = .ok (.bipush 48, 2) := by decide +kernel
theorem dX6_step_44 : decode cX6_step 44 = .ok (.iaload, 1) := by decide +kernel
theorem dX6_step_45 : decode cX6_step 45 = .ok (.ireturn, 1) := by decide +kernel
theorem dX6_cards_0 : decode cX6_cards 0 = .ok (.aload_n 0, 1) := by decide +kernel
theorem dX6_cards_1 : decode cX6_cards 1 = .ok (.iconst 0, 1) := by decide +kernel
theorem dX6_cards_2 : decode cX6_cards 2 = .ok (.putfield 1, 3) := by decide +kernel
theorem dX6_cards_5 : decode cX6_cards 5 = .ok (.aload_n 0, 1) := by decide +kernel
theorem dX6_cards_6 : decode cX6_cards 6 = .ok (.iload_n 1, 1) := by decide +kernel
theorem dX6_cards_7 : decode cX6_cards 7 = .ok (.invokevirtual 206, 3) := by decide +kernel
theorem dX6_cards_10 : decode cX6_cards 10 = .ok (.ifCond .eq 13, 3) := by decide +kernel
theorem dX6_cards_13 : decode cX6_cards 13 = .ok (.iload_n 2, 1) := by decide +kernel
theorem dX6_cards_14 : decode cX6_cards 14 = .ok (.iconst 1, 1) := by decide +kernel
theorem dX6_cards_15 : decode cX6_cards 15 = .ok (.bipush 20, 2) := by decide +kernel
theorem dX6_cards_17 : decode cX6_cards 17 = .ok (.invokestatic 114, 3) := by decide +kernel
theorem dX6_cards_20 : decode cX6_cards 20 = .ok (.ifCond .ne 5, 3) := by decide +kernel
theorem dX6_cards_23 : decode cX6_cards 23 = .ok (.iconst (-1), 1) := by decide +kernel
theorem dX6_cards_24 : decode cX6_cards 24 = .ok (.ireturn, 1) := by decide +kernel
theorem dX6_cards_25 : decode cX6_cards 25 = .ok (.iload_n 2, 1) := by decide +kernel
theorem dX6_cards_26 : decode cX6_cards 26 = .ok (.aload_n 0, 1) := by decide +kernel
theorem dX6_cards_27 : decode cX6_cards 27 = .ok (.getfield 84, 3) := by decide +kernel
theorem dX6_cards_30 : decode cX6_cards 30 = .ok (.bipush 15, 2) := by decide +kernel
theorem dX6_cards_32 : decode cX6_cards 32 = .ok (.iconst 4, 1) := by decide +kernel
theorem dX6_cards_33 : decode cX6_cards 33 = .ok (.iload_n 1, 1) := by decide +kernel
theorem dX6_cards_34 : decode cX6_cards 34 = .ok (.imul, 1) := by decide +kernel
theorem dX6_cards_35 : decode cX6_cards 35 = .ok (.iadd, 1) := by decide +kernel
theorem dX6_cards_36 : decode cX6_cards 36 = .ok (.iconst 2, 1) := by decide +kernel
theorem dX6_cards_37 : decode cX6_cards 37 = .ok (.iadd, 1) := by decide +kernel
theorem dX6_cards_38 : decode cX6_cards 38 = .ok (.iaload, 1) := by decide +kernel
theorem dX6_cards_39 : decode cX6_cards 39 = .ok (.isub, 1) := by decide +kernel
theorem dX6_cards_40 : decode cX6_cards 40 = .ok (.istore_n 3, 1) := by decide +kernel
theorem dX6_cards_41 : decode cX6_cards 41 = .ok (.iload_n 3, 1) := by decide +kernel
theorem dX6_cards_42 : decode cX6_cards 42 = .ok (.ifCond .eq 21, 3) := by decide +kernel
theorem dX6_cards_45 : decode cX6_cards 45 = .ok (.aload_n 0, 1) := by decide +kernel
theorem dX6_cards_46 : decode cX6_cards 46 = .ok (.getfield 84, 3) := by decide +kernel
theorem dX6_cards_49 : decode cX6_cards 49 = .ok (.bipush 15, 2) := by decide +kernel
theorem dX6_cards_51 : decode cX6_cards 51 = .ok (.iconst 4, 1) := by decide +kernel
theorem dX6_cards_52 : decode cX6_cards 52 = .ok (.iload_n 1, 1) := by decide +kernel
theorem dX6_cards_53 : decode cX6_cards 53 = .ok (.imul, 1) := by decide +kernel
theorem dX6_cards_54 : decode cX6_cards 54 = .ok (.iadd, 1) := by decide +kernel
theorem dX6_cards_55 : decode cX6_cards 55 = .ok (.iconst 3, 1) := by decide +kernel
theorem dX6_cards_56 : decode cX6_cards 56 = .ok (.iadd, 1) := by decide +kernel
theorem dX6_cards_57 : decode cX6_cards 57 = .ok (.iaload, 1) := by decide +kernel
theorem dX6_cards_58 : decode cX6_cards 58 = .ok (.iload_n 3, 1) := by decide +kernel
theorem dX6_cards_59 : decode cX6_cards 59 = .ok (.iadd, 1) := by decide +kernel
theorem dX6_cards_60 : decode cX6_cards 60 = .ok (.ifCond .ge 5, 3) := by decide +kernel
theorem dX6_cards_63 : decode cX6_cards 63 = .ok (.iconst (-1), 1) := by decide +kernel
theorem dX6_cards_64 : decode cX6_cards 64 = .ok (.ireturn, 1) := by decide +kernel
theorem dX6_cards_65 : decode cX6_cards 65 = .ok (.aload_n 0, 1) := by decide +kernel
theorem dX6_cards_66 : decode cX6_cards 66 = .ok (.invokevirtual 248, 3) := by decide +kernel
theorem dX6_cards_69 : decode cX6_cards 69 = .ok (.aload_n 0, 1) := by decide +kernel
theorem dX6_cards_70 : decode cX6_cards 70 = .ok (.getfield 84, 3) := by decide +kernel
theorem dX6_cards_73 : decode cX6_cards 73 = .ok (.bipush 15, 2) := by decide +kernel
theorem dX6_cards_75 : decode cX6_cards 75 = .ok (.iconst 4, 1) := by decide +kernel
theorem dX6_cards_76 : decode cX6_cards 76 = .ok (.iload_n 1, 1) := by decide +kernel
theorem dX6_cards_77 : decode cX6_cards 77 = .ok (.imul, 1) := by decide +kernel
theorem dX6_cards_78 : decode cX6_cards 78 = .ok (.iadd, 1) := by decide +kernel
theorem dX6_cards_79 : decode cX6_cards 79 = .ok (.iconst 2, 1) := by decide +kernel
theorem dX6_cards_80 : decode cX6_cards 80 = .ok (.iadd, 1) := by decide +kernel
theorem dX6_cards_81 : decode cX6_cards 81 = .ok (.iload_n 2, 1) := by decide +kernel
theorem dX6_cards_82 : decode cX6_cards 82 = .ok (.iastore, 1) := by decide +kernel
theorem dX6_cards_83 : decode cX6_cards 83 = .ok (.aload_n 0, 1) := by decide +kernel
theorem dX6_cards_84 : decode cX6_cards 84 = .ok (.getfield 84, 3) := by decide +kernel
theorem dX6_cards_87 : decode cX6_cards 87 = .ok (.bipush 15, 2) := by decide +kernel
theorem dX6_cards_89 : decode cX6_cards 89 = .ok (.iconst 4, 1) := by decide +kernel
theorem dX6_cards_90 : decode cX6_cards 90 = .ok (.iload_n 1, 1) := by decide +kernel
theorem dX6_cards_91 : decode cX6_cards 91 = .ok (.imul, 1) := by decide +kernel
theorem dX6_cards_92 : decode cX6_cards 92 = .ok (.iadd, 1) := by decide +kernel
theorem dX6_cards_93 : decode cX6_cards 93 = .ok (.iconst 3, 1) := by decide +kernel
theorem dX6_cards_94 : decode cX6_cards 94 = .ok (.iadd, 1) := by decide +kernel
theorem dX6_cards_95 : decode cX6_cards 95 = .ok (.dup2, 1) := by decide +kernel
theorem dX6_cards_96 : decode cX6_cards 96 = .ok (.iaload, 1) := by decide +kernel
theorem dX6_cards_97 : decode cX6_cards 97 = .ok (.iload_n 3, 1) := by decide +kernel
theorem dX6_cards_98 : decode cX6_cards 98 = .ok (.iadd, 1) := by decide +kernel
theorem dX6_cards_99 : decode cX6_cards 99 = .ok (.iastore, 1) := by decide +kernel
theorem dX6_cards_100 : decode cX6_cards 100 = .ok (.iload_n 3, 1) := by decide +kernel
theorem dX6_cards_101 : decode cX6_cards 101 = .ok (.ifCond .le 11, 3) := by decide +kernel
theorem dX6_cards_104 : decode cX6_cards 104 = .ok (.aload_n 0, 1) := by decide +kernel
theorem dX6_cards_105 : decode cX6_cards 105 = .ok (.getfield 84, 3) := by decide +kernel
theorem dX6_cards_108 : decode cX6_cards 108 = .ok (.invokestatic 190, 3) := by decide +kernel
theorem dX6_cards_111 : decode cX6_cards 111 = .ok (.pop, 1) := by decide +kernel
theorem dX6_cards_112 : decode cX6_cards 112 = .ok (.aload_n 0, 1) := by decide +kernel
theorem dX6_cards_113 : decode cX6_cards 113 = .ok (.getfield 84, 3) := by decide +kernel
theorem dX6_cards_116 : decode cX6_cards 116 = .ok (.bipush 15, 2) := by decide +kernel
theorem dX6_cards_118 : decode cX6_cards 118 = .ok (.iconst 4, 1) := by decide +kernel
theorem dX6_cards_119 : decode cX6_cards 119 = .ok (.iload_n 1, 1) := by decide +kernel
theorem dX6_cards_120 : decode cX6_cards 120 = .ok (.imul, 1) := by decide +kernel
theorem dX6_cards_121 : decode cX6_cards 121 = .ok (.iadd, 1) := by decide +kernel
theorem dX6_cards_122 : decode cX6_cards 122 = .ok (.iconst 3, 1) := by decide +kernel
theorem dX6_cards_123 : decode cX6_cards 123 = .ok (.iadd, 1) := by decide +kernel
theorem dX6_cards_124 : decode cX6_cards 124 = .ok (.iaload, 1) := by decide +kernel
theorem dX6_cards_125 : decode cX6_cards 125 = .ok (.ireturn, 1) := by decide +kernel
theorem dX6_anew_0 : decode cX6_anew 0 = .ok (.aload_n 0, 1) := by decide +kernel
theorem dX6_anew_1 : decode cX6_anew 1 = .ok (.iconst 0, 1) := by decide +kernel
theorem dX6_anew_2 : decode cX6_anew 2 = .ok (.putfield 1, 3) := by decide +kernel
theorem dX6_anew_5 : decode cX6_anew 5 = .ok (.aload_n 0, 1) := by decide +kernel
theorem dX6_anew_6 : decode cX6_anew 6 = .ok (.invokevirtual 209, 3) := by decide +kernel
theorem dX6_anew_9 : decode cX6_anew 9 = .ok (.ifCond .ne 5, 3) := by decide +kernel
theorem dX6_anew_12 : decode cX6_anew 12 = .ok (.iconst (-1), 1) := by decide +kernel
theorem dX6_anew_13 : decode cX6_anew 13 = .ok (.ireturn, 1) := by decide +kernel
theorem dX6_anew_14 : decode cX6_anew 14 = .ok (.aload_n 0, 1) := by decide +kernel
theorem dX6_anew_15 : decode cX6_anew 15 = .ok (.invokevirtual 248, 3) := by decide +kernel
theorem dX6_anew_18 : decode cX6_anew 18 = .ok (.aload_n 0, 1) := by decide +kernel
theorem dX6_anew_19 : decode cX6_anew 19 = .ok (.getfield 84, 3) := by decide +kernel
theorem dX6_anew_22 : decode cX6_anew 22 = .ok (.invokestatic 151, 3) := by decide +kernel
theorem dX6_anew_25 : decode cX6_anew 25 = .ok (.aload_n 0, 1) := by decide +kernel
theorem dX6_anew_26 : decode cX6_anew 26 = .ok (.getfield 84, 3) := by decide +kernel
theorem dX6_anew_29 : decode cX6_anew 29 = .ok (.bipush 50, 2) := by decide +kernel
theorem dX6_anew_31 : decode cX6_anew 31 = .ok (.iaload, 1) := by decide +kernel
theorem dX6_anew_32 : decode cX6_anew 32 = .ok (.aload_n 0, 1) := by decide +kernel
theorem dX6_anew_33 : decode cX6_anew 33 = .ok (.getfield 84, 3) := by decide +kernel
theorem dX6_anew_36 : decode cX6_anew 36 = .ok (.bipush 49, 2) := by decide +kernel
theorem dX6_anew_38 : decode cX6_anew 38 = .ok (.iaload, 1) := by decide +kernel
theorem dX6_anew_39 : decode cX6_anew 39 = .ok (.isub, 1) := by decide +kernel
theorem dX6_anew_40 : decode cX6_anew 40 = .ok (.ireturn, 1) := by decide +kernel
theorem dX6_undo_0 : decode cX6_undo 0 = .ok (.aload_n 0, 1) := by decide +kernel
theorem dX6_undo_1 : decode cX6_undo 1 = .ok (.iconst 0, 1) := by decide +kernel
theorem dX6_undo_2 : decode cX6_undo 2 = .ok (.putfield 1, 3) := by decide +kernel
theorem dX6_undo_5 : decode cX6_undo 5 = .ok (.aload_n 0, 1) := by decide +kernel
theorem dX6_undo_6 : decode cX6_undo 6 = .ok (.getfield 158, 3) := by decide +kernel
theorem dX6_undo_9 : decode cX6_undo 9 = .ok (.ifCond .ne 5, 3) := by decide +kernel
theorem dX6_undo_12 : decode cX6_undo 12 = .ok (.iconst (-1), 1) := by decide +kernel
theorem dX6_undo_13 : decode cX6_undo 13 = .ok (.ireturn, 1) := by decide +kernel
theorem dX6_undo_14 : decode cX6_undo 14 = .ok (.aload_n 0, 1) := by decide +kernel
theorem dX6_undo_15 : decode cX6_undo 15 = .ok (.dup, 1) := by decide +kernel
theorem dX6_undo_16 : decode cX6_undo 16 = .ok (.getfield 158, 3) := by decide +kernel
theorem dX6_undo_19 : decode cX6_undo 19 = .ok (.iconst 1, 1) := by decide +kernel
theorem dX6_undo_20 : decode cX6_undo 20 = .ok (.isub, 1) := by decide +kernel
theorem dX6_undo_21 : decode cX6_undo 21 = .ok (.putfield 158, 3) := by decide +kernel
theorem dX6_undo_24 : decode cX6_undo 24 = .ok (.aload_n 0, 1) := by decide +kernel
theorem dX6_undo_25 : decode cX6_undo 25 = .ok (.getfield 93, 3) := by decide +kernel
theorem dX6_undo_28 : decode cX6_undo 28 = .ok (.sipush 353, 3) := by decide +kernel
theorem dX6_undo_31 : decode cX6_undo 31 = .ok (.aload_n 0, 1) := by decide +kernel
theorem dX6_undo_32 : decode cX6_undo 32 = .ok (.getfield 158, 3) := by decide +kernel
theorem dX6_undo_35 : decode cX6_undo 35 = .ok (.imul, 1) := by decide +kernel
theorem dX6_undo_36 : decode cX6_undo 36 = .ok (.aload_n 0, 1) := by decide +kernel
theorem dX6_undo_37 : decode cX6_undo 37 = .ok (.getfield 84, 3) := by decide +kernel
theorem dX6_undo_40 : decode cX6_undo 40 = .ok (.iconst 0, 1) := by decide +kernel
theorem dX6_undo_41 : decode cX6_undo 41 = .ok (.invokestatic 154, 3) := by decide +kernel
theorem dX6_undo_44 : decode cX6_undo 44 = .ok (.aload_n 0, 1) := by decide +kernel
theorem dX6_undo_45 : decode cX6_undo 45 = .ok (.getfield 158, 3) := by decide +kernel
theorem dX6_undo_48 : decode cX6_undo 48 = .ok (.ireturn, 1) := by decide +kernel
