theorem dX5_init_0 : decode cX5_init 0 = .ok (.aload_n 0, 1) := by decide +kernel
theorem dX5_init_1 : decode cX5_init 1 = .ok (.invokespecial 3, 3) := by decide +kernel
theorem dX5_init_4 : decode cX5_init 4 = .ok (.aload_n 0, 1) := by decide +kernel
theorem dX5_init_5 : decode cX5_init 5 = .ok (.iconst 0, 1) := by decide +kernel
theorem dX5_init_6 : decode cX5_init 6 = .ok (.putfield 9, 3) := by decide +kernel
theorem dX5_init_9 : decode cX5_init 9 = .ok (.aload_n 0, 1) := by decide +kernel
theorem dX5_init_10 : decode cX5_init 10 = .ok (.iconst 5, 1) := by decide +kernel
theorem dX5_init_11 : decode cX5_init 11 = .ok (.newarray .int, 2) := by decide +kernel
theorem dX5_init_13 : decode cX5_init 13 = .ok (.putfield 13, 3) := by decide +kernel
theorem dX5_init_16 : decode cX5_init 16 = .ok (.aload_n 0, 1) := by decide +kernel
theorem dX5_init_17 : decode cX5_init 17 = .ok (.bipush 6, 2) := by decide +kernel
theorem dX5_init_19 : decode cX5_init 19 = .ok (.newarray .int, 2) := by decide +kernel
theorem dX5_init_21 : decode cX5_init 21 = .ok (.putfield 17, 3) := by decide +kernel
theorem dX5_init_24 : decode cX5_init 24 = .ok (.aload_n 0, 1) := by decide +kernel
theorem dX5_init_25 : decode cX5_init 25 = .ok (.bipush 6, 2) := by decide +kernel
theorem dX5_init_27 : decode cX5_init 27 = .ok (.newarray .int, 2) := by decide +kernel
theorem dX5_init_29 : decode cX5_init 29 = .ok (.putfield 20, 3) := by decide +kernel
theorem dX5_init_32 : decode cX5_init 32 = .ok (.sipush 440, 3) := by decide +kernel
theorem dX5_init_35 : decode cX5_init 35 = .ok (.newarray .int, 2) := by decide +kernel
theorem dX5_init_37 : decode cX5_init 37 = .ok (.astore_n 1, 1) := by decide +kernel
theorem dX5_init_38 : decode cX5_init 38 = .ok (.new 23, 3) := by decide +kernel
theorem dX5_init_41 : decode cX5_init 41 = .ok (.dup, 1) := by decide +kernel
theorem dX5_init_42 : decode cX5_init 42 = .ok (.invokespecial 25, 3) := by decide +kernel
theorem dX5_init_45 : decode cX5_init 45 = .ok (.astore_n 2, 1) := by decide +kernel
theorem dX5_init_46 : decode cX5_init 46 = .ok (.new 26, 3) := by decide +kernel
theorem dX5_init_49 : decode cX5_init 49 = .ok (.dup, 1) := by decide +kernel
theorem dX5_init_50 : decode cX5_init 50 = .ok (.aload_n 2, 1) := by decide +kernel
theorem dX5_init_51 : decode cX5_init 51 = .ok (.invokespecial 28, 3) := by decide +kernel
theorem dX5_init_54 : decode cX5_init 54 = .ok (.astore_n 3, 1) := by decide +kernel
theorem dX5_init_55 : decode cX5_init 55 = .ok (.aload_n 0, 1) := by decide +kernel
theorem dX5_init_56 : decode cX5_init 56 = .ok (.aload_n 1, 1) := by decide +kernel
theorem dX5_init_57 : decode cX5_init 57 = .ok (.putfield 31, 3) := by decide +kernel
theorem dX5_init_60 : decode cX5_init 60 = .ok (.aload_n 0, 1) := by decide +kernel
theorem dX5_init_61 : decode cX5_init 61 = .ok (.aload_n 2, 1) := by decide +kernel
theorem dX5_init_62 : decode cX5_init 62 = .ok (.putfield 34, 3) := by decide +kernel
theorem dX5_init_65 : decode cX5_init 65 = .ok (.aload_n 0, 1) := by decide +kernel
theorem dX5_init_66 : decode cX5_init 66 = .ok (.new 38, 3) := by decide +kernel
theorem dX5_init_69 : decode cX5_init 69 = .ok (.dup, 1) := by decide +kernel
theorem dX5_init_70 : decode cX5_init 70 = .ok (.aload_n 1, 1) := by decide +kernel
theorem dX5_init_71 : decode cX5_init 71 = .ok (.invokespecial 40, 3) := by decide +kernel
theorem dX5_init_74 : decode cX5_init 74 = .ok (.putfield 43, 3) := by decide +kernel
theorem dX5_init_77 : decode cX5_init 77 = .ok (.aload_n 0, 1) := by decide +kernel
theorem dX5_init_78 : decode cX5_init 78 = .ok (.new 26, 3) := by decide +kernel
theorem dX5_init_81 : decode cX5_init 81 = .ok (.dup, 1) := by decide +kernel
theorem dX5_init_82 : decode cX5_init 82 = .ok (.aload_n 2, 1) := by decide +kernel
theorem dX5_init_83 : decode cX5_init 83 = .ok (.invokespecial 28, 3) := by decide +kernel
theorem dX5_init_86 : decode cX5_init 86 = .ok (.putfield 47, 3) := by decide +kernel
theorem dX5_init_89 : decode cX5_init 89 = .ok (.aload_n 0, 1) := by decide +kernel
theorem dX5_init_90 : decode cX5_init 90 = .ok (.aload_n 3, 1) := by decide +kernel
theorem dX5_init_91 : decode cX5_init 91 = .ok (.putfield 51, 3) := by decide +kernel
theorem dX5_init_94 : decode cX5_init 94 = .ok (.aload_n 0, 1) := by decide +kernel
theorem dX5_init_95 : decode cX5_init 95 = .ok (.new 54, 3) := by decide +kernel
theorem dX5_init_98 : decode cX5_init 98 = .ok (.dup, 1) := by decide +kernel
theorem dX5_init_99 : decode cX5_init 99 = .ok (.aload_n 3, 1) := by decide +kernel
theorem dX5_init_100 : decode cX5_init 100 = .ok (.invokespecial 56, 3) := by decide +kernel
theorem dX5_init_103 : decode cX5_init 103 = .ok (.putfield 59, 3) := by decide +kernel
theorem dX5_init_106 : decode cX5_init 106 = .ok (.aload_n 0, 1) := by decide +kernel
theorem dX5_init_107 : decode cX5_init 107 = .ok (.new 63, 3) := by decide +kernel
theorem dX5_init_110 : decode cX5_init 110 = .ok (.dup, 1) := by decide +kernel
theorem dX5_init_111 : decode cX5_init 111 = .ok (.aload_n 2, 1) := by decide +kernel
theorem dX5_init_112 : decode cX5_init 112 = .ok (.invokespecial 65, 3) := by decide +kernel
theorem dX5_init_115 : decode cX5_init 115 = .ok (.putfield 66, 3) := by decide +kernel
theorem dX5_init_118 : decode cX5_init 118 = .ok (.return_, 1) := by decide +kernel
theorem dX5_feed_0 : decode cX5_feed 0 = .ok (.aload_n 0, 1) := by decide +kernel
theorem dX5_feed_1 : decode cX5_feed 1 = .ok (.getfield 9, 3) := by decide +kernel
theorem dX5_feed_4 : decode cX5_feed 4 = .ok (.sipush 420, 3) := by decide +kernel
theorem dX5_feed_7 : decode cX5_feed 7 = .ok (.if_icmp .le 5, 3) := by decide +kernel
theorem dX5_feed_10 : decode cX5_feed 10 = .ok (.iconst (-1), 1) := by decide +kernel
theorem dX5_feed_11 : decode cX5_feed 11 = .ok (.ireturn, 1) := by decide +kernel
theorem dX5_feed_12 : decode cX5_feed 12 = .ok (.aload_n 0, 1) := by decide +kernel
theorem dX5_feed_13 : decode cX5_feed 13 = .ok (.iload_n 1, 1) := by decide +kernel
theorem dX5_feed_14 : decode cX5_feed 14 = .ok (.invokevirtual 70, 3) := by decide +kernel
theorem dX5_feed_17 : decode cX5_feed 17 = .ok (.aload_n 0, 1) := by decide +kernel
theorem dX5_feed_18 : decode cX5_feed 18 = .ok (.iload_n 2, 1) := by decide +kernel
theorem dX5_feed_19 : decode cX5_feed 19 = .ok (.invokevirtual 70, 3) := by decide +kernel
theorem dX5_feed_22 : decode cX5_feed 22 = .ok (.aload_n 0, 1) := by decide +kernel
theorem dX5_feed_23 : decode cX5_feed 23 = .ok (.iload_n 3, 1) := by decide +kernel
theorem dX5_feed_24 : decode cX5_feed 24 = .ok (.invokevirtual 70, 3) := by decide +kernel
theorem dX5_feed_27 : decode cX5_feed 27 = .ok (.aload_n 0, 1) := by decide +kernel
theorem dX5_feed_28 : decode cX5_feed 28 = .ok (.iload 4, 2) := by decide +kernel
theorem dX5_feed_30 : decode cX5_feed 30 = .ok (.invokevirtual 70, 3) := by decide +kernel
theorem dX5_feed_33 : decode cX5_feed 33 = .ok (.aload_n 0, 1) := by decide +kernel
theorem dX5_feed_34 : decode cX5_feed 34 = .ok (.iload 5, 2) := by decide +kernel
theorem dX5_feed_36 : decode cX5_feed 36 = .ok (.invokevirtual 70, 3) := by decide +kernel
theorem dX5_feed_39 : decode cX5_feed 39 = .ok (.aload_n 0, 1) := by decide +kernel
theorem dX5_feed_40 : decode cX5_feed 40 = .ok (.getfield 9, 3) := by decide +kernel
theorem dX5_feed_43 : decode cX5_feed 43 = .ok (.ireturn, 1) := by decide +kernel
theorem dX5_putBytes_0 : decode cX5_putBytes 0 = .ok (.bipush 24, 2) := by decide +kernel
theorem dX5_putBytes_2 : decode cX5_putBytes 2 = .ok (.istore_n 2, 1) := by decide +kernel
theorem dX5_putBytes_3 : decode cX5_putBytes 3 = .ok (.iload_n 2, 1) := by decide +kernel
theorem dX5_putBytes_4 : decode cX5_putBytes 4 = .ok (.ifCond .lt 45, 3) := by decide +kernel
theorem dX5_putBytes_7 : decode cX5_putBytes 7 = .ok (.aload_n 0, 1) := by decide +kernel
theorem dX5_putBytes_8 : decode cX5_putBytes 8 = .ok (.getfield 9, 3) := by decide +kernel
theorem dX5_putBytes_11 : decode cX5_putBytes 11 = .ok (.sipush 440, 3) := by decide +kernel
theorem dX5_putBytes_14 : decode cX5_putBytes 14 = .ok (.if_icmp .ge 35, 3) := by decide +kernel
theorem dX5_putBytes_17 : decode cX5_putBytes 17 = .ok (.aload_n 0, 1) := by decide +kernel
theorem dX5_putBytes_18 : decode cX5_putBytes 18 = .ok (.getfield 31, 3) := by decide +kernel
theorem dX5_putBytes_21 : decode cX5_putBytes 21 = .ok (.aload_n 0, 1) := by decide +kernel
theorem dX5_putBytes_22 : decode cX5_putBytes 22 = .ok (.getfield 9, 3) := by decide +kernel
theorem dX5_putBytes_25 : decode cX5_putBytes 25 = .ok (.iload_n 1, 1) := by decide +kernel
theorem dX5_putBytes_26 : decode cX5_putBytes 26 = .ok (.iload_n 2, 1) := by decide +kernel
theorem dX5_putBytes_27 : decode cX5_putBytes 27 = .ok (.iushr, 1) := by decide +kernel
theorem dX5_putBytes_28 : decode cX5_putBytes 28 = .ok (.sipush 255, 3) := by decide +kernel
theorem dX5_putBytes_31 : decode cX5_putBytes 31 = .ok (.iand, 1) := by decide +kernel
theorem dX5_putBytes_32 : decode cX5_putBytes 32 = .ok (.iastore, 1) := by decide +kernel
theorem dX5_putBytes_33 : decode cX5_putBytes 33 = .ok (.aload_n 0, 1) := by decide +kernel
theorem dX5_putBytes_34 : decode cX5_putBytes 34 = .ok (.dup, 1) := by decide +kernel
theorem dX5_putBytes_35 : decode cX5_putBytes 35 = .ok (.getfield 9, 3) := by decide +kernel
theorem dX5_putBytes_38 : decode cX5_putBytes 38 = .ok (.iconst 1, 1) := by decide +kernel
theorem dX5_putBytes_39 : decode cX5_putBytes 39 = .ok (.iadd, 1) := by decide +kernel
theorem dX5_putBytes_40 : decode cX5_putBytes 40 = .ok (.putfield 9, 3) := by decide +kernel
theorem dX5_putBytes_43 : decode cX5_putBytes 43 = .ok (.iinc 2 (-8), 3) := by decide +kernel
theorem dX5_putBytes_46 : decode cX5_putBytes 46 = .ok (.goto (-43), 3) := by decide +kernel
theorem dX5_putBytes_49 : decode cX5_putBytes 49 = .ok (.return_, 1) := by decide +kernel
theorem dX5_end_0 : decode cX5_end 0 = .ok (.iload_n 1, 1) := by decide +kernel
theorem dX5_end_1 : decode cX5_end 1 = .ok (.ifCond .lt 11, 3) := by decide +kernel
theorem dX5_end_4 : decode cX5_end 4 = .ok (.iload_n 1, 1) := by decide +kernel
theorem dX5_end_5 : decode cX5_end 5 = .ok (.aload_n 0, 1) := by decide +kernel
theorem dX5_end_6 : decode cX5_end 6 = .ok (.getfield 9, 3) := by decide +kernel
theorem dX5_end_9 : decode cX5_end 9 = .ok (.if_icmp .le 5, 3) := by decide +kernel
theorem dX5_end_12 : decode cX5_end 12 = .ok (.iconst 0, 1) := by decide +kernel
theorem dX5_end_13 : decode cX5_end 13 = .ok (.ireturn, 1) := by decide +kernel
theorem dX5_end_14 : decode cX5_end 14 = .ok (.aload_n 0, 1) := by decide +kernel
theorem dX5_end_15 : decode cX5_end 15 = .ok (.iload_n 1, 1) := by decide +kernel
theorem dX5_end_16 : decode cX5_end 16 = .ok (.putfield 9, 3) := by decide +kernel
theorem dX5_end_19 : decode cX5_end 19 = .ok (.iconst 1, 1) := by decide +kernel
theorem dX5_end_20 : decode cX5_end 20 = .ok (.ireturn, 1) := by decide +kernel
theorem dX5_text_0 : decode cX5_text 0 = .ok (.aload_n 0, 1) := by decide +kernel
theorem dX5_text_1 : decode cX5_text 1 = .ok (.getfield 43, 3) := by decide +kernel
theorem dX5_text_4 : decode cX5_text 4 = .ok (.aload_n 0, 1) := by decide +kernel
theorem dX5_text_5 : decode cX5_text 5 = .ok (.getfield 9, 3) := by decide +kernel
theorem dX5_text_8 : decode cX5_text 8 = .ok (.invokevirtual 74, 3) := by decide +kernel
theorem dX5_text_11 : decode cX5_text 11 = .ok (.istore_n 1, 1) := by decide +kernel
theorem dX5_text_12 : decode cX5_text 12 = .ok (.aload_n 0, 1) := by decide +kernel
theorem dX5_text_13 : decode cX5_text 13 = .ok (.iconst 0, 1) := by decide +kernel
theorem dX5_text_14 : decode cX5_text 14 = .ok (.putfield 9, 3) := by decide +kernel
theorem dX5_text_17 : decode cX5_text 17 = .ok (.iload_n 1, 1) := by decide +kernel
theorem dX5_text_18 : decode cX5_text 18 = .ok (.ifCond .ge 5, 3) := by decide +kernel
theorem dX5_text_21 : decode cX5_text 21 = .ok (.iload_n 1, 1) := by decide +kernel
theorem dX5_text_22 : decode cX5_text 22 = .ok (.ireturn, 1) := by decide +kernel
theorem dX5_text_23 : decode cX5_text 23 = .ok (.aload_n 0, 1) := by decide +kernel
theorem dX5_text_24 : decode cX5_text 24 = .ok (.getfield 34, 3) := by decide +kernel
theorem dX5_text_27 : decode cX5_text 27 = .ok (.aload_n 0, 1) := by decide +kernel
theorem dX5_text_28 : decode cX5_text 28 = .ok (.getfield 43, 3) := by decide +kernel
theorem dX5_text_31 : decode cX5_text 31 = .ok (.getfield 78, 3) := by decide +kernel
theorem dX5_text_34 : decode cX5_text 34 = .ok (.invokevirtual 81, 3) := by decide +kernel
theorem dX5_text_37 : decode cX5_text 37 = .ok (.aload_n 0, 1) := by decide +kernel
theorem dX5_text_38 : decode cX5_text 38 = .ok (.getfield 47, 3) := by decide +kernel
theorem dX5_text_41 : decode cX5_text 41 = .ok (.aload_n 0, 1) := by decide +kernel
theorem dX5_text_42 : decode cX5_text 42 = .ok (.getfield 34, 3) := by decide +kernel
theorem dX5_text_45 : decode cX5_text 45 = .ok (.getfield 84, 3) := by decide +kernel
theorem dX5_text_48 : decode cX5_text 48 = .ok (.iconst 1, 1) := by decide +kernel
theorem dX5_text_49 : decode cX5_text 49 = .ok (.invokevirtual 87, 3) := by decide +kernel
theorem dX5_text_52 : decode cX5_text 52 = .ok (.aload_n 0, 1) := by decide +kernel
theorem dX5_text_53 : decode cX5_text 53 = .ok (.getfield 66, 3) := by decide +kernel
theorem dX5_text_56 : decode cX5_text 56 = .ok (.invokevirtual 91, 3) := by decide +kernel
theorem dX5_text_59 : decode cX5_text 59 = .ok (.aload_n 0, 1) := by decide +kernel
theorem dX5_text_60 : decode cX5_text 60 = .ok (.invokevirtual 94, 3) := by decide +kernel
theorem dX5_text_63 : decode cX5_text 63 = .ok (.iload_n 1, 1) := by decide +kernel
theorem dX5_text_64 : decode cX5_text 64 = .ok (.ireturn, 1) := by decide +kernel
theorem dX5_fault_0 : decode cX5_fault 0 = .ok (.aload_n 0, 1) := by decide +kernel
theorem dX5_fault_1 : decode cX5_fault 1 = .ok (.getfield 43, 3) := by decide +kernel
theorem dX5_fault_4 : decode cX5_fault 4 = .ok (.getfield 97, 3) := by decide +kernel
theorem dX5_fault_7 : decode cX5_fault 7 = .ok (.ireturn, 1) := by decide +kernel
theorem dX5_now_0 : decode cX5_now 0 = .ok (.iload_n 1, 1) := by decide +kernel
theorem dX5_now_1 : decode cX5_now 1 = .ok (.tableswitch 132 0 9 #[55, 63, 71, 79, 87, 95, 103, 111, 119, 127], 55) := by decide +kernel
theorem dX5_now_56 : decode cX5_now 56 = .ok (.aload_n 0, 1) := by decide +kernel
theorem dX5_now_57 : decode cX5_now 57 = .ok (.getfield 34, 3) := by decide +kernel
theorem dX5_now_60 : decode cX5_now 60 = .ok (.getfield 100, 3) := by decide +kernel
theorem dX5_now_63 : decode cX5_now 63 = .ok (.ireturn, 1) := by decide +kernel
theorem dX5_now_64 : decode cX5_now 64 = .ok (.aload_n 0, 1) := by decide +kernel
theorem dX5_now_65 : decode cX5_now 65 = .ok (.getfield 34, 3) := by decide +kernel
theorem dX5_now_68 : decode cX5_now 68 = .ok (.getfield 103, 3) := by decide +kernel
theorem dX5_now_71 : decode cX5_now 71 = .ok (.ireturn, 1) := by decide +kernel
theorem dX5_now_72 : decode cX5_now 72 = .ok (.aload_n 0, 1) := by decide +kernel
theorem dX5_now_73 : decode cX5_now 73 = .ok (.getfield 34, 3) := by decide +kernel
theorem dX5_now_76 : decode cX5_now 76 = .ok (.getfield 106, 3) := by decide +kernel
theorem dX5_now_79 : decode cX5_now 79 = .ok (.ireturn, 1) := by decide +kernel
theorem dX5_now_80 : decode cX5_now 80 = .ok (.aload_n 0, 1) := by decide +kernel
theorem dX5_now_81 : decode cX5_now 81 = .ok (.getfield 47, 3) := by decide +kernel
theorem dX5_now_84 : decode cX5_now 84 = .ok (.getfield 109, 3) := by decide +kernel
theorem dX5_now_87 : decode cX5_now 87 = .ok (.ireturn, 1) := by decide +kernel
theorem dX5_now_88 : decode cX5_now 88 = .ok (.aload_n 0, 1) := by decide +kernel
theorem dX5_now_89 : decode cX5_now 89 = .ok (.getfield 47, 3) := by decide +kernel
theorem dX5_now_92 : decode cX5_now 92 = .ok (.invokevirtual 112, 3) := by decide +kernel
theorem dX5_now_95 : decode cX5_now 95 = .ok (.ireturn, 1) := by decide +kernel
theorem dX5_now_96 : decode cX5_now 96 = .ok (.aload_n 0, 1) := by decide +kernel
theorem dX5_now_97 : decode cX5_now 97 = .ok (.getfield 47, 3) := by decide +kernel
theorem dX5_now_100 : decode cX5_now 100 = .ok (.invokevirtual 116, 3) := by decide +kernel
theorem dX5_now_103 : decode cX5_now 103 = .ok (.ireturn, 1) := by decide +kernel
theorem dX5_now_104 : decode cX5_now 104 = .ok (.aload_n 0, 1) := by decide +kernel
theorem dX5_now_105 : decode cX5_now 105 = .ok (.getfield 47, 3) := by decide +kernel
theorem dX5_now_108 : decode cX5_now 108 = .ok (.getfield 119, 3) := by decide +kernel
theorem dX5_now_111 : decode cX5_now 111 = .ok (.ireturn, 1) := by decide +kernel
theorem dX5_now_112 : decode cX5_now 112 = .ok (.aload_n 0, 1) := by decide +kernel
theorem dX5_now_113 : decode cX5_now 113 = .ok (.getfield 47, 3) := by decide +kernel
theorem dX5_now_116 : decode cX5_now 116 = .ok (.getfield 122, 3) := by decide +kernel
theorem dX5_now_119 : decode cX5_now 119 = .ok (.ireturn, 1) := by decide +kernel
theorem dX5_now_120 : decode cX5_now 120 = .ok (.aload_n 0, 1) := by decide +kernel
theorem dX5_now_121 : decode cX5_now 121 = .ok (.getfield 66, 3) := by decide +kernel
theorem dX5_now_124 : decode cX5_now 124 = .ok (.getfield 125, 3) := by decide +kernel
theorem dX5_now_127 : decode cX5_now 127 = .ok (.ireturn, 1) := by decide +kernel
theorem dX5_now_128 : decode cX5_now 128 = .ok (.aload_n 0, 1) := by decide +kernel
theorem dX5_now_129 : decode cX5_now 129 = .ok (.getfield 9, 3) := by decide +kernel
theorem dX5_now_132 : decode cX5_now 132 = .ok (.ireturn, 1) := by decide +kernel
theorem dX5_now_133 : decode cX5_now 133 = .ok (.iconst (-1), 1) := by decide +kernel
theorem dX5_now_134 : decode cX5_now 134 = .ok (.ireturn, 1) := by decide +kernel
theorem dX5_station_0 : decode cX5_station 0 = .ok (.iload_n 1, 1) := by decide +kernel
theorem dX5_station_1 : decode cX5_station 1 = .ok (.ifCond .lt 14, 3) := by decide +kernel
theorem dX5_station_4 : decode cX5_station 4 = .ok (.iload_n 1, 1) := by decide +kernel
theorem dX5_station_5 : decode cX5_station 5 = .ok (.aload_n 0, 1) := by decide +kernel
theorem dX5_station_6 : decode cX5_station 6 = .ok (.getfield 34, 3) := by decide +kernel
theorem dX5_station_9 : decode cX5_station 9 = .ok (.getfield 100, 3) := by decide +kernel
theorem dX5_station_12 : decode cX5_station 12 = .ok (.if_icmp .lt 13, 3) := by decide +kernel
theorem dX5_station_15 : decode cX5_station 15 = .ok (.new 128, 3) := by decide +kernel
theorem dX5_station_18 : decode cX5_station 18 = .ok (.dup, 1) := by decide +kernel
theorem dX5_station_19 : decode cX5_station 19 = .ok (.ldc 130, 2) := by decide +kernel
theorem dX5_station_21 : decode cX5_station 21 = .ok (.invokespecial 132, 3) := by decide +kernel
theorem dX5_station_24 : decode cX5_station 24 = .ok (.athrow, 1) := by decide +kernel
theorem dX5_station_25 : decode cX5_station 25 = .ok (.iload_n 2, 1) := by decide +kernel
theorem dX5_station_26 : decode cX5_station 26 = .ok (.tableswitch 143 0 9 #[54, 64, 74, 83, 92, 101, 126, 126, 126, 126], 54) := by decide +kernel
theorem dX5_station_80 : decode cX5_station 80 = .ok (.aload_n 0, 1) := by decide +kernel
theorem dX5_station_81 : decode cX5_station 81 = .ok (.getfield 34, 3) := by decide +kernel
theorem dX5_station_84 : decode cX5_station 84 = .ok (.getfield 135, 3) := by decide +kernel
theorem dX5_station_87 : decode cX5_station 87 = .ok (.iload_n 1, 1) := by decide +kernel
theorem dX5_station_88 : decode cX5_station 88 = .ok (.iaload, 1) := by decide +kernel
theorem dX5_station_89 : decode cX5_station 89 = .ok (.ireturn, 1) := by decide +kernel
theorem dX5_station_90 : decode cX5_station 90 = .ok (.aload_n 0, 1) := by decide +kernel
theorem dX5_station_91 : decode cX5_station 91 = .ok (.getfield 34, 3) := by decide +kernel
theorem dX5_station_94 : decode cX5_station 94 = .ok (.getfield 138, 3) := by decide +kernel
theorem dX5_station_97 : decode cX5_station 97 = .ok (.iload_n 1, 1) := by decide +kernel
theorem dX5_station_98 : decode cX5_station 98 = .ok (.iaload, 1) := by decide +kernel
theorem dX5_station_99 : decode cX5_station 99 = .ok (.ireturn, 1) := by decide +kernel
theorem dX5_station_100 : decode cX5_station 100 = .ok (.aload_n 0, 1) := by decide +kernel
theorem dX5_station_101 : decode cX5_station 101 = .ok (.getfield 47, 3) := by decide +kernel
theorem dX5_station_104 : decode cX5_station 104 = .ok (.iload_n 1, 1) := by decide +kernel
theorem dX5_station_105 : decode cX5_station 105 = .ok (.invokevirtual 141, 3) := by decide +kernel
theorem dX5_station_108 : decode cX5_station 108 = .ok (.ireturn, 1) := by decide +kernel
theorem dX5_station_109 : decode cX5_station 109 = .ok (.aload_n 0, 1) := by decide +kernel
theorem dX5_station_110 : decode cX5_station 110 = .ok (.getfield 47, 3) := by decide +kernel
theorem dX5_station_113 : decode cX5_station 113 = .ok (.iload_n 1, 1) := by decide +kernel
theorem dX5_station_114 : decode cX5_station 114 = .ok (.invokevirtual 144, 3) := by decide +kernel
theorem dX5_station_117 : decode cX5_station 117 = .ok (.ireturn, 1) := by decide +kernel
theorem dX5_station_118 : decode cX5_station 118 = .ok (.aload_n 0, 1) := by decide +kernel
theorem dX5_station_119 : decode cX5_station 119 = .ok (.getfield 47, 3) := by decide +kernel
theorem dX5_station_122 : decode cX5_station 122 = .ok (.iload_n 1, 1) := by decide +kernel
theorem dX5_station_123 : decode cX5_station 123 = .ok (.invokevirtual 147, 3) := by decide +kernel
theorem dX5_station_126 : decode cX5_station 126 = .ok (.ireturn, 1) := by decide +kernel
theorem dX5_station_127 : decode cX5_station 127 = .ok (.aload_n 0, 1) := by decide +kernel
theorem dX5_station_128 : decode cX5_station 128 = .ok (.getfield 47, 3) := by decide +kernel
theorem dX5_station_131 : decode cX5_station 131 = .ok (.iload_n 1, 1) := by decide +kernel
theorem dX5_station_132 : decode cX5_station 132 = .ok (.invokevirtual 150, 3) := by decide +kernel
theorem dX5_station_135 : decode cX5_station 135 = .ok (.ifCond .eq 7, 3) := by decide +kernel
theorem dX5_station_138 : decode cX5_station 138 = .ok (.iconst (-1), 1) := by decide +kernel
theorem dX5_station_139 : decode cX5_station 139 = .ok (.goto 12, 3) := by decide +kernel
theorem dX5_station_142 : decode cX5_station 142 = .ok (.aload_n 0, 1) := by decide +kernel
theorem dX5_station_143 : decode cX5_station 143 = .ok (.getfield 47, 3) := by decide +kernel
theorem dX5_station_146 : decode cX5_station 146 = .ok (.getfield 154, 3) := by decide +kernel
theorem dX5_station_149 : decode cX5_station 149 = .ok (.iload_n 1, 1) := by decide +kernel
theorem dX5_station_150 : decode cX5_station 150 = .ok (.iaload, 1) := by decide +kernel
theorem dX5_station_151 : decode cX5_station 151 = .ok (.ireturn, 1) := by decide +kernel
theorem dX5_station_152 : decode cX5_station 152 = .ok (.aload_n 0, 1) := by decide +kernel
theorem dX5_station_153 : decode cX5_station 153 = .ok (.getfield 47, 3) := by decide +kernel
theorem dX5_station_156 : decode cX5_station 156 = .ok (.getfield 157, 3) := by decide +kernel
theorem dX5_station_159 : decode cX5_station 159 = .ok (.iload_n 1, 1) := by decide +kernel
theorem dX5_station_160 : decode cX5_station 160 = .ok (.iconst 4, 1) := by decide +kernel
theorem dX5_station_161 : decode cX5_station 161 = .ok (.imul, 1) := by decide +kernel
theorem dX5_station_162 : decode cX5_station 162 = .ok (.iload_n 2, 1) := by decide +kernel
theorem dX5_station_163 : decode cX5_station 163 = .ok (.iadd, 1) := by decide +kernel
theorem dX5_station_164 : decode cX5_station 164 = .ok (.bipush 6, 2) := by decide +kernel
theorem dX5_station_166 : decode cX5_station 166 = .ok (.isub, 1) := by decide +kernel
theorem dX5_station_167 : decode cX5_station 167 = .ok (.iaload, 1) := by decide +kernel
theorem dX5_station_168 : decode cX5_station 168 = .ok (.ireturn, 1) := by decide +kernel
theorem dX5_station_169 : decode cX5_station 169 = .ok (.new 128, 3) := by decide +kernel
theorem dX5_station_172 : decode cX5_station 172 = .ok (.dup, 1) := by decide +kernel
theorem dX5_station_173 : decode cX5_station 173 = .ok (.ldc 160, 2) := by decide +kernel
theorem dX5_station_175 : decode cX5_station 175 = .ok (.invokespecial 132, 3) := by decide +kernel
theorem dX5_station_178 : decode cX5_station 178 = .ok (.athrow, 1) := by decide +kernel
theorem dX5_waits_0 : decode cX5_waits 0 = .ok (.iload_n 1, 1) := by decide +kernel
theorem dX5_waits_1 : decode cX5_waits 1 = .ok (.ifCond .lt 30, 3) := by decide +kernel
theorem dX5_waits_4 : decode cX5_waits 4 = .ok (.iload_n 1, 1) := by decide +kernel
theorem dX5_waits_5 : decode cX5_waits 5 = .ok (.aload_n 0, 1) := by decide +kernel
theorem dX5_waits_6 : decode cX5_waits 6 = .ok (.getfield 34, 3) := by decide +kernel
theorem dX5_waits_9 : decode cX5_waits 9 = .ok (.getfield 100, 3) := by decide +kernel
theorem dX5_waits_12 : decode cX5_waits 12 = .ok (.if_icmp .ge 19, 3) := by decide +kernel
theorem dX5_waits_15 : decode cX5_waits 15 = .ok (.iload_n 2, 1) := by decide +kernel
theorem dX5_waits_16 : decode cX5_waits 16 = .ok (.ifCond .lt 15, 3) := by decide +kernel
theorem dX5_waits_19 : decode cX5_waits 19 = .ok (.iload_n 2, 1) := by decide +kernel
theorem dX5_waits_20 : decode cX5_waits 20 = .ok (.aload_n 0, 1) := by decide +kernel
theorem dX5_waits_21 : decode cX5_waits 21 = .ok (.getfield 47, 3) := by decide +kernel
theorem dX5_waits_24 : decode cX5_waits 24 = .ok (.iload_n 1, 1) := by decide +kernel
theorem dX5_waits_25 : decode cX5_waits 25 = .ok (.invokevirtual 147, 3) := by decide +kernel
theorem dX5_waits_28 : decode cX5_waits 28 = .ok (.if_icmp .lt 5, 3) := by decide +kernel
theorem dX5_waits_31 : decode cX5_waits 31 = .ok (.iconst (-1), 1) := by decide +kernel
theorem dX5_waits_32 : decode cX5_waits 32 = .ok (.ireturn, 1) := by decide +kernel
theorem dX5_waits_33 : decode cX5_waits 33 = .ok (.aload_n 0, 1) := by decide +kernel
theorem dX5_waits_34 : decode cX5_waits 34 = .ok (.getfield 47, 3) := by decide +kernel
theorem dX5_waits_37 : decode cX5_waits 37 = .ok (.aload_n 0, 1) := by decide +kernel
theorem dX5_waits_38 : decode cX5_waits 38 = .ok (.getfield 47, 3) := by decide +kernel
theorem dX5_waits_41 : decode cX5_waits 41 = .ok (.getfield 162, 3) := by decide +kernel
theorem dX5_waits_44 : decode cX5_waits 44 = .ok (.iload_n 1, 1) := by decide +kernel
theorem dX5_waits_45 : decode cX5_waits 45 = .ok (.iaload, 1) := by decide +kernel
theorem dX5_waits_46 : decode cX5_waits 46 = .ok (.iload_n 2, 1) := by decide +kernel
theorem dX5_waits_47 : decode cX5_waits 47 = .ok (.iadd, 1) := by decide +kernel
theorem dX5_waits_48 : decode cX5_waits 48 = .ok (.invokevirtual 165, 3) := by decide +kernel
theorem dX5_waits_51 : decode cX5_waits 51 = .ok (.ireturn, 1) := by decide +kernel
theorem dX5_loop_0 : decode cX5_loop 0 = .ok (.aload_n 0, 1) := by decide +kernel
theorem dX5_loop_1 : decode cX5_loop 1 = .ok (.iload_n 1, 1) := by decide +kernel
theorem dX5_loop_2 : decode cX5_loop 2 = .ok (.invokevirtual 168, 3) := by decide +kernel
theorem dX5_loop_5 : decode cX5_loop 5 = .ok (.ifCond .ne 5, 3) := by decide +kernel
theorem dX5_loop_8 : decode cX5_loop 8 = .ok (.iconst (-1), 1) := by decide +kernel
theorem dX5_loop_9 : decode cX5_loop 9 = .ok (.ireturn, 1) := by decide +kernel
theorem dX5_loop_10 : decode cX5_loop 10 = .ok (.iload_n 2, 1) := by decide +kernel
theorem dX5_loop_11 : decode cX5_loop 11 = .ok (.tableswitch 68 0 3 #[29, 39, 49, 59], 29) := by decide +kernel
theorem dX5_loop_40 : decode cX5_loop 40 = .ok (.aload_n 0, 1) := by decide +kernel
theorem dX5_loop_41 : decode cX5_loop 41 = .ok (.getfield 34, 3) := by decide +kernel
theorem dX5_loop_44 : decode cX5_loop 44 = .ok (.getfield 171, 3) := by decide +kernel
theorem dX5_loop_47 : decode cX5_loop 47 = .ok (.iload_n 1, 1) := by decide +kernel
theorem dX5_loop_48 : decode cX5_loop 48 = .ok (.iaload, 1) := by decide +kernel
theorem dX5_loop_49 : decode cX5_loop 49 = .ok (.ireturn, 1) := by decide +kernel
theorem dX5_loop_50 : decode cX5_loop 50 = .ok (.aload_n 0, 1) := by decide +kernel
theorem dX5_loop_51 : decode cX5_loop 51 = .ok (.getfield 34, 3) := by decide +kernel
theorem dX5_loop_54 : decode cX5_loop 54 = .ok (.getfield 174, 3) := by decide +kernel
theorem dX5_loop_57 : decode cX5_loop 57 = .ok (.iload_n 1, 1) := by decide +kernel
theorem dX5_loop_58 : decode cX5_loop 58 = .ok (.iaload, 1) := by decide +kernel
theorem dX5_loop_59 : decode cX5_loop 59 = .ok (.ireturn, 1) := by decide +kernel
theorem dX5_loop_60 : decode cX5_loop 60 = .ok (.aload_n 0, 1) := by decide +kernel
theorem dX5_loop_61 : decode cX5_loop 61 = .ok (.getfield 47, 3) := by decide +kernel
theorem dX5_loop_64 : decode cX5_loop 64 = .ok (.getfield 177, 3) := by decide +kernel
theorem dX5_loop_67 : decode cX5_loop 67 = .ok (.iload_n 1, 1) := by decide +kernel
theorem dX5_loop_68 : decode cX5_loop 68 = .ok (.iaload, 1) := by decide +kernel
theorem dX5_loop_69 : decode cX5_loop 69 = .ok (.ireturn, 1) := by decide +kernel
theorem dX5_loop_70 : decode cX5_loop 70 = .ok (.aload_n 0, 1) := by decide +kernel
theorem dX5_loop_71 : decode cX5_loop 71 = .ok (.getfield 47, 3) := by decide +kernel
theorem dX5_loop_74 : decode cX5_loop 74 = .ok (.iload_n 1, 1) := by decide +kernel
theorem dX5_loop_75 : decode cX5_loop 75 = .ok (.invokevirtual 180, 3) := by decide +kernel
theorem dX5_loop_78 : decode cX5_loop 78 = .ok (.ireturn, 1) := by decide +kernel
theorem dX5_loop_79 : decode cX5_loop 79 = .ok (.iconst (-1), 1) := by decide +kernel
theorem dX5_loop_80 : decode cX5_loop 80 = .ok (.ireturn, 1) := by decide +kernel
theorem dX5_next_0 : decode cX5_next 0 = .ok (.aload_n 0, 1) := by decide +kernel
theorem dX5_next_1 : decode cX5_next 1 = .ok (.invokevirtual 183, 3) := by decide +kernel
theorem dX5_next_4 : decode cX5_next 4 = .ok (.ifCond .ne 14, 3) := by decide +kernel
theorem dX5_next_7 : decode cX5_next 7 = .ok (.iload_n 1, 1) := by decide +kernel
theorem dX5_next_8 : decode cX5_next 8 = .ok (.ifCond .lt 10, 3) := by decide +kernel
theorem dX5_next_11 : decode cX5_next 11 = .ok (.iload_n 1, 1) := by decide +kernel
theorem dX5_next_12 : decode cX5_next 12 = .ok (.sipush 999, 3) := by decide +kernel
theorem dX5_next_15 : decode cX5_next 15 = .ok (.if_icmp .le 5, 3) := by decide +kernel
theorem dX5_next_18 : decode cX5_next 18 = .ok (.iconst (-1), 1) := by decide +kernel
theorem dX5_next_19 : decode cX5_next 19 = .ok (.ireturn, 1) := by decide +kernel
theorem dX5_next_20 : decode cX5_next 20 = .ok (.aload_n 0, 1) := by decide +kernel
theorem dX5_next_21 : decode cX5_next 21 = .ok (.getfield 47, 3) := by decide +kernel
theorem dX5_next_24 : decode cX5_next 24 = .ok (.aload_n 0, 1) := by decide +kernel
theorem dX5_next_25 : decode cX5_next 25 = .ok (.getfield 47, 3) := by decide +kernel
theorem dX5_next_28 : decode cX5_next 28 = .ok (.getfield 162, 3) := by decide +kernel
theorem dX5_next_31 : decode cX5_next 31 = .ok (.iconst 0, 1) := by decide +kernel
theorem dX5_next_32 : decode cX5_next 32 = .ok (.iaload, 1) := by decide +kernel
theorem dX5_next_33 : decode cX5_next 33 = .ok (.iload_n 1, 1) := by decide +kernel
theorem dX5_next_34 : decode cX5_next 34 = .ok (.iadd, 1) := by decide +kernel
theorem dX5_next_35 : decode cX5_next 35 = .ok (.invokevirtual 165, 3) := by decide +kernel
theorem dX5_next_38 : decode cX5_next 38 = .ok (.ireturn, 1) := by decide +kernel
theorem dX5_when_0 : decode cX5_when 0 = .ok (.aload_n 0, 1) := by decide +kernel
theorem dX5_when_1 : decode cX5_when 1 = .ok (.invokevirtual 183, 3) := by decide +kernel
theorem dX5_when_4 : decode cX5_when 4 = .ok (.ifCond .ne 24, 3) := by decide +kernel
theorem dX5_when_7 : decode cX5_when 7 = .ok (.iload_n 1, 1) := by decide +kernel
theorem dX5_when_8 : decode cX5_when 8 = .ok (.iconst 1, 1) := by decide +kernel
theorem dX5_when_9 : decode cX5_when 9 = .ok (.if_icmp .lt 19, 3) := by decide +kernel
theorem dX5_when_12 : decode cX5_when 12 = .ok (.iload_n 1, 1) := by decide +kernel
theorem dX5_when_13 : decode cX5_when 13 = .ok (.sipush 200, 3) := by decide +kernel
theorem dX5_when_16 : decode cX5_when 16 = .ok (.if_icmp .gt 12, 3) := by decide +kernel
theorem dX5_when_19 : decode cX5_when 19 = .ok (.iload_n 2, 1) := by decide +kernel
theorem dX5_when_20 : decode cX5_when 20 = .ok (.ifCond .lt 8, 3) := by decide +kernel
theorem dX5_when_23 : decode cX5_when 23 = .ok (.iload_n 2, 1) := by decide +kernel
theorem dX5_when_24 : decode cX5_when 24 = .ok (.iconst 1, 1) := by decide +kernel
theorem dX5_when_25 : decode cX5_when 25 = .ok (.if_icmp .le 5, 3) := by decide +kernel
theorem dX5_when_28 : decode cX5_when 28 = .ok (.iconst (-1), 1) := by decide +kernel
theorem dX5_when_29 : decode cX5_when 29 = .ok (.ireturn, 1) := by decide +kernel
theorem dX5_when_30 : decode cX5_when 30 = .ok (.aload_n 0, 1) := by decide +kernel
theorem dX5_when_31 : decode cX5_when 31 = .ok (.getfield 51, 3) := by decide +kernel
theorem dX5_when_34 : decode cX5_when 34 = .ok (.aload_n 0, 1) := by decide +kernel
theorem dX5_when_35 : decode cX5_when 35 = .ok (.getfield 47, 3) := by decide +kernel
theorem dX5_when_38 : decode cX5_when 38 = .ok (.invokevirtual 187, 3) := by decide +kernel
theorem dX5_when_41 : decode cX5_when 41 = .ok (.iconst 0, 1) := by decide +kernel
theorem dX5_when_42 : decode cX5_when 42 = .ok (.istore_n 3, 1) := by decide +kernel
theorem dX5_when_43 : decode cX5_when 43 = .ok (.iload_n 3, 1) := by decide +kernel
theorem dX5_when_44 : decode cX5_when 44 = .ok (.iload_n 1, 1) := by decide +kernel
theorem dX5_when_45 : decode cX5_when 45 = .ok (.if_icmp .ge 16, 3) := by decide +kernel
theorem dX5_when_48 : decode cX5_when 48 = .ok (.aload_n 0, 1) := by decide +kernel
theorem dX5_when_49 : decode cX5_when 49 = .ok (.getfield 51, 3) := by decide +kernel
theorem dX5_when_52 : decode cX5_when 52 = .ok (.invokevirtual 189, 3) := by decide +kernel
theorem dX5_when_55 : decode cX5_when 55 = .ok (.iinc 3 1, 3) := by decide +kernel
theorem dX5_when_58 : decode cX5_when 58 = .ok (.goto (-15), 3) := by decide +kernel
theorem dX5_when_61 : decode cX5_when 61 = .ok (.iload_n 2, 1) := by decide +kernel
theorem dX5_when_62 : decode cX5_when 62 = .ok (.ifCond .ne 13, 3) := by decide +kernel
theorem dX5_when_65 : decode cX5_when 65 = .ok (.aload_n 0, 1) := by decide +kernel
theorem dX5_when_66 : decode cX5_when 66 = .ok (.getfield 51, 3) := by decide +kernel
theorem dX5_when_69 : decode cX5_when 69 = .ok (.getfield 109, 3) := by decide +kernel
theorem dX5_when_72 : decode cX5_when 72 = .ok (.goto 10, 3) := by decide +kernel
theorem dX5_when_75 : decode cX5_when 75 = .ok (.aload_n 0, 1) := by decide +kernel
theorem dX5_when_76 : decode cX5_when 76 = .ok (.getfield 51, 3) := by decide +kernel
theorem dX5_when_79 : decode cX5_when 79 = .ok (.getfield 119, 3) := by decide +kernel
theorem dX5_when_82 : decode cX5_when 82 = .ok (.ireturn, 1) := by decide +kernel
theorem dX5_pace_0 : decode cX5_pace 0 = .ok (.aload_n 0, 1) := by decide +kernel
theorem dX5_pace_1 : decode cX5_pace 1 = .ok (.iconst 1, 1) := by decide +kernel
theorem dX5_pace_2 : decode cX5_pace 2 = .ok (.iload_n 1, 1) := by decide +kernel
theorem dX5_pace_3 : decode cX5_pace 3 = .ok (.invokevirtual 192, 3) := by decide +kernel
theorem dX5_pace_6 : decode cX5_pace 6 = .ok (.ireturn, 1) := by decide +kernel
theorem dX5_bound_0 : decode cX5_bound 0 = .ok (.aload_n 0, 1) := by decide +kernel
theorem dX5_bound_1 : decode cX5_bound 1 = .ok (.invokevirtual 183, 3) := by decide +kernel
theorem dX5_bound_4 : decode cX5_bound 4 = .ok (.ifCond .ne 12, 3) := by decide +kernel
theorem dX5_bound_7 : decode cX5_bound 7 = .ok (.iload_n 1, 1) := by decide +kernel
theorem dX5_bound_8 : decode cX5_bound 8 = .ok (.ifCond .lt 8, 3) := by decide +kernel
theorem dX5_bound_11 : decode cX5_bound 11 = .ok (.iload_n 1, 1) := by decide +kernel
theorem dX5_bound_12 : decode cX5_bound 12 = .ok (.iconst 2, 1) := by decide +kernel
theorem dX5_bound_13 : decode cX5_bound 13 = .ok (.if_icmp .le 5, 3) := by decide +kernel
theorem dX5_bound_16 : decode cX5_bound 16 = .ok (.iconst (-1), 1) := by decide +kernel
theorem dX5_bound_17 : decode cX5_bound 17 = .ok (.ireturn, 1) := by decide +kernel
theorem dX5_bound_18 : decode cX5_bound 18 = .ok (.aload_n 0, 1) := by decide +kernel
theorem dX5_bound_19 : decode cX5_bound 19 = .ok (.invokevirtual 196, 3) := by decide +kernel
theorem dX5_bound_22 : decode cX5_bound 22 = .ok (.istore_n 2, 1) := by decide +kernel
theorem dX5_bound_23 : decode cX5_bound 23 = .ok (.iload_n 1, 1) := by decide +kernel
theorem dX5_bound_24 : decode cX5_bound 24 = .ok (.iconst 2, 1) := by decide +kernel
theorem dX5_bound_25 : decode cX5_bound 25 = .ok (.if_icmp .ne 31, 3) := by decide +kernel
theorem dX5_bound_28 : decode cX5_bound 28 = .ok (.iload_n 2, 1) := by decide +kernel
theorem dX5_bound_29 : decode cX5_bound 29 = .ok (.aload_n 0, 1) := by decide +kernel
theorem dX5_bound_30 : decode cX5_bound 30 = .ok (.getfield 34, 3) := by decide +kernel
theorem dX5_bound_33 : decode cX5_bound 33 = .ok (.getfield 103, 3) := by decide +kernel
theorem dX5_bound_36 : decode cX5_bound 36 = .ok (.if_icmp .ge 7, 3) := by decide +kernel
theorem dX5_bound_39 : decode cX5_bound 39 = .ok (.iload_n 2, 1) := by decide +kernel
theorem dX5_bound_40 : decode cX5_bound 40 = .ok (.goto 15, 3) := by decide +kernel
theorem dX5_bound_43 : decode cX5_bound 43 = .ok (.bipush 100, 2) := by decide +kernel
theorem dX5_bound_45 : decode cX5_bound 45 = .ok (.iload_n 2, 1) := by decide +kernel
theorem dX5_bound_46 : decode cX5_bound 46 = .ok (.iadd, 1) := by decide +kernel
theorem dX5_bound_47 : decode cX5_bound 47 = .ok (.aload_n 0, 1) := by decide +kernel
theorem dX5_bound_48 : decode cX5_bound 48 = .ok (.getfield 34, 3) := by decide +kernel
theorem dX5_bound_51 : decode cX5_bound 51 = .ok (.getfield 103, 3) := by decide +kernel
theorem dX5_bound_54 : decode cX5_bound 54 = .ok (.isub, 1) := by decide +kernel
theorem dX5_bound_55 : decode cX5_bound 55 = .ok (.ireturn, 1) := by decide +kernel
theorem dX5_bound_56 : decode cX5_bound 56 = .ok (.aload_n 0, 1) := by decide +kernel
theorem dX5_bound_57 : decode cX5_bound 57 = .ok (.iload_n 2, 1) := by decide +kernel
theorem dX5_bound_58 : decode cX5_bound 58 = .ok (.aload_n 0, 1) := by decide +kernel
theorem dX5_bound_59 : decode cX5_bound 59 = .ok (.getfield 47, 3) := by decide +kernel
theorem dX5_bound_62 : decode cX5_bound 62 = .ok (.getfield 177, 3) := by decide +kernel
theorem dX5_bound_65 : decode cX5_bound 65 = .ok (.invokevirtual 199, 3) := by decide +kernel
theorem dX5_bound_68 : decode cX5_bound 68 = .ok (.istore_n 3, 1) := by decide +kernel
theorem dX5_bound_69 : decode cX5_bound 69 = .ok (.aload_n 0, 1) := by decide +kernel
theorem dX5_bound_70 : decode cX5_bound 70 = .ok (.iload_n 2, 1) := by decide +kernel
theorem dX5_bound_71 : decode cX5_bound 71 = .ok (.invokevirtual 203, 3) := by decide +kernel
theorem dX5_bound_74 : decode cX5_bound 74 = .ok (.istore 4, 2) := by decide +kernel
theorem dX5_bound_76 : decode cX5_bound 76 = .ok (.iload_n 3, 1) := by decide +kernel
theorem dX5_bound_77 : decode cX5_bound 77 = .ok (.iload 4, 2) := by decide +kernel
theorem dX5_bound_79 : decode cX5_bound 79 = .ok (.invokestatic 206, 3) := by decide +kernel
theorem dX5_bound_82 : decode cX5_bound 82 = .ok (.istore 5, 2) := by decide +kernel
theorem dX5_bound_84 : decode cX5_bound 84 = .ok (.iload_n 1, 1) := by decide +kernel
theorem dX5_bound_85 : decode cX5_bound 85 = .ok (.ifCond .ne 7, 3) := by decide +kernel
theorem dX5_bound_88 : decode cX5_bound 88 = .ok (.iload_n 3, 1) := by decide +kernel
theorem dX5_bound_89 : decode cX5_bound 89 = .ok (.goto 5, 3) := by decide +kernel
theorem dX5_bound_92 : decode cX5_bound 92 = .ok (.iload 4, 2) := by decide +kernel
theorem dX5_bound_94 : decode cX5_bound 94 = .ok (.iload 5, 2) := by decide +kernel
theorem dX5_bound_96 : decode cX5_bound 96 = .ok (.idiv, 1) := by decide +kernel
theorem dX5_bound_97 : decode cX5_bound 97 = .ok (.ireturn, 1) := by decide +kernel
theorem dX5_needs_0 : decode cX5_needs 0 = .ok (.aload_n 0, 1) := by decide +kernel
theorem dX5_needs_1 : decode cX5_needs 1 = .ok (.iload_n 1, 1) := by decide +kernel
theorem dX5_needs_2 : decode cX5_needs 2 = .ok (.invokevirtual 168, 3) := by decide +kernel
theorem dX5_needs_5 : decode cX5_needs 5 = .ok (.ifCond .eq 11, 3) := by decide +kernel
theorem dX5_needs_8 : decode cX5_needs 8 = .ok (.iload_n 2, 1) := by decide +kernel
theorem dX5_needs_9 : decode cX5_needs 9 = .ok (.iload_n 3, 1) := by decide +kernel
theorem dX5_needs_10 : decode cX5_needs 10 = .ok (.invokestatic 209, 3) := by decide +kernel
theorem dX5_needs_13 : decode cX5_needs 13 = .ok (.ifCond .ne 5, 3) := by decide +kernel
theorem dX5_needs_16 : decode cX5_needs 16 = .ok (.iconst (-1), 1) := by decide +kernel
theorem dX5_needs_17 : decode cX5_needs 17 = .ok (.ireturn, 1) := by decide +kernel
theorem dX5_needs_18 : decode cX5_needs 18 = .ok (.iload_n 2, 1) := by decide +kernel
theorem dX5_needs_19 : decode cX5_needs 19 = .ok (.aload_n 0, 1) := by decide +kernel
theorem dX5_needs_20 : decode cX5_needs 20 = .ok (.iload_n 1, 1) := by decide +kernel
theorem dX5_needs_21 : decode cX5_needs 21 = .ok (.invokevirtual 203, 3) := by decide +kernel
theorem dX5_needs_24 : decode cX5_needs 24 = .ok (.imul, 1) := by decide +kernel
theorem dX5_needs_25 : decode cX5_needs 25 = .ok (.iload_n 3, 1) := by decide +kernel
theorem dX5_needs_26 : decode cX5_needs 26 = .ok (.iadd, 1) := by decide +kernel
theorem dX5_needs_27 : decode cX5_needs 27 = .ok (.iconst 1, 1) := by decide +kernel
theorem dX5_needs_28 : decode cX5_needs 28 = .ok (.isub, 1) := by decide +kernel
theorem dX5_needs_29 : decode cX5_needs 29 = .ok (.iload_n 3, 1) := by decide +kernel
theorem dX5_needs_30 : decode cX5_needs 30 = .ok (.idiv, 1) := by decide +kernel
theorem dX5_needs_31 : decode cX5_needs 31 = .ok (.ireturn, 1) := by decide +kernel
theorem dX5_least_0 : decode cX5_least 0 = .ok (.aload_n 0, 1) := by decide +kernel
theorem dX5_least_1 : decode cX5_least 1 = .ok (.iload_n 1, 1) := by decide +kernel
theorem dX5_least_2 : decode cX5_least 2 = .ok (.invokevirtual 168, 3) := by decide +kernel
theorem dX5_least_5 : decode cX5_least 5 = .ok (.ifCond .eq 11, 3) := by decide +kernel
theorem dX5_least_8 : decode cX5_least 8 = .ok (.iload_n 2, 1) := by decide +kernel
theorem dX5_least_9 : decode cX5_least 9 = .ok (.iload_n 3, 1) := by decide +kernel
theorem dX5_least_10 : decode cX5_least 10 = .ok (.invokestatic 209, 3) := by decide +kernel
theorem dX5_least_13 : decode cX5_least 13 = .ok (.ifCond .ne 5, 3) := by decide +kernel
theorem dX5_least_16 : decode cX5_least 16 = .ok (.iconst (-1), 1) := by decide +kernel
theorem dX5_least_17 : decode cX5_least 17 = .ok (.ireturn, 1) := by decide +kernel
theorem dX5_least_18 : decode cX5_least 18 = .ok (.aload_n 0, 1) := by decide +kernel
theorem dX5_least_19 : decode cX5_least 19 = .ok (.getfield 47, 3) := by decide +kernel
theorem dX5_least_22 : decode cX5_least 22 = .ok (.getfield 177, 3) := by decide +kernel
theorem dX5_least_25 : decode cX5_least 25 = .ok (.iconst 0, 1) := by decide +kernel
theorem dX5_least_26 : decode cX5_least 26 = .ok (.aload_n 0, 1) := by decide +kernel
theorem dX5_least_27 : decode cX5_least 27 = .ok (.getfield 13, 3) := by decide +kernel
theorem dX5_least_30 : decode cX5_least 30 = .ok (.iconst 0, 1) := by decide +kernel
theorem dX5_least_31 : decode cX5_least 31 = .ok (.iconst 5, 1) := by decide +kernel
theorem dX5_least_32 : decode cX5_least 32 = .ok (.invokestatic 213, 3) := by decide +kernel
theorem dX5_least_35 : decode cX5_least 35 = .ok (.iconst 1, 1) := by decide +kernel
theorem dX5_least_36 : decode cX5_least 36 = .ok (.istore 4, 2) := by decide +kernel
theorem dX5_least_38 : decode cX5_least 38 = .ok (.iload 4, 2) := by decide +kernel
theorem dX5_least_40 : decode cX5_least 40 = .ok (.bipush 20, 2) := by decide +kernel
theorem dX5_least_42 : decode cX5_least 42 = .ok (.if_icmp .gt 33, 3) := by decide +kernel
theorem dX5_least_45 : decode cX5_least 45 = .ok (.aload_n 0, 1) := by decide +kernel
theorem dX5_least_46 : decode cX5_least 46 = .ok (.getfield 13, 3) := by decide +kernel
theorem dX5_least_49 : decode cX5_least 49 = .ok (.iload_n 1, 1) := by decide +kernel
theorem dX5_least_50 : decode cX5_least 50 = .ok (.iload 4, 2) := by decide +kernel
theorem dX5_least_52 : decode cX5_least 52 = .ok (.iastore, 1) := by decide +kernel
theorem dX5_least_53 : decode cX5_least 53 = .ok (.aload_n 0, 1) := by decide +kernel
theorem dX5_least_54 : decode cX5_least 54 = .ok (.aload_n 0, 1) := by decide +kernel
theorem dX5_least_55 : decode cX5_least 55 = .ok (.getfield 13, 3) := by decide +kernel
theorem dX5_least_58 : decode cX5_least 58 = .ok (.iload_n 2, 1) := by decide +kernel
theorem dX5_least_59 : decode cX5_least 59 = .ok (.iload_n 3, 1) := by decide +kernel
theorem dX5_least_60 : decode cX5_least 60 = .ok (.invokevirtual 219, 3) := by decide +kernel
theorem dX5_least_63 : decode cX5_least 63 = .ok (.ifCond .eq 6, 3) := by decide +kernel
theorem dX5_least_66 : decode cX5_least 66 = .ok (.iload 4, 2) := by decide +kernel
theorem dX5_least_68 : decode cX5_least 68 = .ok (.ireturn, 1) := by decide +kernel
theorem dX5_least_69 : decode cX5_least 69 = .ok (.iinc 4 1, 3) := by decide +kernel
theorem dX5_least_72 : decode cX5_least 72 = .ok (.goto (-34), 3) := by decide +kernel
theorem dX5_least_75 : decode cX5_least 75 = .ok (.bipush (-2), 2) := by decide +kernel
theorem dX5_least_77 : decode cX5_least 77 = .ok (.ireturn, 1) := by decide +kernel
theorem dX5_longer_0 : decode cX5_longer 0 = .ok (.aload_n 0, 1) := by decide +kernel
theorem dX5_longer_1 : decode cX5_longer 1 = .ok (.iload_n 1, 1) := by decide +kernel
theorem dX5_longer_2 : decode cX5_longer 2 = .ok (.iload_n 2, 1) := by decide +kernel
theorem dX5_longer_3 : decode cX5_longer 3 = .ok (.invokevirtual 192, 3) := by decide +kernel
theorem dX5_longer_6 : decode cX5_longer 6 = .ok (.ireturn, 1) := by decide +kernel
theorem dX5_longest_0 : decode cX5_longest 0 = .ok (.aload_n 0, 1) := by decide +kernel
theorem dX5_longest_1 : decode cX5_longest 1 = .ok (.invokevirtual 183, 3) := by decide +kernel
theorem dX5_longest_4 : decode cX5_longest 4 = .ok (.ifCond .eq 5, 3) := by decide +kernel
theorem dX5_longest_7 : decode cX5_longest 7 = .ok (.iconst (-1), 1) := by decide +kernel
theorem dX5_longest_8 : decode cX5_longest 8 = .ok (.ireturn, 1) := by decide +kernel
theorem dX5_longest_9 : decode cX5_longest 9 = .ok (.iconst (-1), 1) := by decide +kernel
theorem dX5_longest_10 : decode cX5_longest 10 = .ok (.istore_n 1, 1) := by decide +kernel
theorem dX5_longest_11 : decode cX5_longest 11 = .ok (.iconst 1, 1) := by decide +kernel
theorem dX5_longest_12 : decode cX5_longest 12 = .ok (.istore_n 2, 1) := by decide +kernel
theorem dX5_longest_13 : decode cX5_longest 13 = .ok (.iload_n 2, 1) := by decide +kernel
theorem dX5_longest_14 : decode cX5_longest 14 = .ok (.iconst 5, 1) := by decide +kernel
theorem dX5_longest_15 : decode cX5_longest 15 = .ok (.if_icmp .gt 39, 3) := by decide +kernel
theorem dX5_longest_18 : decode cX5_longest 18 = .ok (.aload_n 0, 1) := by decide +kernel
theorem dX5_longest_19 : decode cX5_longest 19 = .ok (.iload_n 2, 1) := by decide +kernel
theorem dX5_longest_20 : decode cX5_longest 20 = .ok (.invokevirtual 223, 3) := by decide +kernel
theorem dX5_longest_23 : decode cX5_longest 23 = .ok (.aload_n 0, 1) := by decide +kernel
theorem dX5_longest_24 : decode cX5_longest 24 = .ok (.getfield 17, 3) := by decide +kernel
theorem dX5_longest_27 : decode cX5_longest 27 = .ok (.iload_n 2, 1) := by decide +kernel
theorem dX5_longest_28 : decode cX5_longest 28 = .ok (.iaload, 1) := by decide +kernel
theorem dX5_longest_29 : decode cX5_longest 29 = .ok (.ifCond .le 19, 3) := by decide +kernel
theorem dX5_longest_32 : decode cX5_longest 32 = .ok (.iload_n 1, 1) := by decide +kernel
theorem dX5_longest_33 : decode cX5_longest 33 = .ok (.iconst 1, 1) := by decide +kernel
theorem dX5_longest_34 : decode cX5_longest 34 = .ok (.if_icmp .lt 12, 3) := by decide +kernel
theorem dX5_longest_37 : decode cX5_longest 37 = .ok (.aload_n 0, 1) := by decide +kernel
theorem dX5_longest_38 : decode cX5_longest 38 = .ok (.iload_n 2, 1) := by decide +kernel
theorem dX5_longest_39 : decode cX5_longest 39 = .ok (.iload_n 1, 1) := by decide +kernel
theorem dX5_longest_40 : decode cX5_longest 40 = .ok (.invokevirtual 226, 3) := by decide +kernel
theorem dX5_longest_43 : decode cX5_longest 43 = .ok (.ifCond .eq 5, 3) := by decide +kernel
theorem dX5_longest_46 : decode cX5_longest 46 = .ok (.iload_n 2, 1) := by decide +kernel
theorem dX5_longest_47 : decode cX5_longest 47 = .ok (.istore_n 1, 1) := by decide +kernel
theorem dX5_longest_48 : decode cX5_longest 48 = .ok (.iinc 2 1, 3) := by decide +kernel
theorem dX5_longest_51 : decode cX5_longest 51 = .ok (.goto (-38), 3) := by decide +kernel
theorem dX5_longest_54 : decode cX5_longest 54 = .ok (.iload_n 1, 1) := by decide +kernel
theorem dX5_longest_55 : decode cX5_longest 55 = .ok (.ireturn, 1) := by decide +kernel
theorem dX5_pass_0 : decode cX5_pass 0 = .ok (.aload_n 0, 1) := by decide +kernel
theorem dX5_pass_1 : decode cX5_pass 1 = .ok (.invokevirtual 183, 3) := by decide +kernel
theorem dX5_pass_4 : decode cX5_pass 4 = .ok (.ifCond .ne 29, 3) := by decide +kernel
theorem dX5_pass_7 : decode cX5_pass 7 = .ok (.iload_n 1, 1) := by decide +kernel
theorem dX5_pass_8 : decode cX5_pass 8 = .ok (.iconst 1, 1) := by decide +kernel
theorem dX5_pass_9 : decode cX5_pass 9 = .ok (.if_icmp .lt 24, 3) := by decide +kernel
theorem dX5_pass_12 : decode cX5_pass 12 = .ok (.iload_n 1, 1) := by decide +kernel
theorem dX5_pass_13 : decode cX5_pass 13 = .ok (.sipush 999, 3) := by decide +kernel
theorem dX5_pass_16 : decode cX5_pass 16 = .ok (.if_icmp .gt 17, 3) := by decide +kernel
theorem dX5_pass_19 : decode cX5_pass 19 = .ok (.aload_n 0, 1) := by decide +kernel
theorem dX5_pass_20 : decode cX5_pass 20 = .ok (.getfield 47, 3) := by decide +kernel
theorem dX5_pass_23 : decode cX5_pass 23 = .ok (.getfield 109, 3) := by decide +kernel
theorem dX5_pass_26 : decode cX5_pass 26 = .ok (.ldc 229, 2) := by decide +kernel
theorem dX5_pass_28 : decode cX5_pass 28 = .ok (.iload_n 1, 1) := by decide +kernel
theorem dX5_pass_29 : decode cX5_pass 29 = .ok (.isub, 1) := by decide +kernel
theorem dX5_pass_30 : decode cX5_pass 30 = .ok (.if_icmp .le 5, 3) := by decide +kernel
theorem dX5_pass_33 : decode cX5_pass 33 = .ok (.iconst (-1), 1) := by decide +kernel
theorem dX5_pass_34 : decode cX5_pass 34 = .ok (.ireturn, 1) := by decide +kernel
theorem dX5_pass_35 : decode cX5_pass 35 = .ok (.aload_n 0, 1) := by decide +kernel
theorem dX5_pass_36 : decode cX5_pass 36 = .ok (.getfield 66, 3) := by decide +kernel
theorem dX5_pass_39 : decode cX5_pass 39 = .ok (.aload_n 0, 1) := by decide +kernel
theorem dX5_pass_40 : decode cX5_pass 40 = .ok (.getfield 47, 3) := by decide +kernel
theorem dX5_pass_43 : decode cX5_pass 43 = .ok (.invokevirtual 230, 3) := by decide +kernel
theorem dX5_pass_46 : decode cX5_pass 46 = .ok (.aload_n 0, 1) := by decide +kernel
theorem dX5_pass_47 : decode cX5_pass 47 = .ok (.getfield 47, 3) := by decide +kernel
theorem dX5_pass_50 : decode cX5_pass 50 = .ok (.invokevirtual 112, 3) := by decide +kernel
theorem dX5_pass_53 : decode cX5_pass 53 = .ok (.istore_n 2, 1) := by decide +kernel
theorem dX5_pass_54 : decode cX5_pass 54 = .ok (.aload_n 0, 1) := by decide +kernel
theorem dX5_pass_55 : decode cX5_pass 55 = .ok (.getfield 47, 3) := by decide +kernel
theorem dX5_pass_58 : decode cX5_pass 58 = .ok (.aload_n 0, 1) := by decide +kernel
theorem dX5_pass_59 : decode cX5_pass 59 = .ok (.getfield 47, 3) := by decide +kernel
theorem dX5_pass_62 : decode cX5_pass 62 = .ok (.getfield 109, 3) := by decide +kernel
theorem dX5_pass_65 : decode cX5_pass 65 = .ok (.iload_n 1, 1) := by decide +kernel
theorem dX5_pass_66 : decode cX5_pass 66 = .ok (.iadd, 1) := by decide +kernel
theorem dX5_pass_67 : decode cX5_pass 67 = .ok (.invokevirtual 233, 3) := by decide +kernel
theorem dX5_pass_70 : decode cX5_pass 70 = .ok (.aload_n 0, 1) := by decide +kernel
theorem dX5_pass_71 : decode cX5_pass 71 = .ok (.getfield 47, 3) := by decide +kernel
theorem dX5_pass_74 : decode cX5_pass 74 = .ok (.invokevirtual 112, 3) := by decide +kernel
theorem dX5_pass_77 : decode cX5_pass 77 = .ok (.iload_n 2, 1) := by decide +kernel
theorem dX5_pass_78 : decode cX5_pass 78 = .ok (.isub, 1) := by decide +kernel
theorem dX5_pass_79 : decode cX5_pass 79 = .ok (.ireturn, 1) := by decide +kernel
theorem dX5_step_0 : decode cX5_step 0 = .ok (.aload_n 0, 1) := by decide +kernel
theorem dX5_step_1 : decode cX5_step 1 = .ok (.invokevirtual 183, 3) := by decide +kernel
theorem dX5_step_4 : decode cX5_step 4 = .ok (.ifCond .eq 5, 3) := by decide +kernel
theorem dX5_step_7 : decode cX5_step 7 = .ok (.iconst (-1), 1) := by decide +kernel
theorem dX5_step_8 : decode cX5_step 8 = .ok (.ireturn, 1) := by decide +kernel
theorem dX5_step_9 : decode cX5_step 9 = .ok (.aload_n 0, 1) := by decide +kernel
theorem dX5_step_10 : decode cX5_step 10 = .ok (.getfield 47, 3) := by decide +kernel
theorem dX5_step_13 : decode cX5_step 13 = .ok (.invokevirtual 236, 3) := by decide +kernel
theorem dX5_step_16 : decode cX5_step 16 = .ok (.istore_n 1, 1) := by decide +kernel
theorem dX5_step_17 : decode cX5_step 17 = .ok (.iload_n 1, 1) := by decide +kernel
theorem dX5_step_18 : decode cX5_step 18 = .ok (.ldc 229, 2) := by decide +kernel
theorem dX5_step_20 : decode cX5_step 20 = .ok (.if_icmp .le 5, 3) := by decide +kernel
theorem dX5_step_23 : decode cX5_step 23 = .ok (.iconst (-1), 1) := by decide +kernel
theorem dX5_step_24 : decode cX5_step 24 = .ok (.ireturn, 1) := by decide +kernel
theorem dX5_step_25 : decode cX5_step 25 = .ok (.aload_n 0, 1) := by decide +kernel
theorem dX5_step_26 : decode cX5_step 26 = .ok (.getfield 66, 3) := by decide +kernel
theorem dX5_step_29 : decode cX5_step 29 = .ok (.aload_n 0, 1) := by decide +kernel
theorem dX5_step_30 : decode cX5_step 30 = .ok (.getfield 47, 3) := by decide +kernel
theorem dX5_step_33 : decode cX5_step 33 = .ok (.invokevirtual 230, 3) := by decide +kernel
theorem dX5_step_36 : decode cX5_step 36 = .ok (.aload_n 0, 1) := by decide +kernel
theorem dX5_step_37 : decode cX5_step 37 = .ok (.getfield 47, 3) := by decide +kernel
theorem dX5_step_40 : decode cX5_step 40 = .ok (.iload_n 1, 1) := by decide +kernel
theorem dX5_step_41 : decode cX5_step 41 = .ok (.invokevirtual 233, 3) := by decide +kernel
theorem dX5_step_44 : decode cX5_step 44 = .ok (.aload_n 0, 1) := by decide +kernel
theorem dX5_step_45 : decode cX5_step 45 = .ok (.getfield 47, 3) := by decide +kernel
theorem dX5_step_48 : decode cX5_step 48 = .ok (.getfield 109, 3) := by decide +kernel
theorem dX5_step_51 : decode cX5_step 51 = .ok (.ireturn, 1) := by decide +kernel
theorem dX5_cards_0 : decode cX5_cards 0 = .ok (.aload_n 0, 1) := by decide +kernel
theorem dX5_cards_1 : decode cX5_cards 1 = .ok (.iload_n 1, 1) := by decide +kernel
theorem dX5_cards_2 : decode cX5_cards 2 = .ok (.invokevirtual 168, 3) := by decide +kernel
theorem dX5_cards_5 : decode cX5_cards 5 = .ok (.ifCond .eq 14, 3) := by decide +kernel
theorem dX5_cards_8 : decode cX5_cards 8 = .ok (.iload_n 2, 1) := by decide +kernel
theorem dX5_cards_9 : decode cX5_cards 9 = .ok (.iconst 1, 1) := by decide +kernel
theorem dX5_cards_10 : decode cX5_cards 10 = .ok (.if_icmp .lt 9, 3) := by decide +kernel
theorem dX5_cards_13 : decode cX5_cards 13 = .ok (.iload_n 2, 1) := by decide +kernel
theorem dX5_cards_14 : decode cX5_cards 14 = .ok (.bipush 20, 2) := by decide +kernel
theorem dX5_cards_16 : decode cX5_cards 16 = .ok (.if_icmp .le 5, 3) := by decide +kernel
theorem dX5_cards_19 : decode cX5_cards 19 = .ok (.iconst (-1), 1) := by decide +kernel
theorem dX5_cards_20 : decode cX5_cards 20 = .ok (.ireturn, 1) := by decide +kernel
theorem dX5_cards_21 : decode cX5_cards 21 = .ok (.iload_n 2, 1) := by decide +kernel
theorem dX5_cards_22 : decode cX5_cards 22 = .ok (.aload_n 0, 1) := by decide +kernel
theorem dX5_cards_23 : decode cX5_cards 23 = .ok (.getfield 47, 3) := by decide +kernel
theorem dX5_cards_26 : decode cX5_cards 26 = .ok (.getfield 177, 3) := by decide +kernel
theorem dX5_cards_29 : decode cX5_cards 29 = .ok (.iload_n 1, 1) := by decide +kernel
theorem dX5_cards_30 : decode cX5_cards 30 = .ok (.iaload, 1) := by decide +kernel
theorem dX5_cards_31 : decode cX5_cards 31 = .ok (.isub, 1) := by decide +kernel
theorem dX5_cards_32 : decode cX5_cards 32 = .ok (.istore_n 3, 1) := by decide +kernel
theorem dX5_cards_33 : decode cX5_cards 33 = .ok (.iload_n 3, 1) := by decide +kernel
theorem dX5_cards_34 : decode cX5_cards 34 = .ok (.ifCond .eq 16, 3) := by decide +kernel
theorem dX5_cards_37 : decode cX5_cards 37 = .ok (.aload_n 0, 1) := by decide +kernel
theorem dX5_cards_38 : decode cX5_cards 38 = .ok (.getfield 47, 3) := by decide +kernel
theorem dX5_cards_41 : decode cX5_cards 41 = .ok (.iload_n 1, 1) := by decide +kernel
theorem dX5_cards_42 : decode cX5_cards 42 = .ok (.invokevirtual 180, 3) := by decide +kernel
theorem dX5_cards_45 : decode cX5_cards 45 = .ok (.iload_n 3, 1) := by decide +kernel
theorem dX5_cards_46 : decode cX5_cards 46 = .ok (.iadd, 1) := by decide +kernel
theorem dX5_cards_47 : decode cX5_cards 47 = .ok (.ifCond .ge 5, 3) := by decide +kernel
theorem dX5_cards_50 : decode cX5_cards 50 = .ok (.iconst (-1), 1) := by decide +kernel
theorem dX5_cards_51 : decode cX5_cards 51 = .ok (.ireturn, 1) := by decide +kernel
theorem dX5_cards_52 : decode cX5_cards 52 = .ok (.aload_n 0, 1) := by decide +kernel
theorem dX5_cards_53 : decode cX5_cards 53 = .ok (.getfield 66, 3) := by decide +kernel
theorem dX5_cards_56 : decode cX5_cards 56 = .ok (.aload_n 0, 1) := by decide +kernel
theorem dX5_cards_57 : decode cX5_cards 57 = .ok (.getfield 47, 3) := by decide +kernel
theorem dX5_cards_60 : decode cX5_cards 60 = .ok (.invokevirtual 230, 3) := by decide +kernel
theorem dX5_cards_63 : decode cX5_cards 63 = .ok (.aload_n 0, 1) := by decide +kernel
theorem dX5_cards_64 : decode cX5_cards 64 = .ok (.getfield 47, 3) := by decide +kernel
theorem dX5_cards_67 : decode cX5_cards 67 = .ok (.getfield 177, 3) := by decide +kernel
theorem dX5_cards_70 : decode cX5_cards 70 = .ok (.iload_n 1, 1) := by decide +kernel
theorem dX5_cards_71 : decode cX5_cards 71 = .ok (.iload_n 2, 1) := by decide +kernel
theorem dX5_cards_72 : decode cX5_cards 72 = .ok (.iastore, 1) := by decide +kernel
theorem dX5_cards_73 : decode cX5_cards 73 = .ok (.aload_n 0, 1) := by decide +kernel
theorem dX5_cards_74 : decode cX5_cards 74 = .ok (.getfield 47, 3) := by decide +kernel
theorem dX5_cards_77 : decode cX5_cards 77 = .ok (.invokevirtual 239, 3) := by decide +kernel
theorem dX5_cards_80 : decode cX5_cards 80 = .ok (.aload_n 0, 1) := by decide +kernel
theorem dX5_cards_81 : decode cX5_cards 81 = .ok (.invokevirtual 94, 3) := by decide +kernel
theorem dX5_cards_84 : decode cX5_cards 84 = .ok (.aload_n 0, 1) := by decide +kernel
theorem dX5_cards_85 : decode cX5_cards 85 = .ok (.getfield 47, 3) := by decide +kernel
theorem dX5_cards_88 : decode cX5_cards 88 = .ok (.iload_n 1, 1) := by decide +kernel
theorem dX5_cards_89 : decode cX5_cards 89 = .ok (.invokevirtual 180, 3) := by decide +kernel
theorem dX5_cards_92 : decode cX5_cards 92 = .ok (.ireturn, 1) := by decide +kernel
theorem dX5_anew_0 : decode cX5_anew 0 = .ok (.aload_n 0, 1) := by decide +kernel
theorem dX5_anew_1 : decode cX5_anew 1 = .ok (.invokevirtual 183, 3) := by decide +kernel
theorem dX5_anew_4 : decode cX5_anew 4 = .ok (.ifCond .eq 5, 3) := by decide +kernel
theorem dX5_anew_7 : decode cX5_anew 7 = .ok (.iconst (-1), 1) := by decide +kernel
theorem dX5_anew_8 : decode cX5_anew 8 = .ok (.ireturn, 1) := by decide +kernel
theorem dX5_anew_9 : decode cX5_anew 9 = .ok (.aload_n 0, 1) := by decide +kernel
theorem dX5_anew_10 : decode cX5_anew 10 = .ok (.getfield 66, 3) := by decide +kernel
theorem dX5_anew_13 : decode cX5_anew 13 = .ok (.aload_n 0, 1) := by decide +kernel
theorem dX5_anew_14 : decode cX5_anew 14 = .ok (.getfield 47, 3) := by decide +kernel
theorem dX5_anew_17 : decode cX5_anew 17 = .ok (.invokevirtual 230, 3) := by decide +kernel
theorem dX5_anew_20 : decode cX5_anew 20 = .ok (.aload_n 0, 1) := by decide +kernel
theorem dX5_anew_21 : decode cX5_anew 21 = .ok (.getfield 47, 3) := by decide +kernel
theorem dX5_anew_24 : decode cX5_anew 24 = .ok (.aload_n 0, 1) := by decide +kernel
theorem dX5_anew_25 : decode cX5_anew 25 = .ok (.getfield 47, 3) := by decide +kernel
theorem dX5_anew_28 : decode cX5_anew 28 = .ok (.getfield 177, 3) := by decide +kernel
theorem dX5_anew_31 : decode cX5_anew 31 = .ok (.iconst 1, 1) := by decide +kernel
theorem dX5_anew_32 : decode cX5_anew 32 = .ok (.invokevirtual 87, 3) := by decide +kernel
theorem dX5_anew_35 : decode cX5_anew 35 = .ok (.aload_n 0, 1) := by decide +kernel
theorem dX5_anew_36 : decode cX5_anew 36 = .ok (.getfield 47, 3) := by decide +kernel
theorem dX5_anew_39 : decode cX5_anew 39 = .ok (.invokevirtual 116, 3) := by decide +kernel
theorem dX5_anew_42 : decode cX5_anew 42 = .ok (.ireturn, 1) := by decide +kernel
theorem dX5_undo_0 : decode cX5_undo 0 = .ok (.aload_n 0, 1) := by decide +kernel
theorem dX5_undo_1 : decode cX5_undo 1 = .ok (.getfield 66, 3) := by decide +kernel
theorem dX5_undo_4 : decode cX5_undo 4 = .ok (.getfield 125, 3) := by decide +kernel
theorem dX5_undo_7 : decode cX5_undo 7 = .ok (.iconst 1, 1) := by decide +kernel
theorem dX5_undo_8 : decode cX5_undo 8 = .ok (.if_icmp .ge 5, 3) := by decide +kernel
theorem dX5_undo_11 : decode cX5_undo 11 = .ok (.iconst (-1), 1) := by decide +kernel
theorem dX5_undo_12 : decode cX5_undo 12 = .ok (.ireturn, 1) := by decide +kernel
theorem dX5_undo_13 : decode cX5_undo 13 = .ok (.aload_n 0, 1) := by decide +kernel
theorem dX5_undo_14 : decode cX5_undo 14 = .ok (.getfield 66, 3) := by decide +kernel
theorem dX5_undo_17 : decode cX5_undo 17 = .ok (.aload_n 0, 1) := by decide +kernel
theorem dX5_undo_18 : decode cX5_undo 18 = .ok (.getfield 47, 3) := by decide +kernel
theorem dX5_undo_21 : decode cX5_undo 21 = .ok (.invokevirtual 242, 3) := by decide +kernel
theorem dX5_undo_24 : decode cX5_undo 24 = .ok (.aload_n 0, 1) := by decide +kernel
theorem dX5_undo_25 : decode cX5_undo 25 = .ok (.invokevirtual 94, 3) := by decide +kernel
theorem dX5_undo_28 : decode cX5_undo 28 = .ok (.aload_n 0, 1) := by decide +kernel
theorem dX5_undo_29 : decode cX5_undo 29 = .ok (.getfield 66, 3) := by decide +kernel
theorem dX5_undo_32 : decode cX5_undo 32 = .ok (.getfield 125, 3) := by decide +kernel
theorem dX5_undo_35 : decode cX5_undo 35 = .ok (.ireturn, 1) := by decide +kernel
theorem dX5_isEmpty_0 : decode cX5_isEmpty 0 = .ok (.aload_n 0, 1) := by decide +kernel
theorem dX5_isEmpty_1 : decode cX5_isEmpty 1 = .ok (.getfield 34, 3) := by decide +kernel
theorem dX5_isEmpty_4 : decode cX5_isEmpty 4 = .ok (.getfield 100, 3) := by decide +kernel
theorem dX5_isEmpty_7 : decode cX5_isEmpty 7 = .ok (.iconst 1, 1) := by decide +kernel
theorem dX5_isEmpty_8 : decode cX5_isEmpty 8 = .ok (.if_icmp .ge 7, 3) := by decide +kernel
theorem dX5_isEmpty_11 : decode cX5_isEmpty 11 = .ok (.iconst 1, 1) := by decide +kernel
theorem dX5_isEmpty_12 : decode cX5_isEmpty 12 = .ok (.goto 4, 3) := by decide +kernel
theorem dX5_isEmpty_15 : decode cX5_isEmpty 15 = .ok (.iconst 0, 1) := by decide +kernel
theorem dX5_isEmpty_16 : decode cX5_isEmpty 16 = .ok (.ireturn, 1) := by decide +kernel
theorem dX5_isLoop_0 : decode cX5_isLoop 0 = .ok (.iload_n 1, 1) := by decide +kernel
theorem dX5_isLoop_1 : decode cX5_isLoop 1 = .ok (.ifCond .lt 18, 3) := by decide +kernel
theorem dX5_isLoop_4 : decode cX5_isLoop 4 = .ok (.iload_n 1, 1) := by decide +kernel
theorem dX5_isLoop_5 : decode cX5_isLoop 5 = .ok (.aload_n 0, 1) := by decide +kernel
theorem dX5_isLoop_6 : decode cX5_isLoop 6 = .ok (.getfield 34, 3) := by decide +kernel
theorem dX5_isLoop_9 : decode cX5_isLoop 9 = .ok (.getfield 103, 3) := by decide +kernel
theorem dX5_isLoop_12 : decode cX5_isLoop 12 = .ok (.if_icmp .ge 7, 3) := by decide +kernel
theorem dX5_isLoop_15 : decode cX5_isLoop 15 = .ok (.iconst 1, 1) := by decide +kernel
theorem dX5_isLoop_16 : decode cX5_isLoop 16 = .ok (.goto 4, 3) := by decide +kernel
theorem dX5_isLoop_19 : decode cX5_isLoop 19 = .ok (.iconst 0, 1) := by decide +kernel
theorem dX5_isLoop_20 : decode cX5_isLoop 20 = .ok (.ireturn, 1) := by decide +kernel
theorem dX5_isPromise_0 : decode cX5_isPromise 0 = .ok (.iload_n 0, 1) := by decide +kernel
theorem dX5_isPromise_1 : decode cX5_isPromise 1 = .ok (.iconst 1, 1) := by decide +kernel
theorem dX5_isPromise_2 : decode cX5_isPromise 2 = .ok (.if_icmp .lt 24, 3) := by decide +kernel
theorem dX5_isPromise_5 : decode cX5_isPromise 5 = .ok (.iload_n 0, 1) := by decide +kernel
theorem dX5_isPromise_6 : decode cX5_isPromise 6 = .ok (.bipush 99, 2) := by decide +kernel
theorem dX5_isPromise_8 : decode cX5_isPromise 8 = .ok (.if_icmp .gt 18, 3) := by decide +kernel
theorem dX5_isPromise_11 : decode cX5_isPromise 11 = .ok (.iload_n 1, 1) := by decide +kernel
theorem dX5_isPromise_12 : decode cX5_isPromise 12 = .ok (.iconst 1, 1) := by decide +kernel
theorem dX5_isPromise_13 : decode cX5_isPromise 13 = .ok (.if_icmp .lt 13, 3) := by decide +kernel
theorem dX5_isPromise_16 : decode cX5_isPromise 16 = .ok (.iload_n 1, 1) := by decide +kernel
theorem dX5_isPromise_17 : decode cX5_isPromise 17 = .ok (.bipush 99, 2) := by decide +kernel
theorem dX5_isPromise_19 : decode cX5_isPromise 19 = .ok (.if_icmp .gt 7, 3) := by decide +kernel
theorem dX5_isPromise_22 : decode cX5_isPromise 22 = .ok (.iconst 1, 1) := by decide +kernel
theorem dX5_isPromise_23 : decode cX5_isPromise 23 = .ok (.goto 4, 3) := by decide +kernel
theorem dX5_isPromise_26 : decode cX5_isPromise 26 = .ok (.iconst 0, 1) := by decide +kernel
theorem dX5_isPromise_27 : decode cX5_isPromise 27 = .ok (.ireturn, 1) := by decide +kernel
theorem dX5_forgetPaces_0 : decode cX5_forgetPaces 0 = .ok (.aload_n 0, 1) := by decide +kernel
theorem dX5_forgetPaces_1 : decode cX5_forgetPaces 1 = .ok (.getfield 17, 3) := by decide +kernel
theorem dX5_forgetPaces_4 : decode cX5_forgetPaces 4 = .ok (.iconst 0, 1) := by decide +kernel
theorem dX5_forgetPaces_5 : decode cX5_forgetPaces 5 = .ok (.invokestatic 245, 3) := by decide +kernel
theorem dX5_forgetPaces_8 : decode cX5_forgetPaces 8 = .ok (.return_, 1) := by decide +kernel
theorem dX5_learnPace_0 : decode cX5_learnPace 0 = .ok (.aload_n 0, 1) := by decide +kernel
theorem dX5_learnPace_1 : decode cX5_learnPace 1 = .ok (.getfield 17, 3) := by decide +kernel
theorem dX5_learnPace_4 : decode cX5_learnPace 4 = .ok (.iload_n 1, 1) := by decide +kernel
theorem dX5_learnPace_5 : decode cX5_learnPace 5 = .ok (.iaload, 1) := by decide +kernel
theorem dX5_learnPace_6 : decode cX5_learnPace 6 = .ok (.ifCond .ne 44, 3) := by decide +kernel
theorem dX5_learnPace_9 : decode cX5_learnPace 9 = .ok (.aload_n 0, 1) := by decide +kernel
theorem dX5_learnPace_10 : decode cX5_learnPace 10 = .ok (.getfield 59, 3) := by decide +kernel
theorem dX5_learnPace_13 : decode cX5_learnPace 13 = .ok (.aload_n 0, 1) := by decide +kernel
theorem dX5_learnPace_14 : decode cX5_learnPace 14 = .ok (.getfield 47, 3) := by decide +kernel
theorem dX5_learnPace_17 : decode cX5_learnPace 17 = .ok (.getfield 177, 3) := by decide +kernel
theorem dX5_learnPace_20 : decode cX5_learnPace 20 = .ok (.iload_n 1, 1) := by decide +kernel
theorem dX5_learnPace_21 : decode cX5_learnPace 21 = .ok (.invokevirtual 250, 3) := by decide +kernel
theorem dX5_learnPace_24 : decode cX5_learnPace 24 = .ok (.aload_n 0, 1) := by decide +kernel
theorem dX5_learnPace_25 : decode cX5_learnPace 25 = .ok (.getfield 17, 3) := by decide +kernel
theorem dX5_learnPace_28 : decode cX5_learnPace 28 = .ok (.iload_n 1, 1) := by decide +kernel
theorem dX5_learnPace_29 : decode cX5_learnPace 29 = .ok (.aload_n 0, 1) := by decide +kernel
theorem dX5_learnPace_30 : decode cX5_learnPace 30 = .ok (.getfield 59, 3) := by decide +kernel
theorem dX5_learnPace_33 : decode cX5_learnPace 33 = .ok (.getfield 253, 3) := by decide +kernel
theorem dX5_learnPace_36 : decode cX5_learnPace 36 = .ok (.iastore, 1) := by decide +kernel
theorem dX5_learnPace_37 : decode cX5_learnPace 37 = .ok (.aload_n 0, 1) := by decide +kernel
theorem dX5_learnPace_38 : decode cX5_learnPace 38 = .ok (.getfield 20, 3) := by decide +kernel
theorem dX5_learnPace_41 : decode cX5_learnPace 41 = .ok (.iload_n 1, 1) := by decide +kernel
theorem dX5_learnPace_42 : decode cX5_learnPace 42 = .ok (.aload_n 0, 1) := by decide +kernel
theorem dX5_learnPace_43 : decode cX5_learnPace 43 = .ok (.getfield 59, 3) := by decide +kernel
theorem dX5_learnPace_46 : decode cX5_learnPace 46 = .ok (.getfield 256, 3) := by decide +kernel
theorem dX5_learnPace_49 : decode cX5_learnPace 49 = .ok (.iastore, 1) := by decide +kernel
theorem dX5_learnPace_50 : decode cX5_learnPace 50 = .ok (.return_, 1) := by decide +kernel
theorem dX5_paceBy_0 : decode cX5_paceBy 0 = .ok (.aload_n 0, 1) := by decide +kernel
theorem dX5_paceBy_1 : decode cX5_paceBy 1 = .ok (.invokevirtual 183, 3) := by decide +kernel
theorem dX5_paceBy_4 : decode cX5_paceBy 4 = .ok (.ifCond .ne 22, 3) := by decide +kernel
theorem dX5_paceBy_7 : decode cX5_paceBy 7 = .ok (.iload_n 1, 1) := by decide +kernel
theorem dX5_paceBy_8 : decode cX5_paceBy 8 = .ok (.iconst 1, 1) := by decide +kernel
theorem dX5_paceBy_9 : decode cX5_paceBy 9 = .ok (.if_icmp .lt 17, 3) := by decide +kernel
theorem dX5_paceBy_12 : decode cX5_paceBy 12 = .ok (.iload_n 1, 1) := by decide +kernel
theorem dX5_paceBy_13 : decode cX5_paceBy 13 = .ok (.iconst 5, 1) := by decide +kernel
theorem dX5_paceBy_14 : decode cX5_paceBy 14 = .ok (.if_icmp .gt 12, 3) := by decide +kernel
theorem dX5_paceBy_17 : decode cX5_paceBy 17 = .ok (.iload_n 2, 1) := by decide +kernel
theorem dX5_paceBy_18 : decode cX5_paceBy 18 = .ok (.ifCond .lt 8, 3) := by decide +kernel
theorem dX5_paceBy_21 : decode cX5_paceBy 21 = .ok (.iload_n 2, 1) := by decide +kernel
theorem dX5_paceBy_22 : decode cX5_paceBy 22 = .ok (.iconst 1, 1) := by decide +kernel
theorem dX5_paceBy_23 : decode cX5_paceBy 23 = .ok (.if_icmp .le 5, 3) := by decide +kernel
theorem dX5_paceBy_26 : decode cX5_paceBy 26 = .ok (.iconst (-1), 1) := by decide +kernel
theorem dX5_paceBy_27 : decode cX5_paceBy 27 = .ok (.ireturn, 1) := by decide +kernel
theorem dX5_paceBy_28 : decode cX5_paceBy 28 = .ok (.aload_n 0, 1) := by decide +kernel
theorem dX5_paceBy_29 : decode cX5_paceBy 29 = .ok (.iload_n 1, 1) := by decide +kernel
theorem dX5_paceBy_30 : decode cX5_paceBy 30 = .ok (.invokevirtual 223, 3) := by decide +kernel
theorem dX5_paceBy_33 : decode cX5_paceBy 33 = .ok (.iload_n 2, 1) := by decide +kernel
theorem dX5_paceBy_34 : decode cX5_paceBy 34 = .ok (.ifCond .ne 12, 3) := by decide +kernel
theorem dX5_paceBy_37 : decode cX5_paceBy 37 = .ok (.aload_n 0, 1) := by decide +kernel
theorem dX5_paceBy_38 : decode cX5_paceBy 38 = .ok (.getfield 17, 3) := by decide +kernel
theorem dX5_paceBy_41 : decode cX5_paceBy 41 = .ok (.iload_n 1, 1) := by decide +kernel
theorem dX5_paceBy_42 : decode cX5_paceBy 42 = .ok (.iaload, 1) := by decide +kernel
theorem dX5_paceBy_43 : decode cX5_paceBy 43 = .ok (.goto 9, 3) := by decide +kernel
theorem dX5_paceBy_46 : decode cX5_paceBy 46 = .ok (.aload_n 0, 1) := by decide +kernel
theorem dX5_paceBy_47 : decode cX5_paceBy 47 = .ok (.getfield 20, 3) := by decide +kernel
theorem dX5_paceBy_50 : decode cX5_paceBy 50 = .ok (.iload_n 1, 1) := by decide +kernel
theorem dX5_paceBy_51 : decode cX5_paceBy 51 = .ok (.iaload, 1) := by decide +kernel
theorem dX5_paceBy_52 : decode cX5_paceBy 52 = .ok (.ireturn, 1) := by decide +kernel
theorem dX5_isQuicker_0 : decode cX5_isQuicker 0 = .ok (.aload_n 0, 1) := by decide +kernel
theorem dX5_isQuicker_1 : decode cX5_isQuicker 1 = .ok (.getfield 17, 3) := by decide +kernel
theorem dX5_isQuicker_4 : decode cX5_isQuicker 4 = .ok (.iload_n 1, 1) := by decide +kernel
theorem dX5_isQuicker_5 : decode cX5_isQuicker 5 = .ok (.iaload, 1) := by decide +kernel
theorem dX5_isQuicker_6 : decode cX5_isQuicker 6 = .ok (.i2l, 1) := by decide +kernel
theorem dX5_isQuicker_7 : decode cX5_isQuicker 7 = .ok (.aload_n 0, 1) := by decide +kernel
theorem dX5_isQuicker_8 : decode cX5_isQuicker 8 = .ok (.getfield 20, 3) := by decide +kernel
theorem dX5_isQuicker_11 : decode cX5_isQuicker 11 = .ok (.iload_n 2, 1) := by decide +kernel
theorem dX5_isQuicker_12 : decode cX5_isQuicker 12 = .ok (.iaload, 1) := by decide +kernel
theorem dX5_isQuicker_13 : decode cX5_isQuicker 13 = .ok (.i2l, 1) := by decide +kernel
theorem dX5_isQuicker_14 : decode cX5_isQuicker 14 = .ok (.lmul, 1) := by decide +kernel
theorem dX5_isQuicker_15 : decode cX5_isQuicker 15 = .ok (.aload_n 0, 1) := by decide +kernel
theorem dX5_isQuicker_16 : decode cX5_isQuicker 16 = .ok (.getfield 17, 3) := by decide +kernel
theorem dX5_isQuicker_19 : decode cX5_isQuicker 19 = .ok (.iload_n 2, 1) := by decide +kernel
theorem dX5_isQuicker_20 : decode cX5_isQuicker 20 = .ok (.iaload, 1) := by decide +kernel
theorem dX5_isQuicker_21 : decode cX5_isQuicker 21 = .ok (.i2l, 1) := by decide +kernel
theorem dX5_isQuicker_22 : decode cX5_isQuicker 22 = .ok (.aload_n 0, 1) := by decide +kernel
theorem dX5_isQuicker_23 : decode cX5_isQuicker 23 = .ok (.getfield 20, 3) := by decide +kernel
theorem dX5_isQuicker_26 : decode cX5_isQuicker 26 = .ok (.iload_n 1, 1) := by decide +kernel
theorem dX5_isQuicker_27 : decode cX5_isQuicker 27 = .ok (.iaload, 1) := by decide +kernel
theorem dX5_isQuicker_28 : decode cX5_isQuicker 28 = .ok (.i2l, 1) := by decide +kernel
theorem dX5_isQuicker_29 : decode cX5_isQuicker 29 = .ok (.lmul, 1) := by decide +kernel
theorem dX5_isQuicker_30 : decode cX5_isQuicker 30 = .ok (.lcmp, 1) := by decide +kernel
theorem dX5_isQuicker_31 : decode cX5_isQuicker 31 = .ok (.ifCond .le 7, 3) := by decide +kernel
theorem dX5_isQuicker_34 : decode cX5_isQuicker 34 = .ok (.iconst 1, 1) := by decide +kernel
theorem dX5_isQuicker_35 : decode cX5_isQuicker 35 = .ok (.goto 4, 3) := by decide +kernel
theorem dX5_isQuicker_38 : decode cX5_isQuicker 38 = .ok (.iconst 0, 1) := by decide +kernel
theorem dX5_isQuicker_39 : decode cX5_isQuicker 39 = .ok (.ireturn, 1) := by decide +kernel
theorem dX5_ringMinutes_0 : decode cX5_ringMinutes 0 = .ok (.iload_n 1, 1) := by decide +kernel
theorem dX5_ringMinutes_1 : decode cX5_ringMinutes 1 = .ok (.aload_n 0, 1) := by decide +kernel
theorem dX5_ringMinutes_2 : decode cX5_ringMinutes 2 = .ok (.getfield 34, 3) := by decide +kernel
theorem dX5_ringMinutes_5 : decode cX5_ringMinutes 5 = .ok (.getfield 103, 3) := by decide +kernel
theorem dX5_ringMinutes_8 : decode cX5_ringMinutes 8 = .ok (.if_icmp .lt 21, 3) := by decide +kernel
theorem dX5_ringMinutes_11 : decode cX5_ringMinutes 11 = .ok (.aload_n 0, 1) := by decide +kernel
theorem dX5_ringMinutes_12 : decode cX5_ringMinutes 12 = .ok (.getfield 34, 3) := by decide +kernel
theorem dX5_ringMinutes_15 : decode cX5_ringMinutes 15 = .ok (.getfield 135, 3) := by decide +kernel
theorem dX5_ringMinutes_18 : decode cX5_ringMinutes 18 = .ok (.iload_n 1, 1) := by decide +kernel
theorem dX5_ringMinutes_19 : decode cX5_ringMinutes 19 = .ok (.aload_n 0, 1) := by decide +kernel
theorem dX5_ringMinutes_20 : decode cX5_ringMinutes 20 = .ok (.getfield 34, 3) := by decide +kernel
theorem dX5_ringMinutes_23 : decode cX5_ringMinutes 23 = .ok (.getfield 103, 3) := by decide +kernel
theorem dX5_ringMinutes_26 : decode cX5_ringMinutes 26 = .ok (.isub, 1) := by decide +kernel
theorem dX5_ringMinutes_27 : decode cX5_ringMinutes 27 = .ok (.iaload, 1) := by decide +kernel
theorem dX5_ringMinutes_28 : decode cX5_ringMinutes 28 = .ok (.ireturn, 1) := by decide +kernel
theorem dX5_ringMinutes_29 : decode cX5_ringMinutes 29 = .ok (.iconst 0, 1) := by decide +kernel
theorem dX5_ringMinutes_30 : decode cX5_ringMinutes 30 = .ok (.istore_n 2, 1) := by decide +kernel
theorem dX5_ringMinutes_31 : decode cX5_ringMinutes 31 = .ok (.aload_n 0, 1) := by decide +kernel
theorem dX5_ringMinutes_32 : decode cX5_ringMinutes 32 = .ok (.getfield 34, 3) := by decide +kernel
theorem dX5_ringMinutes_35 : decode cX5_ringMinutes 35 = .ok (.getfield 171, 3) := by decide +kernel
theorem dX5_ringMinutes_38 : decode cX5_ringMinutes 38 = .ok (.iload_n 1, 1) := by decide +kernel
theorem dX5_ringMinutes_39 : decode cX5_ringMinutes 39 = .ok (.iaload, 1) := by decide +kernel
theorem dX5_ringMinutes_40 : decode cX5_ringMinutes 40 = .ok (.istore_n 3, 1) := by decide +kernel
theorem dX5_ringMinutes_41 : decode cX5_ringMinutes 41 = .ok (.iload_n 3, 1) := by decide +kernel
theorem dX5_ringMinutes_42 : decode cX5_ringMinutes 42 = .ok (.aload_n 0, 1) := by decide +kernel
theorem dX5_ringMinutes_43 : decode cX5_ringMinutes 43 = .ok (.getfield 34, 3) := by decide +kernel
theorem dX5_ringMinutes_46 : decode cX5_ringMinutes 46 = .ok (.getfield 174, 3) := by decide +kernel
theorem dX5_ringMinutes_49 : decode cX5_ringMinutes 49 = .ok (.iload_n 1, 1) := by decide +kernel
theorem dX5_ringMinutes_50 : decode cX5_ringMinutes 50 = .ok (.iaload, 1) := by decide +kernel
theorem dX5_ringMinutes_51 : decode cX5_ringMinutes 51 = .ok (.if_icmp .gt 21, 3) := by decide +kernel
theorem dX5_ringMinutes_54 : decode cX5_ringMinutes 54 = .ok (.iload_n 2, 1) := by decide +kernel
theorem dX5_ringMinutes_55 : decode cX5_ringMinutes 55 = .ok (.aload_n 0, 1) := by decide +kernel
theorem dX5_ringMinutes_56 : decode cX5_ringMinutes 56 = .ok (.getfield 34, 3) := by decide +kernel
theorem dX5_ringMinutes_59 : decode cX5_ringMinutes 59 = .ok (.getfield 135, 3) := by decide +kernel
theorem dX5_ringMinutes_62 : decode cX5_ringMinutes 62 = .ok (.iload_n 3, 1) := by decide +kernel
theorem dX5_ringMinutes_63 : decode cX5_ringMinutes 63 = .ok (.iaload, 1) := by decide +kernel
theorem dX5_ringMinutes_64 : decode cX5_ringMinutes 64 = .ok (.iadd, 1) := by decide +kernel
theorem dX5_ringMinutes_65 : decode cX5_ringMinutes 65 = .ok (.istore_n 2, 1) := by decide +kernel
theorem dX5_ringMinutes_66 : decode cX5_ringMinutes 66 = .ok (.iinc 3 1, 3) := by decide +kernel
theorem dX5_ringMinutes_69 : decode cX5_ringMinutes 69 = .ok (.goto (-28), 3) := by decide +kernel
theorem dX5_ringMinutes_72 : decode cX5_ringMinutes 72 = .ok (.iload_n 2, 1) := by decide +kernel
theorem dX5_ringMinutes_73 : decode cX5_ringMinutes 73 = .ok (.ireturn, 1) := by decide +kernel
theorem dX5_ringCards_0 : decode cX5_ringCards 0 = .ok (.iload_n 1, 1) := by decide +kernel
theorem dX5_ringCards_1 : decode cX5_ringCards 1 = .ok (.aload_n 0, 1) := by decide +kernel
theorem dX5_ringCards_2 : decode cX5_ringCards 2 = .ok (.getfield 34, 3) := by decide +kernel
theorem dX5_ringCards_5 : decode cX5_ringCards 5 = .ok (.getfield 103, 3) := by decide +kernel
theorem dX5_ringCards_8 : decode cX5_ringCards 8 = .ok (.if_icmp .ge 9, 3) := by decide +kernel
theorem dX5_ringCards_11 : decode cX5_ringCards 11 = .ok (.aload_n 2, 1) := by decide +kernel
theorem dX5_ringCards_12 : decode cX5_ringCards 12 = .ok (.iload_n 1, 1) := by decide +kernel
theorem dX5_ringCards_13 : decode cX5_ringCards 13 = .ok (.iaload, 1) := by decide +kernel
theorem dX5_ringCards_14 : decode cX5_ringCards 14 = .ok (.goto 4, 3) := by decide +kernel
theorem dX5_ringCards_17 : decode cX5_ringCards 17 = .ok (.iconst 1, 1) := by decide +kernel
theorem dX5_ringCards_18 : decode cX5_ringCards 18 = .ok (.ireturn, 1) := by decide +kernel
theorem dX5_tightRing_0 : decode cX5_tightRing 0 = .ok (.iconst 0, 1) := by decide +kernel
theorem dX5_tightRing_1 : decode cX5_tightRing 1 = .ok (.istore_n 1, 1) := by decide +kernel
theorem dX5_tightRing_2 : decode cX5_tightRing 2 = .ok (.iconst 1, 1) := by decide +kernel
theorem dX5_tightRing_3 : decode cX5_tightRing 3 = .ok (.istore_n 2, 1) := by decide +kernel
theorem dX5_tightRing_4 : decode cX5_tightRing 4 = .ok (.iload_n 2, 1) := by decide +kernel
theorem dX5_tightRing_5 : decode cX5_tightRing 5 = .ok (.aload_n 0, 1) := by decide +kernel
theorem dX5_tightRing_6 : decode cX5_tightRing 6 = .ok (.getfield 34, 3) := by decide +kernel
theorem dX5_tightRing_9 : decode cX5_tightRing 9 = .ok (.getfield 103, 3) := by decide +kernel
theorem dX5_tightRing_12 : decode cX5_tightRing 12 = .ok (.aload_n 0, 1) := by decide +kernel
theorem dX5_tightRing_13 : decode cX5_tightRing 13 = .ok (.getfield 34, 3) := by decide +kernel
theorem dX5_tightRing_16 : decode cX5_tightRing 16 = .ok (.getfield 100, 3) := by decide +kernel
theorem dX5_tightRing_19 : decode cX5_tightRing 19 = .ok (.iadd, 1) := by decide +kernel
theorem dX5_tightRing_20 : decode cX5_tightRing 20 = .ok (.if_icmp .ge 52, 3) := by decide +kernel
theorem dX5_tightRing_23 : decode cX5_tightRing 23 = .ok (.aload_n 0, 1) := by decide +kernel
theorem dX5_tightRing_24 : decode cX5_tightRing 24 = .ok (.iload_n 1, 1) := by decide +kernel
theorem dX5_tightRing_25 : decode cX5_tightRing 25 = .ok (.invokevirtual 203, 3) := by decide +kernel
theorem dX5_tightRing_28 : decode cX5_tightRing 28 = .ok (.aload_n 0, 1) := by decide +kernel
theorem dX5_tightRing_29 : decode cX5_tightRing 29 = .ok (.iload_n 2, 1) := by decide +kernel
theorem dX5_tightRing_30 : decode cX5_tightRing 30 = .ok (.aload_n 0, 1) := by decide +kernel
theorem dX5_tightRing_31 : decode cX5_tightRing 31 = .ok (.getfield 47, 3) := by decide +kernel
theorem dX5_tightRing_34 : decode cX5_tightRing 34 = .ok (.getfield 177, 3) := by decide +kernel
theorem dX5_tightRing_37 : decode cX5_tightRing 37 = .ok (.invokevirtual 199, 3) := by decide +kernel
theorem dX5_tightRing_40 : decode cX5_tightRing 40 = .ok (.imul, 1) := by decide +kernel
theorem dX5_tightRing_41 : decode cX5_tightRing 41 = .ok (.istore_n 3, 1) := by decide +kernel
theorem dX5_tightRing_42 : decode cX5_tightRing 42 = .ok (.aload_n 0, 1) := by decide +kernel
theorem dX5_tightRing_43 : decode cX5_tightRing 43 = .ok (.iload_n 2, 1) := by decide +kernel
theorem dX5_tightRing_44 : decode cX5_tightRing 44 = .ok (.invokevirtual 203, 3) := by decide +kernel
theorem dX5_tightRing_47 : decode cX5_tightRing 47 = .ok (.aload_n 0, 1) := by decide +kernel
theorem dX5_tightRing_48 : decode cX5_tightRing 48 = .ok (.iload_n 1, 1) := by decide +kernel
theorem dX5_tightRing_49 : decode cX5_tightRing 49 = .ok (.aload_n 0, 1) := by decide +kernel
theorem dX5_tightRing_50 : decode cX5_tightRing 50 = .ok (.getfield 47, 3) := by decide +kernel
theorem dX5_tightRing_53 : decode cX5_tightRing 53 = .ok (.getfield 177, 3) := by decide +kernel
theorem dX5_tightRing_56 : decode cX5_tightRing 56 = .ok (.invokevirtual 199, 3) := by decide +kernel
theorem dX5_tightRing_59 : decode cX5_tightRing 59 = .ok (.imul, 1) := by decide +kernel
theorem dX5_tightRing_60 : decode cX5_tightRing 60 = .ok (.iload_n 3, 1) := by decide +kernel
theorem dX5_tightRing_61 : decode cX5_tightRing 61 = .ok (.if_icmp .le 5, 3) := by decide +kernel
theorem dX5_tightRing_64 : decode cX5_tightRing 64 = .ok (.iload_n 2, 1) := by decide +kernel
theorem dX5_tightRing_65 : decode cX5_tightRing 65 = .ok (.istore_n 1, 1) := by decide +kernel
theorem dX5_tightRing_66 : decode cX5_tightRing 66 = .ok (.iinc 2 1, 3) := by decide +kernel
theorem dX5_tightRing_69 : decode cX5_tightRing 69 = .ok (.goto (-65), 3) := by decide +kernel
theorem dX5_tightRing_72 : decode cX5_tightRing 72 = .ok (.iload_n 1, 1) := by decide +kernel
theorem dX5_tightRing_73 : decode cX5_tightRing 73 = .ok (.ireturn, 1) := by decide +kernel
theorem dX5_isForbidden_0 : decode cX5_isForbidden 0 = .ok (.iconst 0, 1) := by decide +kernel
theorem dX5_isForbidden_1 : decode cX5_isForbidden 1 = .ok (.istore 4, 2) := by decide +kernel
theorem dX5_isForbidden_3 : decode cX5_isForbidden 3 = .ok (.iload 4, 2) := by decide +kernel
theorem dX5_isForbidden_5 : decode cX5_isForbidden 5 = .ok (.aload_n 0, 1) := by decide +kernel
theorem dX5_isForbidden_6 : decode cX5_isForbidden 6 = .ok (.getfield 34, 3) := by decide +kernel
theorem dX5_isForbidden_9 : decode cX5_isForbidden 9 = .ok (.getfield 103, 3) := by decide +kernel
theorem dX5_isForbidden_12 : decode cX5_isForbidden 12 = .ok (.aload_n 0, 1) := by decide +kernel
theorem dX5_isForbidden_13 : decode cX5_isForbidden 13 = .ok (.getfield 34, 3) := by decide +kernel
theorem dX5_isForbidden_16 : decode cX5_isForbidden 16 = .ok (.getfield 100, 3) := by decide +kernel
theorem dX5_isForbidden_19 : decode cX5_isForbidden 19 = .ok (.iadd, 1) := by decide +kernel
theorem dX5_isForbidden_20 : decode cX5_isForbidden 20 = .ok (.if_icmp .ge 31, 3) := by decide +kernel
theorem dX5_isForbidden_23 : decode cX5_isForbidden 23 = .ok (.iload_n 2, 1) := by decide +kernel
theorem dX5_isForbidden_24 : decode cX5_isForbidden 24 = .ok (.aload_n 0, 1) := by decide +kernel
theorem dX5_isForbidden_25 : decode cX5_isForbidden 25 = .ok (.iload 4, 2) := by decide +kernel
theorem dX5_isForbidden_27 : decode cX5_isForbidden 27 = .ok (.invokevirtual 203, 3) := by decide +kernel
theorem dX5_isForbidden_30 : decode cX5_isForbidden 30 = .ok (.imul, 1) := by decide +kernel
theorem dX5_isForbidden_31 : decode cX5_isForbidden 31 = .ok (.iload_n 3, 1) := by decide +kernel
theorem dX5_isForbidden_32 : decode cX5_isForbidden 32 = .ok (.aload_n 0, 1) := by decide +kernel
theorem dX5_isForbidden_33 : decode cX5_isForbidden 33 = .ok (.iload 4, 2) := by decide +kernel
theorem dX5_isForbidden_35 : decode cX5_isForbidden 35 = .ok (.aload_n 1, 1) := by decide +kernel
theorem dX5_isForbidden_36 : decode cX5_isForbidden 36 = .ok (.invokevirtual 199, 3) := by decide +kernel
theorem dX5_isForbidden_39 : decode cX5_isForbidden 39 = .ok (.imul, 1) := by decide +kernel
theorem dX5_isForbidden_40 : decode cX5_isForbidden 40 = .ok (.if_icmp .le 5, 3) := by decide +kernel
theorem dX5_isForbidden_43 : decode cX5_isForbidden 43 = .ok (.iconst 1, 1) := by decide +kernel
theorem dX5_isForbidden_44 : decode cX5_isForbidden 44 = .ok (.ireturn, 1) := by decide +kernel
theorem dX5_isForbidden_45 : decode cX5_isForbidden 45 = .ok (.iinc 4 1, 3) := by decide +kernel
theorem dX5_isForbidden_48 : decode cX5_isForbidden 48 = .ok (.goto (-45), 3) := by decide +kernel
theorem dX5_isForbidden_51 : decode cX5_isForbidden 51 = .ok (.iconst 0, 1) := by decide +kernel
theorem dX5_isForbidden_52 : decode cX5_isForbidden 52 = .ok (.ireturn, 1) := by decide +kernel
theorem dX5_reaches_0 : decode cX5_reaches 0 = .ok (.aload_n 0, 1) := by decide +kernel
theorem dX5_reaches_1 : decode cX5_reaches 1 = .ok (.aload_n 1, 1) := by decide +kernel
theorem dX5_reaches_2 : decode cX5_reaches 2 = .ok (.iload_n 2, 1) := by decide +kernel
theorem dX5_reaches_3 : decode cX5_reaches 3 = .ok (.iload_n 3, 1) := by decide +kernel
theorem dX5_reaches_4 : decode cX5_reaches 4 = .ok (.invokevirtual 258, 3) := by decide +kernel
theorem dX5_reaches_7 : decode cX5_reaches 7 = .ok (.ifCond .eq 5, 3) := by decide +kernel
theorem dX5_reaches_10 : decode cX5_reaches 10 = .ok (.iconst 0, 1) := by decide +kernel
theorem dX5_reaches_11 : decode cX5_reaches 11 = .ok (.ireturn, 1) := by decide +kernel
theorem dX5_reaches_12 : decode cX5_reaches 12 = .ok (.aload_n 0, 1) := by decide +kernel
theorem dX5_reaches_13 : decode cX5_reaches 13 = .ok (.getfield 59, 3) := by decide +kernel
theorem dX5_reaches_16 : decode cX5_reaches 16 = .ok (.aload_n 1, 1) := by decide +kernel
theorem dX5_reaches_17 : decode cX5_reaches 17 = .ok (.iconst 1, 1) := by decide +kernel
theorem dX5_reaches_18 : decode cX5_reaches 18 = .ok (.invokevirtual 250, 3) := by decide +kernel
theorem dX5_reaches_21 : decode cX5_reaches 21 = .ok (.aload_n 0, 1) := by decide +kernel
theorem dX5_reaches_22 : decode cX5_reaches 22 = .ok (.getfield 59, 3) := by decide +kernel
theorem dX5_reaches_25 : decode cX5_reaches 25 = .ok (.getfield 253, 3) := by decide +kernel
theorem dX5_reaches_28 : decode cX5_reaches 28 = .ok (.ifCond .le 33, 3) := by decide +kernel
theorem dX5_reaches_31 : decode cX5_reaches 31 = .ok (.aload_n 0, 1) := by decide +kernel
theorem dX5_reaches_32 : decode cX5_reaches 32 = .ok (.getfield 59, 3) := by decide +kernel
theorem dX5_reaches_35 : decode cX5_reaches 35 = .ok (.getfield 253, 3) := by decide +kernel
theorem dX5_reaches_38 : decode cX5_reaches 38 = .ok (.i2l, 1) := by decide +kernel
theorem dX5_reaches_39 : decode cX5_reaches 39 = .ok (.iload_n 3, 1) := by decide +kernel
theorem dX5_reaches_40 : decode cX5_reaches 40 = .ok (.i2l, 1) := by decide +kernel
theorem dX5_reaches_41 : decode cX5_reaches 41 = .ok (.lmul, 1) := by decide +kernel
theorem dX5_reaches_42 : decode cX5_reaches 42 = .ok (.iload_n 2, 1) := by decide +kernel
theorem dX5_reaches_43 : decode cX5_reaches 43 = .ok (.i2l, 1) := by decide +kernel
theorem dX5_reaches_44 : decode cX5_reaches 44 = .ok (.aload_n 0, 1) := by decide +kernel
theorem dX5_reaches_45 : decode cX5_reaches 45 = .ok (.getfield 59, 3) := by decide +kernel
theorem dX5_reaches_48 : decode cX5_reaches 48 = .ok (.getfield 256, 3) := by decide +kernel
theorem dX5_reaches_51 : decode cX5_reaches 51 = .ok (.i2l, 1) := by decide +kernel
theorem dX5_reaches_52 : decode cX5_reaches 52 = .ok (.lmul, 1) := by decide +kernel
theorem dX5_reaches_53 : decode cX5_reaches 53 = .ok (.lcmp, 1) := by decide +kernel
theorem dX5_reaches_54 : decode cX5_reaches 54 = .ok (.ifCond .lt 7, 3) := by decide +kernel
theorem dX5_reaches_57 : decode cX5_reaches 57 = .ok (.iconst 1, 1) := by decide +kernel
theorem dX5_reaches_58 : decode cX5_reaches 58 = .ok (.goto 4, 3) := by decide +kernel
theorem dX5_reaches_61 : decode cX5_reaches 61 = .ok (.iconst 0, 1) := by decide +kernel
theorem dX5_reaches_62 : decode cX5_reaches 62 = .ok (.ireturn, 1) := by decide +kernel
theorem dX5_commonDivisor_0 : decode cX5_commonDivisor 0 = .ok (.iload_n 0, 1) := by decide +kernel
theorem dX5_commonDivisor_1 : decode cX5_commonDivisor 1 = .ok (.istore_n 2, 1) := by decide +kernel
theorem dX5_commonDivisor_2 : decode cX5_commonDivisor 2 = .ok (.iload_n 1, 1) := by decide +kernel
theorem dX5_commonDivisor_3 : decode cX5_commonDivisor 3 = .ok (.istore_n 3, 1) := by decide +kernel
theorem dX5_commonDivisor_4 : decode cX5_commonDivisor 4 = .ok (.iconst 0, 1) := by decide +kernel
theorem dX5_commonDivisor_5 : decode cX5_commonDivisor 5 = .ok (.istore 4, 2) := by decide +kernel
theorem dX5_commonDivisor_7 : decode cX5_commonDivisor 7 = .ok (.iload 4, 2) := by decide +kernel
theorem dX5_commonDivisor_9 : decode cX5_commonDivisor 9 = .ok (.bipush 64, 2) := by decide +kernel
theorem dX5_commonDivisor_11 : decode cX5_commonDivisor 11 = .ok (.if_icmp .ge 23, 3) := by decide +kernel
theorem dX5_commonDivisor_14 : decode cX5_commonDivisor 14 = .ok (.iload_n 3, 1) := by decide +kernel
theorem dX5_commonDivisor_15 : decode cX5_commonDivisor 15 = .ok (.ifCond .le 19, 3) := by decide +kernel
theorem dX5_commonDivisor_18 : decode cX5_commonDivisor 18 = .ok (.iload_n 2, 1) := by decide +kernel
theorem dX5_commonDivisor_19 : decode cX5_commonDivisor 19 = .ok (.iload_n 3, 1) := by decide +kernel
theorem dX5_commonDivisor_20 : decode cX5_commonDivisor 20 = .ok (.irem, 1) := by decide +kernel
theorem dX5_commonDivisor_21 : decode cX5_commonDivisor 21 = .ok (.istore 5, 2) := by decide +kernel
theorem dX5_commonDivisor_23 : decode cX5_commonDivisor 23 = .ok (.iload_n 3, 1) := by decide +kernel
theorem dX5_commonDivisor_24 : decode cX5_commonDivisor 24 = .ok (.istore_n 2, 1) := by decide +kernel
theorem dX5_commonDivisor_25 : decode cX5_commonDivisor 25 = .ok (.iload 5, 2) := by decide +kernel
theorem dX5_commonDivisor_27 : decode cX5_commonDivisor 27 = .ok (.istore_n 3, 1) := by decide +kernel
theorem dX5_commonDivisor_28 : decode cX5_commonDivisor 28 = .ok (.iinc 4 1, 3) := by decide +kernel
theorem dX5_commonDivisor_31 : decode cX5_commonDivisor 31 = .ok (.goto (-24), 3) := by decide +kernel
theorem dX5_commonDivisor_34 : decode cX5_commonDivisor 34 = .ok (.iload_n 2, 1) := by decide +kernel
theorem dX5_commonDivisor_35 : decode cX5_commonDivisor 35 = .ok (.iconst 1, 1) := by decide +kernel
theorem dX5_commonDivisor_36 : decode cX5_commonDivisor 36 = .ok (.invokestatic 261, 3) := by decide +kernel
theorem dX5_commonDivisor_39 : decode cX5_commonDivisor 39 = .ok (.ireturn, 1) := by decide +kernel
