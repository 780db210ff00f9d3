theorem dX9_thrown_0 : decode cX9_thrown 0 = .ok (.aload_n 0, 1) := by decide +kernel
theorem dX9_thrown_1 : decode cX9_thrown 1 = .ok (.getfield 1, 3) := by decide +kernel
theorem dX9_thrown_4 : decode cX9_thrown 4 = .ok (.ireturn, 1) := by decide +kernel
theorem dX9_in_0 : decode cX9_in 0 = .ok (.lload_n 0, 1) := by decide +kernel
theorem dX9_in_1 : decode cX9_in 1 = .ok (.lload_n 2, 1) := by decide +kernel
theorem dX9_in_2 : decode cX9_in 2 = .ok (.lcmp, 1) := by decide +kernel
theorem dX9_in_3 : decode cX9_in 3 = .ok (.ifCond .lt 14, 3) := by decide +kernel
theorem dX9_in_6 : decode cX9_in 6 = .ok (.lload_n 0, 1) := by decide +kernel
theorem dX9_in_7 : decode cX9_in 7 = .ok (.lload 4, 2) := by decide +kernel
theorem dX9_in_9 : decode cX9_in 9 = .ok (.lcmp, 1) := by decide +kernel
theorem dX9_in_10 : decode cX9_in 10 = .ok (.ifCond .gt 7, 3) := by decide +kernel
theorem dX9_in_13 : decode cX9_in 13 = .ok (.iconst 1, 1) := by decide +kernel
theorem dX9_in_14 : decode cX9_in 14 = .ok (.goto 4, 3) := by decide +kernel
theorem dX9_in_17 : decode cX9_in 17 = .ok (.iconst 0, 1) := by decide +kernel
theorem dX9_in_18 : decode cX9_in 18 = .ok (.ireturn, 1) := by decide +kernel
theorem dX9_refuse_0 : decode cX9_refuse 0 = .ok (.aload_n 0, 1) := by decide +kernel
theorem dX9_refuse_1 : decode cX9_refuse 1 = .ok (.iload_n 1, 1) := by decide +kernel
theorem dX9_refuse_2 : decode cX9_refuse 2 = .ok (.putfield 1, 3) := by decide +kernel
theorem dX9_refuse_5 : decode cX9_refuse 5 = .ok (.iconst 0, 1) := by decide +kernel
theorem dX9_refuse_6 : decode cX9_refuse 6 = .ok (.ireturn, 1) := by decide +kernel
theorem dX9_init_0 : decode cX9_init 0 = .ok (.aload_n 0, 1) := by decide +kernel
theorem dX9_init_1 : decode cX9_init 1 = .ok (.invokespecial 7, 3) := by decide +kernel
theorem dX9_init_4 : decode cX9_init 4 = .ok (.aload_n 0, 1) := by decide +kernel
theorem dX9_init_5 : decode cX9_init 5 = .ok (.sipush 2000, 3) := by decide +kernel
theorem dX9_init_8 : decode cX9_init 8 = .ok (.newarray .int, 2) := by decide +kernel
theorem dX9_init_10 : decode cX9_init 10 = .ok (.putfield 13, 3) := by decide +kernel
theorem dX9_init_13 : decode cX9_init 13 = .ok (.aload_n 0, 1) := by decide +kernel
theorem dX9_init_14 : decode cX9_init 14 = .ok (.sipush 200, 3) := by decide +kernel
theorem dX9_init_17 : decode cX9_init 17 = .ok (.newarray .int, 2) := by decide +kernel
theorem dX9_init_19 : decode cX9_init 19 = .ok (.putfield 17, 3) := by decide +kernel
theorem dX9_init_22 : decode cX9_init 22 = .ok (.aload_n 0, 1) := by decide +kernel
theorem dX9_init_23 : decode cX9_init 23 = .ok (.bipush 79, 2) := by decide +kernel
theorem dX9_init_25 : decode cX9_init 25 = .ok (.newarray .int, 2) := by decide +kernel
theorem dX9_init_27 : decode cX9_init 27 = .ok (.putfield 20, 3) := by decide +kernel
theorem dX9_init_30 : decode cX9_init 30 = .ok (.aload_n 0, 1) := by decide +kernel
theorem dX9_init_31 : decode cX9_init 31 = .ok (.bipush 9, 2) := by decide +kernel
theorem dX9_init_33 : decode cX9_init 33 = .ok (.newarray .int, 2) := by decide +kernel
theorem dX9_init_35 : decode cX9_init 35 = .ok (.putfield 23, 3) := by decide +kernel
theorem dX9_init_38 : decode cX9_init 38 = .ok (.aload_n 0, 1) := by decide +kernel
theorem dX9_init_39 : decode cX9_init 39 = .ok (.bipush 80, 2) := by decide +kernel
theorem dX9_init_41 : decode cX9_init 41 = .ok (.newarray .int, 2) := by decide +kernel
theorem dX9_init_43 : decode cX9_init 43 = .ok (.putfield 26, 3) := by decide +kernel
theorem dX9_init_46 : decode cX9_init 46 = .ok (.aload_n 0, 1) := by decide +kernel
theorem dX9_init_47 : decode cX9_init 47 = .ok (.bipush 80, 2) := by decide +kernel
theorem dX9_init_49 : decode cX9_init 49 = .ok (.newarray .int, 2) := by decide +kernel
theorem dX9_init_51 : decode cX9_init 51 = .ok (.putfield 29, 3) := by decide +kernel
theorem dX9_init_54 : decode cX9_init 54 = .ok (.aload_n 0, 1) := by decide +kernel
theorem dX9_init_55 : decode cX9_init 55 = .ok (.bipush 18, 2) := by decide +kernel
theorem dX9_init_57 : decode cX9_init 57 = .ok (.newarray .int, 2) := by decide +kernel
theorem dX9_init_59 : decode cX9_init 59 = .ok (.putfield 32, 3) := by decide +kernel
theorem dX9_init_62 : decode cX9_init 62 = .ok (.aload_n 0, 1) := by decide +kernel
theorem dX9_init_63 : decode cX9_init 63 = .ok (.bipush 18, 2) := by decide +kernel
theorem dX9_init_65 : decode cX9_init 65 = .ok (.newarray .int, 2) := by decide +kernel
theorem dX9_init_67 : decode cX9_init 67 = .ok (.putfield 35, 3) := by decide +kernel
theorem dX9_init_70 : decode cX9_init 70 = .ok (.aload_n 0, 1) := by decide +kernel
theorem dX9_init_71 : decode cX9_init 71 = .ok (.bipush 11, 2) := by decide +kernel
theorem dX9_init_73 : decode cX9_init 73 = .ok (.newarray .int, 2) := by decide +kernel
theorem dX9_init_75 : decode cX9_init 75 = .ok (.putfield 38, 3) := by decide +kernel
theorem dX9_init_78 : decode cX9_init 78 = .ok (.aload_n 0, 1) := by decide +kernel
theorem dX9_init_79 : decode cX9_init 79 = .ok (.bipush 11, 2) := by decide +kernel
theorem dX9_init_81 : decode cX9_init 81 = .ok (.newarray .int, 2) := by decide +kernel
theorem dX9_init_83 : decode cX9_init 83 = .ok (.putfield 41, 3) := by decide +kernel
theorem dX9_init_86 : decode cX9_init 86 = .ok (.aload_n 0, 1) := by decide +kernel
theorem dX9_init_87 : decode cX9_init 87 = .ok (.bipush 11, 2) := by decide +kernel
theorem dX9_init_89 : decode cX9_init 89 = .ok (.newarray .int, 2) := by decide +kernel
theorem dX9_init_91 : decode cX9_init 91 = .ok (.putfield 44, 3) := by decide +kernel
theorem dX9_init_94 : decode cX9_init 94 = .ok (.aload_n 0, 1) := by decide +kernel
theorem dX9_init_95 : decode cX9_init 95 = .ok (.ldc 47, 2) := by decide +kernel
theorem dX9_init_97 : decode cX9_init 97 = .ok (.newarray .boolean, 2) := by decide +kernel
theorem dX9_init_99 : decode cX9_init 99 = .ok (.putfield 48, 3) := by decide +kernel
theorem dX9_init_102 : decode cX9_init 102 = .ok (.aload_n 0, 1) := by decide +kernel
theorem dX9_init_103 : decode cX9_init 103 = .ok (.sipush 3240, 3) := by decide +kernel
theorem dX9_init_106 : decode cX9_init 106 = .ok (.newarray .boolean, 2) := by decide +kernel
theorem dX9_init_108 : decode cX9_init 108 = .ok (.putfield 52, 3) := by decide +kernel
theorem dX9_init_111 : decode cX9_init 111 = .ok (.aload_n 0, 1) := by decide +kernel
theorem dX9_init_112 : decode cX9_init 112 = .ok (.sipush 960, 3) := by decide +kernel
theorem dX9_init_115 : decode cX9_init 115 = .ok (.newarray .int, 2) := by decide +kernel
theorem dX9_init_117 : decode cX9_init 117 = .ok (.putfield 55, 3) := by decide +kernel
theorem dX9_init_120 : decode cX9_init 120 = .ok (.aload_n 0, 1) := by decide +kernel
theorem dX9_init_121 : decode cX9_init 121 = .ok (.sipush 2400, 3) := by decide +kernel
theorem dX9_init_124 : decode cX9_init 124 = .ok (.newarray .int, 2) := by decide +kernel
theorem dX9_init_126 : decode cX9_init 126 = .ok (.putfield 58, 3) := by decide +kernel
theorem dX9_init_129 : decode cX9_init 129 = .ok (.aload_n 0, 1) := by decide +kernel
theorem dX9_init_130 : decode cX9_init 130 = .ok (.bipush 120, 2) := by decide +kernel
theorem dX9_init_132 : decode cX9_init 132 = .ok (.newarray .int, 2) := by decide +kernel
theorem dX9_init_134 : decode cX9_init 134 = .ok (.putfield 61, 3) := by decide +kernel
theorem dX9_init_137 : decode cX9_init 137 = .ok (.aload_n 0, 1) := by decide +kernel
theorem dX9_init_138 : decode cX9_init 138 = .ok (.sipush 424, 3) := by decide +kernel
theorem dX9_init_141 : decode cX9_init 141 = .ok (.newarray .boolean, 2) := by decide +kernel
theorem dX9_init_143 : decode cX9_init 143 = .ok (.putfield 64, 3) := by decide +kernel
theorem dX9_init_146 : decode cX9_init 146 = .ok (.aload_n 0, 1) := by decide +kernel
theorem dX9_init_147 : decode cX9_init 147 = .ok (.invokevirtual 67, 3) := by decide +kernel
theorem dX9_init_150 : decode cX9_init 150 = .ok (.return_, 1) := by decide +kernel
theorem dX9_feed_0 : decode cX9_feed 0 = .ok (.aload_n 0, 1) := by decide +kernel
theorem dX9_feed_1 : decode cX9_feed 1 = .ok (.iconst 0, 1) := by decide +kernel
theorem dX9_feed_2 : decode cX9_feed 2 = .ok (.putfield 1, 3) := by decide +kernel
theorem dX9_feed_5 : decode cX9_feed 5 = .ok (.aload_n 0, 1) := by decide +kernel
theorem dX9_feed_6 : decode cX9_feed 6 = .ok (.getfield 70, 3) := by decide +kernel
theorem dX9_feed_9 : decode cX9_feed 9 = .ok (.sipush 1980, 3) := by decide +kernel
theorem dX9_feed_12 : decode cX9_feed 12 = .ok (.if_icmp .le 6, 3) := by decide +kernel
theorem dX9_feed_15 : decode cX9_feed 15 = .ok (.ldc 73, 2) := by decide +kernel
theorem dX9_feed_17 : decode cX9_feed 17 = .ok (.ireturn, 1) := by decide +kernel
theorem dX9_feed_18 : decode cX9_feed 18 = .ok (.iconst 0, 1) := by decide +kernel
theorem dX9_feed_19 : decode cX9_feed 19 = .ok (.istore 6, 2) := by decide +kernel
theorem dX9_feed_21 : decode cX9_feed 21 = .ok (.iload 6, 2) := by decide +kernel
theorem dX9_feed_23 : decode cX9_feed 23 = .ok (.bipush 20, 2) := by decide +kernel
theorem dX9_feed_25 : decode cX9_feed 25 = .ok (.if_icmp .ge 86, 3) := by decide +kernel
theorem dX9_feed_28 : decode cX9_feed 28 = .ok (.iload 6, 2) := by decide +kernel
theorem dX9_feed_30 : decode cX9_feed 30 = .ok (.iconst 4, 1) := by decide +kernel
theorem dX9_feed_31 : decode cX9_feed 31 = .ok (.if_icmp .ge 7, 3) := by decide +kernel
theorem dX9_feed_34 : decode cX9_feed 34 = .ok (.iload_n 1, 1) := by decide +kernel
theorem dX9_feed_35 : decode cX9_feed 35 = .ok (.goto 39, 3) := by decide +kernel
theorem dX9_feed_38 : decode cX9_feed 38 = .ok (.iload 6, 2) := by decide +kernel
theorem dX9_feed_40 : decode cX9_feed 40 = .ok (.bipush 8, 2) := by decide +kernel
theorem dX9_feed_42 : decode cX9_feed 42 = .ok (.if_icmp .ge 7, 3) := by decide +kernel
theorem dX9_feed_45 : decode cX9_feed 45 = .ok (.iload_n 2, 1) := by decide +kernel
theorem dX9_feed_46 : decode cX9_feed 46 = .ok (.goto 28, 3) := by decide +kernel
theorem dX9_feed_49 : decode cX9_feed 49 = .ok (.iload 6, 2) := by decide +kernel
theorem dX9_feed_51 : decode cX9_feed 51 = .ok (.bipush 12, 2) := by decide +kernel
theorem dX9_feed_53 : decode cX9_feed 53 = .ok (.if_icmp .ge 7, 3) := by decide +kernel
theorem dX9_feed_56 : decode cX9_feed 56 = .ok (.iload_n 3, 1) := by decide +kernel
theorem dX9_feed_57 : decode cX9_feed 57 = .ok (.goto 17, 3) := by decide +kernel
theorem dX9_feed_60 : decode cX9_feed 60 = .ok (.iload 6, 2) := by decide +kernel
theorem dX9_feed_62 : decode cX9_feed 62 = .ok (.bipush 16, 2) := by decide +kernel
theorem dX9_feed_64 : decode cX9_feed 64 = .ok (.if_icmp .ge 8, 3) := by decide +kernel
theorem dX9_feed_67 : decode cX9_feed 67 = .ok (.iload 4, 2) := by decide +kernel
theorem dX9_feed_69 : decode cX9_feed 69 = .ok (.goto 5, 3) := by decide +kernel
theorem dX9_feed_72 : decode cX9_feed 72 = .ok (.iload 5, 2) := by decide +kernel
theorem dX9_feed_74 : decode cX9_feed 74 = .ok (.istore 7, 2) := by decide +kernel
theorem dX9_feed_76 : decode cX9_feed 76 = .ok (.aload_n 0, 1) := by decide +kernel
theorem dX9_feed_77 : decode cX9_feed 77 = .ok (.getfield 13, 3) := by decide +kernel
theorem dX9_feed_80 : decode cX9_feed 80 = .ok (.aload_n 0, 1) := by decide +kernel
theorem dX9_feed_81 : decode cX9_feed 81 = .ok (.getfield 70, 3) := by decide +kernel
theorem dX9_feed_84 : decode cX9_feed 84 = .ok (.iload 6, 2) := by decide +kernel
theorem dX9_feed_86 : decode cX9_feed 86 = .ok (.iadd, 1) := by decide +kernel
theorem dX9_feed_87 : decode cX9_feed 87 = .ok (.iload 7, 2) := by decide +kernel
theorem dX9_feed_89 : decode cX9_feed 89 = .ok (.bipush 24, 2) := by decide +kernel
theorem dX9_feed_91 : decode cX9_feed 91 = .ok (.bipush 8, 2) := by decide +kernel
theorem dX9_feed_93 : decode cX9_feed 93 = .ok (.iload 6, 2) := by decide +kernel
theorem dX9_feed_95 : decode cX9_feed 95 = .ok (.iconst 4, 1) := by decide +kernel
theorem dX9_feed_96 : decode cX9_feed 96 = .ok (.irem, 1) := by decide +kernel
theorem dX9_feed_97 : decode cX9_feed 97 = .ok (.imul, 1) := by decide +kernel
theorem dX9_feed_98 : decode cX9_feed 98 = .ok (.isub, 1) := by decide +kernel
theorem dX9_feed_99 : decode cX9_feed 99 = .ok (.ishr, 1) := by decide +kernel
theorem dX9_feed_100 : decode cX9_feed 100 = .ok (.sipush 255, 3) := by decide +kernel
theorem dX9_feed_103 : decode cX9_feed 103 = .ok (.iand, 1) := by decide +kernel
theorem dX9_feed_104 : decode cX9_feed 104 = .ok (.iastore, 1) := by decide +kernel
theorem dX9_feed_105 : decode cX9_feed 105 = .ok (.iinc 6 1, 3) := by decide +kernel
theorem dX9_feed_108 : decode cX9_feed 108 = .ok (.goto (-87), 3) := by decide +kernel
theorem dX9_feed_111 : decode cX9_feed 111 = .ok (.aload_n 0, 1) := by decide +kernel
theorem dX9_feed_112 : decode cX9_feed 112 = .ok (.dup, 1) := by decide +kernel
theorem dX9_feed_113 : decode cX9_feed 113 = .ok (.getfield 70, 3) := by decide +kernel
theorem dX9_feed_116 : decode cX9_feed 116 = .ok (.bipush 20, 2) := by decide +kernel
theorem dX9_feed_118 : decode cX9_feed 118 = .ok (.iadd, 1) := by decide +kernel
theorem dX9_feed_119 : decode cX9_feed 119 = .ok (.putfield 70, 3) := by decide +kernel
theorem dX9_feed_122 : decode cX9_feed 122 = .ok (.aload_n 0, 1) := by decide +kernel
theorem dX9_feed_123 : decode cX9_feed 123 = .ok (.getfield 70, 3) := by decide +kernel
theorem dX9_feed_126 : decode cX9_feed 126 = .ok (.ireturn, 1) := by decide +kernel
theorem dX9_end_0 : decode cX9_end 0 = .ok (.aload_n 0, 1) := by decide +kernel
theorem dX9_end_1 : decode cX9_end 1 = .ok (.iconst 0, 1) := by decide +kernel
theorem dX9_end_2 : decode cX9_end 2 = .ok (.putfield 1, 3) := by decide +kernel
theorem dX9_end_5 : decode cX9_end 5 = .ok (.iload_n 1, 1) := by decide +kernel
theorem dX9_end_6 : decode cX9_end 6 = .ok (.i2l, 1) := by decide +kernel
theorem dX9_end_7 : decode cX9_end 7 = .ok (.lconst 0, 1) := by decide +kernel
theorem dX9_end_8 : decode cX9_end 8 = .ok (.aload_n 0, 1) := by decide +kernel
theorem dX9_end_9 : decode cX9_end 9 = .ok (.getfield 70, 3) := by decide +kernel
theorem dX9_end_12 : decode cX9_end 12 = .ok (.i2l, 1) := by decide +kernel
theorem dX9_end_13 : decode cX9_end 13 = .ok (.invokestatic 74, 3) := by decide +kernel
theorem dX9_end_16 : decode cX9_end 16 = .ok (.ifCond .ne 5, 3) := by decide +kernel
theorem dX9_end_19 : decode cX9_end 19 = .ok (.iconst 0, 1) := by decide +kernel
theorem dX9_end_20 : decode cX9_end 20 = .ok (.ireturn, 1) := by decide +kernel
theorem dX9_end_21 : decode cX9_end 21 = .ok (.aload_n 0, 1) := by decide +kernel
theorem dX9_end_22 : decode cX9_end 22 = .ok (.iload_n 1, 1) := by decide +kernel
theorem dX9_end_23 : decode cX9_end 23 = .ok (.putfield 70, 3) := by decide +kernel
theorem dX9_end_26 : decode cX9_end 26 = .ok (.iconst 1, 1) := by decide +kernel
theorem dX9_end_27 : decode cX9_end 27 = .ok (.ireturn, 1) := by decide +kernel
theorem dX9_sixteen_0 : decode cX9_sixteen 0 = .ok (.iload_n 0, 1) := by decide +kernel
theorem dX9_sixteen_1 : decode cX9_sixteen 1 = .ok (.i2l, 1) := by decide +kernel
theorem dX9_sixteen_2 : decode cX9_sixteen 2 = .ok (.ldc2_w 78, 3) := by decide +kernel
theorem dX9_sixteen_5 : decode cX9_sixteen 5 = .ok (.ldc2_w 80, 3) := by decide +kernel
theorem dX9_sixteen_8 : decode cX9_sixteen 8 = .ok (.invokestatic 74, 3) := by decide +kernel
theorem dX9_sixteen_11 : decode cX9_sixteen 11 = .ok (.ifCond .eq 10, 3) := by decide +kernel
theorem dX9_sixteen_14 : decode cX9_sixteen 14 = .ok (.iload_n 0, 1) := by decide +kernel
theorem dX9_sixteen_15 : decode cX9_sixteen 15 = .ok (.bipush 48, 2) := by decide +kernel
theorem dX9_sixteen_17 : decode cX9_sixteen 17 = .ok (.isub, 1) := by decide +kernel
theorem dX9_sixteen_18 : decode cX9_sixteen 18 = .ok (.goto 28, 3) := by decide +kernel
theorem dX9_sixteen_21 : decode cX9_sixteen 21 = .ok (.iload_n 0, 1) := by decide +kernel
theorem dX9_sixteen_22 : decode cX9_sixteen 22 = .ok (.i2l, 1) := by decide +kernel
theorem dX9_sixteen_23 : decode cX9_sixteen 23 = .ok (.ldc2_w 82, 3) := by decide +kernel
theorem dX9_sixteen_26 : decode cX9_sixteen 26 = .ok (.ldc2_w 84, 3) := by decide +kernel
theorem dX9_sixteen_29 : decode cX9_sixteen 29 = .ok (.invokestatic 74, 3) := by decide +kernel
theorem dX9_sixteen_32 : decode cX9_sixteen 32 = .ok (.ifCond .eq 13, 3) := by decide +kernel
theorem dX9_sixteen_35 : decode cX9_sixteen 35 = .ok (.iload_n 0, 1) := by decide +kernel
theorem dX9_sixteen_36 : decode cX9_sixteen 36 = .ok (.bipush 65, 2) := by decide +kernel
theorem dX9_sixteen_38 : decode cX9_sixteen 38 = .ok (.isub, 1) := by decide +kernel
theorem dX9_sixteen_39 : decode cX9_sixteen 39 = .ok (.bipush 10, 2) := by decide +kernel
theorem dX9_sixteen_41 : decode cX9_sixteen 41 = .ok (.iadd, 1) := by decide +kernel
theorem dX9_sixteen_42 : decode cX9_sixteen 42 = .ok (.goto 4, 3) := by decide +kernel
theorem dX9_sixteen_45 : decode cX9_sixteen 45 = .ok (.iconst (-1), 1) := by decide +kernel
theorem dX9_sixteen_46 : decode cX9_sixteen 46 = .ok (.ireturn, 1) := by decide +kernel
theorem dX9_stream_0 : decode cX9_stream 0 = .ok (.aload_n 0, 1) := by decide +kernel
theorem dX9_stream_1 : decode cX9_stream 1 = .ok (.iconst 0, 1) := by decide +kernel
theorem dX9_stream_2 : decode cX9_stream 2 = .ok (.putfield 1, 3) := by decide +kernel
theorem dX9_stream_5 : decode cX9_stream 5 = .ok (.aload_n 0, 1) := by decide +kernel
theorem dX9_stream_6 : decode cX9_stream 6 = .ok (.getfield 23, 3) := by decide +kernel
theorem dX9_stream_9 : decode cX9_stream 9 = .ok (.iconst 0, 1) := by decide +kernel
theorem dX9_stream_10 : decode cX9_stream 10 = .ok (.iaload, 1) := by decide +kernel
theorem dX9_stream_11 : decode cX9_stream 11 = .ok (.istore_n 1, 1) := by decide +kernel
theorem dX9_stream_12 : decode cX9_stream 12 = .ok (.aload_n 0, 1) := by decide +kernel
theorem dX9_stream_13 : decode cX9_stream 13 = .ok (.getfield 70, 3) := by decide +kernel
theorem dX9_stream_16 : decode cX9_stream 16 = .ok (.istore_n 2, 1) := by decide +kernel
theorem dX9_stream_17 : decode cX9_stream 17 = .ok (.aload_n 0, 1) := by decide +kernel
theorem dX9_stream_18 : decode cX9_stream 18 = .ok (.iconst 0, 1) := by decide +kernel
theorem dX9_stream_19 : decode cX9_stream 19 = .ok (.putfield 70, 3) := by decide +kernel
theorem dX9_stream_22 : decode cX9_stream 22 = .ok (.iconst 0, 1) := by decide +kernel
theorem dX9_stream_23 : decode cX9_stream 23 = .ok (.istore_n 3, 1) := by decide +kernel
theorem dX9_stream_24 : decode cX9_stream 24 = .ok (.iload_n 3, 1) := by decide +kernel
theorem dX9_stream_25 : decode cX9_stream 25 = .ok (.iload_n 2, 1) := by decide +kernel
theorem dX9_stream_26 : decode cX9_stream 26 = .ok (.if_icmp .ge 19, 3) := by decide +kernel
theorem dX9_stream_29 : decode cX9_stream 29 = .ok (.aload_n 0, 1) := by decide +kernel
theorem dX9_stream_30 : decode cX9_stream 30 = .ok (.aload_n 0, 1) := by decide +kernel
theorem dX9_stream_31 : decode cX9_stream 31 = .ok (.getfield 13, 3) := by decide +kernel
theorem dX9_stream_34 : decode cX9_stream 34 = .ok (.iload_n 3, 1) := by decide +kernel
theorem dX9_stream_35 : decode cX9_stream 35 = .ok (.iaload, 1) := by decide +kernel
theorem dX9_stream_36 : decode cX9_stream 36 = .ok (.invokevirtual 86, 3) := by decide +kernel
theorem dX9_stream_39 : decode cX9_stream 39 = .ok (.iinc 3 1, 3) := by decide +kernel
theorem dX9_stream_42 : decode cX9_stream 42 = .ok (.goto (-18), 3) := by decide +kernel
theorem dX9_stream_45 : decode cX9_stream 45 = .ok (.aload_n 0, 1) := by decide +kernel
theorem dX9_stream_46 : decode cX9_stream 46 = .ok (.getfield 23, 3) := by decide +kernel
theorem dX9_stream_49 : decode cX9_stream 49 = .ok (.iconst 0, 1) := by decide +kernel
theorem dX9_stream_50 : decode cX9_stream 50 = .ok (.iaload, 1) := by decide +kernel
theorem dX9_stream_51 : decode cX9_stream 51 = .ok (.iload_n 1, 1) := by decide +kernel
theorem dX9_stream_52 : decode cX9_stream 52 = .ok (.isub, 1) := by decide +kernel
theorem dX9_stream_53 : decode cX9_stream 53 = .ok (.ireturn, 1) := by decide +kernel
theorem dX9_comes_0 : decode cX9_comes 0 = .ok (.iload_n 1, 1) := by decide +kernel
theorem dX9_comes_1 : decode cX9_comes 1 = .ok (.bipush 36, 2) := by decide +kernel
theorem dX9_comes_3 : decode cX9_comes 3 = .ok (.if_icmp .eq 9, 3) := by decide +kernel
theorem dX9_comes_6 : decode cX9_comes 6 = .ok (.iload_n 1, 1) := by decide +kernel
theorem dX9_comes_7 : decode cX9_comes 7 = .ok (.bipush 33, 2) := by decide +kernel
theorem dX9_comes_9 : decode cX9_comes 9 = .ok (.if_icmp .ne 47, 3) := by decide +kernel
theorem dX9_comes_12 : decode cX9_comes 12 = .ok (.aload_n 0, 1) := by decide +kernel
theorem dX9_comes_13 : decode cX9_comes 13 = .ok (.getfield 23, 3) := by decide +kernel
theorem dX9_comes_16 : decode cX9_comes 16 = .ok (.iconst 1, 1) := by decide +kernel
theorem dX9_comes_17 : decode cX9_comes 17 = .ok (.dup2, 1) := by decide +kernel
theorem dX9_comes_18 : decode cX9_comes 18 = .ok (.iaload, 1) := by decide +kernel
theorem dX9_comes_19 : decode cX9_comes 19 = .ok (.aload_n 0, 1) := by decide +kernel
theorem dX9_comes_20 : decode cX9_comes 20 = .ok (.getfield 90, 3) := by decide +kernel
theorem dX9_comes_23 : decode cX9_comes 23 = .ok (.ifCond .eq 7, 3) := by decide +kernel
theorem dX9_comes_26 : decode cX9_comes 26 = .ok (.iconst 1, 1) := by decide +kernel
theorem dX9_comes_27 : decode cX9_comes 27 = .ok (.goto 4, 3) := by decide +kernel
theorem dX9_comes_30 : decode cX9_comes 30 = .ok (.iconst 0, 1) := by decide +kernel
theorem dX9_comes_31 : decode cX9_comes 31 = .ok (.iadd, 1) := by decide +kernel
theorem dX9_comes_32 : decode cX9_comes 32 = .ok (.iastore, 1) := by decide +kernel
theorem dX9_comes_33 : decode cX9_comes 33 = .ok (.aload_n 0, 1) := by decide +kernel
theorem dX9_comes_34 : decode cX9_comes 34 = .ok (.iconst 1, 1) := by decide +kernel
theorem dX9_comes_35 : decode cX9_comes 35 = .ok (.putfield 90, 3) := by decide +kernel
theorem dX9_comes_38 : decode cX9_comes 38 = .ok (.aload_n 0, 1) := by decide +kernel
theorem dX9_comes_39 : decode cX9_comes 39 = .ok (.getfield 20, 3) := by decide +kernel
theorem dX9_comes_42 : decode cX9_comes 42 = .ok (.iconst 0, 1) := by decide +kernel
theorem dX9_comes_43 : decode cX9_comes 43 = .ok (.iload_n 1, 1) := by decide +kernel
theorem dX9_comes_44 : decode cX9_comes 44 = .ok (.iastore, 1) := by decide +kernel
theorem dX9_comes_45 : decode cX9_comes 45 = .ok (.aload_n 0, 1) := by decide +kernel
theorem dX9_comes_46 : decode cX9_comes 46 = .ok (.iconst 1, 1) := by decide +kernel
theorem dX9_comes_47 : decode cX9_comes 47 = .ok (.putfield 93, 3) := by decide +kernel
theorem dX9_comes_50 : decode cX9_comes 50 = .ok (.aload_n 0, 1) := by decide +kernel
theorem dX9_comes_51 : decode cX9_comes 51 = .ok (.iconst 0, 1) := by decide +kernel
theorem dX9_comes_52 : decode cX9_comes 52 = .ok (.putfield 96, 3) := by decide +kernel
theorem dX9_comes_55 : decode cX9_comes 55 = .ok (.return_, 1) := by decide +kernel
theorem dX9_comes_56 : decode cX9_comes 56 = .ok (.aload_n 0, 1) := by decide +kernel
theorem dX9_comes_57 : decode cX9_comes 57 = .ok (.getfield 90, 3) := by decide +kernel
theorem dX9_comes_60 : decode cX9_comes 60 = .ok (.ifCond .ne 4, 3) := by decide +kernel
theorem dX9_comes_63 : decode cX9_comes 63 = .ok (.return_, 1) := by decide +kernel
theorem dX9_comes_64 : decode cX9_comes 64 = .ok (.aload_n 0, 1) := by decide +kernel
theorem dX9_comes_65 : decode cX9_comes 65 = .ok (.getfield 90, 3) := by decide +kernel
theorem dX9_comes_68 : decode cX9_comes 68 = .ok (.iconst 1, 1) := by decide +kernel
theorem dX9_comes_69 : decode cX9_comes 69 = .ok (.if_icmp .ne 109, 3) := by decide +kernel
theorem dX9_comes_72 : decode cX9_comes 72 = .ok (.iload_n 1, 1) := by decide +kernel
theorem dX9_comes_73 : decode cX9_comes 73 = .ok (.bipush 42, 2) := by decide +kernel
theorem dX9_comes_75 : decode cX9_comes 75 = .ok (.if_icmp .ne 19, 3) := by decide +kernel
theorem dX9_comes_78 : decode cX9_comes 78 = .ok (.aload_n 0, 1) := by decide +kernel
theorem dX9_comes_79 : decode cX9_comes 79 = .ok (.getfield 93, 3) := by decide +kernel
theorem dX9_comes_82 : decode cX9_comes 82 = .ok (.iconst 1, 1) := by decide +kernel
theorem dX9_comes_83 : decode cX9_comes 83 = .ok (.if_icmp .le 7, 3) := by decide +kernel
theorem dX9_comes_86 : decode cX9_comes 86 = .ok (.iconst 1, 1) := by decide +kernel
theorem dX9_comes_87 : decode cX9_comes 87 = .ok (.goto 35, 3) := by decide +kernel
theorem dX9_comes_90 : decode cX9_comes 90 = .ok (.iconst 0, 1) := by decide +kernel
theorem dX9_comes_91 : decode cX9_comes 91 = .ok (.goto 31, 3) := by decide +kernel
theorem dX9_comes_94 : decode cX9_comes 94 = .ok (.iload_n 1, 1) := by decide +kernel
theorem dX9_comes_95 : decode cX9_comes 95 = .ok (.i2l, 1) := by decide +kernel
theorem dX9_comes_96 : decode cX9_comes 96 = .ok (.ldc2_w 99, 3) := by decide +kernel
theorem dX9_comes_99 : decode cX9_comes 99 = .ok (.ldc2_w 101, 3) := by decide +kernel
theorem dX9_comes_102 : decode cX9_comes 102 = .ok (.invokestatic 74, 3) := by decide +kernel
theorem dX9_comes_105 : decode cX9_comes 105 = .ok (.ifCond .eq 16, 3) := by decide +kernel
theorem dX9_comes_108 : decode cX9_comes 108 = .ok (.aload_n 0, 1) := by decide +kernel
theorem dX9_comes_109 : decode cX9_comes 109 = .ok (.getfield 93, 3) := by decide +kernel
theorem dX9_comes_112 : decode cX9_comes 112 = .ok (.bipush 78, 2) := by decide +kernel
theorem dX9_comes_114 : decode cX9_comes 114 = .ok (.if_icmp .gt 7, 3) := by decide +kernel
theorem dX9_comes_117 : decode cX9_comes 117 = .ok (.iconst 1, 1) := by decide +kernel
theorem dX9_comes_118 : decode cX9_comes 118 = .ok (.goto 4, 3) := by decide +kernel
theorem dX9_comes_121 : decode cX9_comes 121 = .ok (.iconst 0, 1) := by decide +kernel
theorem dX9_comes_122 : decode cX9_comes 122 = .ok (.istore_n 2, 1) := by decide +kernel
theorem dX9_comes_123 : decode cX9_comes 123 = .ok (.iload_n 2, 1) := by decide +kernel
theorem dX9_comes_124 : decode cX9_comes 124 = .ok (.ifCond .eq 17, 3) := by decide +kernel
theorem dX9_comes_127 : decode cX9_comes 127 = .ok (.iload_n 1, 1) := by decide +kernel
theorem dX9_comes_128 : decode cX9_comes 128 = .ok (.bipush 42, 2) := by decide +kernel
theorem dX9_comes_130 : decode cX9_comes 130 = .ok (.if_icmp .ne 11, 3) := by decide +kernel
theorem dX9_comes_133 : decode cX9_comes 133 = .ok (.aload_n 0, 1) := by decide +kernel
theorem dX9_comes_134 : decode cX9_comes 134 = .ok (.iconst 2, 1) := by decide +kernel
theorem dX9_comes_135 : decode cX9_comes 135 = .ok (.putfield 90, 3) := by decide +kernel
theorem dX9_comes_138 : decode cX9_comes 138 = .ok (.goto 140, 3) := by decide +kernel
theorem dX9_comes_141 : decode cX9_comes 141 = .ok (.iload_n 2, 1) := by decide +kernel
theorem dX9_comes_142 : decode cX9_comes 142 = .ok (.ifCond .eq 136, 3) := by decide +kernel
theorem dX9_comes_145 : decode cX9_comes 145 = .ok (.aload_n 0, 1) := by decide +kernel
theorem dX9_comes_146 : decode cX9_comes 146 = .ok (.getfield 20, 3) := by decide +kernel
theorem dX9_comes_149 : decode cX9_comes 149 = .ok (.aload_n 0, 1) := by decide +kernel
theorem dX9_comes_150 : decode cX9_comes 150 = .ok (.getfield 93, 3) := by decide +kernel
theorem dX9_comes_153 : decode cX9_comes 153 = .ok (.iload_n 1, 1) := by decide +kernel
theorem dX9_comes_154 : decode cX9_comes 154 = .ok (.iastore, 1) := by decide +kernel
theorem dX9_comes_155 : decode cX9_comes 155 = .ok (.aload_n 0, 1) := by decide +kernel
theorem dX9_comes_156 : decode cX9_comes 156 = .ok (.dup, 1) := by decide +kernel
theorem dX9_comes_157 : decode cX9_comes 157 = .ok (.getfield 93, 3) := by decide +kernel
theorem dX9_comes_160 : decode cX9_comes 160 = .ok (.iconst 1, 1) := by decide +kernel
theorem dX9_comes_161 : decode cX9_comes 161 = .ok (.iadd, 1) := by decide +kernel
theorem dX9_comes_162 : decode cX9_comes 162 = .ok (.putfield 93, 3) := by decide +kernel
theorem dX9_comes_165 : decode cX9_comes 165 = .ok (.aload_n 0, 1) := by decide +kernel
theorem dX9_comes_166 : decode cX9_comes 166 = .ok (.dup, 1) := by decide +kernel
theorem dX9_comes_167 : decode cX9_comes 167 = .ok (.getfield 96, 3) := by decide +kernel
theorem dX9_comes_170 : decode cX9_comes 170 = .ok (.iload_n 1, 1) := by decide +kernel
theorem dX9_comes_171 : decode cX9_comes 171 = .ok (.ixor, 1) := by decide +kernel
theorem dX9_comes_172 : decode cX9_comes 172 = .ok (.putfield 96, 3) := by decide +kernel
theorem dX9_comes_175 : decode cX9_comes 175 = .ok (.goto 103, 3) := by decide +kernel
theorem dX9_comes_178 : decode cX9_comes 178 = .ok (.aload_n 0, 1) := by decide +kernel
theorem dX9_comes_179 : decode cX9_comes 179 = .ok (.getfield 90, 3) := by decide +kernel
theorem dX9_comes_182 : decode cX9_comes 182 = .ok (.iconst 4, 1) := by decide +kernel
theorem dX9_comes_183 : decode cX9_comes 183 = .ok (.if_icmp .ge 60, 3) := by decide +kernel
theorem dX9_comes_186 : decode cX9_comes 186 = .ok (.iload_n 1, 1) := by decide +kernel
theorem dX9_comes_187 : decode cX9_comes 187 = .ok (.invokestatic 103, 3) := by decide +kernel
theorem dX9_comes_190 : decode cX9_comes 190 = .ok (.ifCond .lt 7, 3) := by decide +kernel
theorem dX9_comes_193 : decode cX9_comes 193 = .ok (.iconst 1, 1) := by decide +kernel
theorem dX9_comes_194 : decode cX9_comes 194 = .ok (.goto 4, 3) := by decide +kernel
theorem dX9_comes_197 : decode cX9_comes 197 = .ok (.iconst 0, 1) := by decide +kernel
theorem dX9_comes_198 : decode cX9_comes 198 = .ok (.istore_n 2, 1) := by decide +kernel
theorem dX9_comes_199 : decode cX9_comes 199 = .ok (.aload_n 0, 1) := by decide +kernel
theorem dX9_comes_200 : decode cX9_comes 200 = .ok (.aload_n 0, 1) := by decide +kernel
theorem dX9_comes_201 : decode cX9_comes 201 = .ok (.getfield 90, 3) := by decide +kernel
theorem dX9_comes_204 : decode cX9_comes 204 = .ok (.iconst 2, 1) := by decide +kernel
theorem dX9_comes_205 : decode cX9_comes 205 = .ok (.if_icmp .ne 10, 3) := by decide +kernel
theorem dX9_comes_208 : decode cX9_comes 208 = .ok (.iload_n 1, 1) := by decide +kernel
theorem dX9_comes_209 : decode cX9_comes 209 = .ok (.invokestatic 103, 3) := by decide +kernel
theorem dX9_comes_212 : decode cX9_comes 212 = .ok (.goto 15, 3) := by decide +kernel
theorem dX9_comes_215 : decode cX9_comes 215 = .ok (.bipush 16, 2) := by decide +kernel
theorem dX9_comes_217 : decode cX9_comes 217 = .ok (.aload_n 0, 1) := by decide +kernel
theorem dX9_comes_218 : decode cX9_comes 218 = .ok (.getfield 107, 3) := by decide +kernel
theorem dX9_comes_221 : decode cX9_comes 221 = .ok (.imul, 1) := by decide +kernel
theorem dX9_comes_222 : decode cX9_comes 222 = .ok (.iload_n 1, 1) := by decide +kernel
theorem dX9_comes_223 : decode cX9_comes 223 = .ok (.invokestatic 103, 3) := by decide +kernel
theorem dX9_comes_226 : decode cX9_comes 226 = .ok (.iadd, 1) := by decide +kernel
theorem dX9_comes_227 : decode cX9_comes 227 = .ok (.putfield 107, 3) := by decide +kernel
theorem dX9_comes_230 : decode cX9_comes 230 = .ok (.aload_n 0, 1) := by decide +kernel
theorem dX9_comes_231 : decode cX9_comes 231 = .ok (.dup, 1) := by decide +kernel
theorem dX9_comes_232 : decode cX9_comes 232 = .ok (.getfield 90, 3) := by decide +kernel
theorem dX9_comes_235 : decode cX9_comes 235 = .ok (.iconst 1, 1) := by decide +kernel
theorem dX9_comes_236 : decode cX9_comes 236 = .ok (.iadd, 1) := by decide +kernel
theorem dX9_comes_237 : decode cX9_comes 237 = .ok (.putfield 90, 3) := by decide +kernel
theorem dX9_comes_240 : decode cX9_comes 240 = .ok (.goto 38, 3) := by decide +kernel
theorem dX9_comes_243 : decode cX9_comes 243 = .ok (.iload_n 1, 1) := by decide +kernel
theorem dX9_comes_244 : decode cX9_comes 244 = .ok (.aload_n 0, 1) := by decide +kernel
theorem dX9_comes_245 : decode cX9_comes 245 = .ok (.getfield 90, 3) := by decide +kernel
theorem dX9_comes_248 : decode cX9_comes 248 = .ok (.iconst 4, 1) := by decide +kernel
theorem dX9_comes_249 : decode cX9_comes 249 = .ok (.if_icmp .ne 8, 3) := by decide +kernel
theorem dX9_comes_252 : decode cX9_comes 252 = .ok (.bipush 13, 2) := by decide +kernel
theorem dX9_comes_254 : decode cX9_comes 254 = .ok (.goto 5, 3) := by decide +kernel
theorem dX9_comes_257 : decode cX9_comes 257 = .ok (.bipush 10, 2) := by decide +kernel
theorem dX9_comes_259 : decode cX9_comes 259 = .ok (.if_icmp .ne 7, 3) := by decide +kernel
theorem dX9_comes_262 : decode cX9_comes 262 = .ok (.iconst 1, 1) := by decide +kernel
theorem dX9_comes_263 : decode cX9_comes 263 = .ok (.goto 4, 3) := by decide +kernel
theorem dX9_comes_266 : decode cX9_comes 266 = .ok (.iconst 0, 1) := by decide +kernel
theorem dX9_comes_267 : decode cX9_comes 267 = .ok (.istore_n 2, 1) := by decide +kernel
theorem dX9_comes_268 : decode cX9_comes 268 = .ok (.aload_n 0, 1) := by decide +kernel
theorem dX9_comes_269 : decode cX9_comes 269 = .ok (.dup, 1) := by decide +kernel
theorem dX9_comes_270 : decode cX9_comes 270 = .ok (.getfield 90, 3) := by decide +kernel
theorem dX9_comes_273 : decode cX9_comes 273 = .ok (.iconst 1, 1) := by decide +kernel
theorem dX9_comes_274 : decode cX9_comes 274 = .ok (.iadd, 1) := by decide +kernel
theorem dX9_comes_275 : decode cX9_comes 275 = .ok (.putfield 90, 3) := by decide +kernel
theorem dX9_comes_278 : decode cX9_comes 278 = .ok (.iload_n 2, 1) := by decide +kernel
theorem dX9_comes_279 : decode cX9_comes 279 = .ok (.ifCond .ne 21, 3) := by decide +kernel
theorem dX9_comes_282 : decode cX9_comes 282 = .ok (.aload_n 0, 1) := by decide +kernel
theorem dX9_comes_283 : decode cX9_comes 283 = .ok (.getfield 23, 3) := by decide +kernel
theorem dX9_comes_286 : decode cX9_comes 286 = .ok (.iconst 1, 1) := by decide +kernel
theorem dX9_comes_287 : decode cX9_comes 287 = .ok (.dup2, 1) := by decide +kernel
theorem dX9_comes_288 : decode cX9_comes 288 = .ok (.iaload, 1) := by decide +kernel
theorem dX9_comes_289 : decode cX9_comes 289 = .ok (.iconst 1, 1) := by decide +kernel
theorem dX9_comes_290 : decode cX9_comes 290 = .ok (.iadd, 1) := by decide +kernel
theorem dX9_comes_291 : decode cX9_comes 291 = .ok (.iastore, 1) := by decide +kernel
theorem dX9_comes_292 : decode cX9_comes 292 = .ok (.aload_n 0, 1) := by decide +kernel
theorem dX9_comes_293 : decode cX9_comes 293 = .ok (.iconst 0, 1) := by decide +kernel
theorem dX9_comes_294 : decode cX9_comes 294 = .ok (.putfield 90, 3) := by decide +kernel
theorem dX9_comes_297 : decode cX9_comes 297 = .ok (.goto 21, 3) := by decide +kernel
theorem dX9_comes_300 : decode cX9_comes 300 = .ok (.aload_n 0, 1) := by decide +kernel
theorem dX9_comes_301 : decode cX9_comes 301 = .ok (.getfield 90, 3) := by decide +kernel
theorem dX9_comes_304 : decode cX9_comes 304 = .ok (.bipush 6, 2) := by decide +kernel
theorem dX9_comes_306 : decode cX9_comes 306 = .ok (.if_icmp .ne 12, 3) := by decide +kernel
theorem dX9_comes_309 : decode cX9_comes 309 = .ok (.aload_n 0, 1) := by decide +kernel
theorem dX9_comes_310 : decode cX9_comes 310 = .ok (.iconst 0, 1) := by decide +kernel
theorem dX9_comes_311 : decode cX9_comes 311 = .ok (.putfield 90, 3) := by decide +kernel
theorem dX9_comes_314 : decode cX9_comes 314 = .ok (.aload_n 0, 1) := by decide +kernel
theorem dX9_comes_315 : decode cX9_comes 315 = .ok (.invokevirtual 110, 3) := by decide +kernel
theorem dX9_comes_318 : decode cX9_comes 318 = .ok (.return_, 1) := by decide +kernel
theorem dX9_ended_0 : decode cX9_ended 0 = .ok (.aload_n 0, 1) := by decide +kernel
theorem dX9_ended_1 : decode cX9_ended 1 = .ok (.getfield 107, 3) := by decide +kernel
theorem dX9_ended_4 : decode cX9_ended 4 = .ok (.aload_n 0, 1) := by decide +kernel
theorem dX9_ended_5 : decode cX9_ended 5 = .ok (.getfield 96, 3) := by decide +kernel
theorem dX9_ended_8 : decode cX9_ended 8 = .ok (.if_icmp .eq 14, 3) := by decide +kernel
theorem dX9_ended_11 : decode cX9_ended 11 = .ok (.aload_n 0, 1) := by decide +kernel
theorem dX9_ended_12 : decode cX9_ended 12 = .ok (.getfield 23, 3) := by decide +kernel
theorem dX9_ended_15 : decode cX9_ended 15 = .ok (.iconst 2, 1) := by decide +kernel
theorem dX9_ended_16 : decode cX9_ended 16 = .ok (.dup2, 1) := by decide +kernel
theorem dX9_ended_17 : decode cX9_ended 17 = .ok (.iaload, 1) := by decide +kernel
theorem dX9_ended_18 : decode cX9_ended 18 = .ok (.iconst 1, 1) := by decide +kernel
theorem dX9_ended_19 : decode cX9_ended 19 = .ok (.iadd, 1) := by decide +kernel
theorem dX9_ended_20 : decode cX9_ended 20 = .ok (.iastore, 1) := by decide +kernel
theorem dX9_ended_21 : decode cX9_ended 21 = .ok (.return_, 1) := by decide +kernel
theorem dX9_ended_22 : decode cX9_ended 22 = .ok (.aload_n 0, 1) := by decide +kernel
theorem dX9_ended_23 : decode cX9_ended 23 = .ok (.iconst 0, 1) := by decide +kernel
theorem dX9_ended_24 : decode cX9_ended 24 = .ok (.putfield 113, 3) := by decide +kernel
theorem dX9_ended_27 : decode cX9_ended 27 = .ok (.aload_n 0, 1) := by decide +kernel
theorem dX9_ended_28 : decode cX9_ended 28 = .ok (.getfield 26, 3) := by decide +kernel
theorem dX9_ended_31 : decode cX9_ended 31 = .ok (.iconst 0, 1) := by decide +kernel
theorem dX9_ended_32 : decode cX9_ended 32 = .ok (.iconst 1, 1) := by decide +kernel
theorem dX9_ended_33 : decode cX9_ended 33 = .ok (.iastore, 1) := by decide +kernel
theorem dX9_ended_34 : decode cX9_ended 34 = .ok (.iconst 1, 1) := by decide +kernel
theorem dX9_ended_35 : decode cX9_ended 35 = .ok (.istore_n 1, 1) := by decide +kernel
theorem dX9_ended_36 : decode cX9_ended 36 = .ok (.iload_n 1, 1) := by decide +kernel
theorem dX9_ended_37 : decode cX9_ended 37 = .ok (.aload_n 0, 1) := by decide +kernel
theorem dX9_ended_38 : decode cX9_ended 38 = .ok (.getfield 93, 3) := by decide +kernel
theorem dX9_ended_41 : decode cX9_ended 41 = .ok (.if_icmp .gt 60, 3) := by decide +kernel
theorem dX9_ended_44 : decode cX9_ended 44 = .ok (.iload_n 1, 1) := by decide +kernel
theorem dX9_ended_45 : decode cX9_ended 45 = .ok (.aload_n 0, 1) := by decide +kernel
theorem dX9_ended_46 : decode cX9_ended 46 = .ok (.getfield 93, 3) := by decide +kernel
theorem dX9_ended_49 : decode cX9_ended 49 = .ok (.if_icmp .eq 14, 3) := by decide +kernel
theorem dX9_ended_52 : decode cX9_ended 52 = .ok (.aload_n 0, 1) := by decide +kernel
theorem dX9_ended_53 : decode cX9_ended 53 = .ok (.getfield 20, 3) := by decide +kernel
theorem dX9_ended_56 : decode cX9_ended 56 = .ok (.iload_n 1, 1) := by decide +kernel
theorem dX9_ended_57 : decode cX9_ended 57 = .ok (.iaload, 1) := by decide +kernel
theorem dX9_ended_58 : decode cX9_ended 58 = .ok (.bipush 44, 2) := by decide +kernel
theorem dX9_ended_60 : decode cX9_ended 60 = .ok (.if_icmp .ne 35, 3) := by decide +kernel
theorem dX9_ended_63 : decode cX9_ended 63 = .ok (.aload_n 0, 1) := by decide +kernel
theorem dX9_ended_64 : decode cX9_ended 64 = .ok (.getfield 29, 3) := by decide +kernel
theorem dX9_ended_67 : decode cX9_ended 67 = .ok (.aload_n 0, 1) := by decide +kernel
theorem dX9_ended_68 : decode cX9_ended 68 = .ok (.getfield 113, 3) := by decide +kernel
theorem dX9_ended_71 : decode cX9_ended 71 = .ok (.iload_n 1, 1) := by decide +kernel
theorem dX9_ended_72 : decode cX9_ended 72 = .ok (.iastore, 1) := by decide +kernel
theorem dX9_ended_73 : decode cX9_ended 73 = .ok (.aload_n 0, 1) := by decide +kernel
theorem dX9_ended_74 : decode cX9_ended 74 = .ok (.dup, 1) := by decide +kernel
theorem dX9_ended_75 : decode cX9_ended 75 = .ok (.getfield 113, 3) := by decide +kernel
theorem dX9_ended_78 : decode cX9_ended 78 = .ok (.iconst 1, 1) := by decide +kernel
theorem dX9_ended_79 : decode cX9_ended 79 = .ok (.iadd, 1) := by decide +kernel
theorem dX9_ended_80 : decode cX9_ended 80 = .ok (.putfield 113, 3) := by decide +kernel
theorem dX9_ended_83 : decode cX9_ended 83 = .ok (.aload_n 0, 1) := by decide +kernel
theorem dX9_ended_84 : decode cX9_ended 84 = .ok (.getfield 26, 3) := by decide +kernel
theorem dX9_ended_87 : decode cX9_ended 87 = .ok (.aload_n 0, 1) := by decide +kernel
theorem dX9_ended_88 : decode cX9_ended 88 = .ok (.getfield 113, 3) := by decide +kernel
theorem dX9_ended_91 : decode cX9_ended 91 = .ok (.iload_n 1, 1) := by decide +kernel
theorem dX9_ended_92 : decode cX9_ended 92 = .ok (.iconst 1, 1) := by decide +kernel
theorem dX9_ended_93 : decode cX9_ended 93 = .ok (.iadd, 1) := by decide +kernel
theorem dX9_ended_94 : decode cX9_ended 94 = .ok (.iastore, 1) := by decide +kernel
theorem dX9_ended_95 : decode cX9_ended 95 = .ok (.iinc 1 1, 3) := by decide +kernel
theorem dX9_ended_98 : decode cX9_ended 98 = .ok (.goto (-62), 3) := by decide +kernel
theorem dX9_ended_101 : decode cX9_ended 101 = .ok (.aload_n 0, 1) := by decide +kernel
theorem dX9_ended_102 : decode cX9_ended 102 = .ok (.invokevirtual 116, 3) := by decide +kernel
theorem dX9_ended_105 : decode cX9_ended 105 = .ok (.istore_n 1, 1) := by decide +kernel
theorem dX9_ended_106 : decode cX9_ended 106 = .ok (.iload_n 1, 1) := by decide +kernel
theorem dX9_ended_107 : decode cX9_ended 107 = .ok (.ifCond .ge 16, 3) := by decide +kernel
theorem dX9_ended_110 : decode cX9_ended 110 = .ok (.aload_n 0, 1) := by decide +kernel
theorem dX9_ended_111 : decode cX9_ended 111 = .ok (.getfield 23, 3) := by decide +kernel
theorem dX9_ended_114 : decode cX9_ended 114 = .ok (.iconst 3, 1) := by decide +kernel
theorem dX9_ended_115 : decode cX9_ended 115 = .ok (.dup2, 1) := by decide +kernel
theorem dX9_ended_116 : decode cX9_ended 116 = .ok (.iaload, 1) := by decide +kernel
theorem dX9_ended_117 : decode cX9_ended 117 = .ok (.iconst 1, 1) := by decide +kernel
theorem dX9_ended_118 : decode cX9_ended 118 = .ok (.iadd, 1) := by decide +kernel
theorem dX9_ended_119 : decode cX9_ended 119 = .ok (.iastore, 1) := by decide +kernel
theorem dX9_ended_120 : decode cX9_ended 120 = .ok (.goto 39, 3) := by decide +kernel
theorem dX9_ended_123 : decode cX9_ended 123 = .ok (.aload_n 0, 1) := by decide +kernel
theorem dX9_ended_124 : decode cX9_ended 124 = .ok (.iload_n 1, 1) := by decide +kernel
theorem dX9_ended_125 : decode cX9_ended 125 = .ok (.invokevirtual 120, 3) := by decide +kernel
theorem dX9_ended_128 : decode cX9_ended 128 = .ok (.ifCond .ne 16, 3) := by decide +kernel
theorem dX9_ended_131 : decode cX9_ended 131 = .ok (.aload_n 0, 1) := by decide +kernel
theorem dX9_ended_132 : decode cX9_ended 132 = .ok (.getfield 23, 3) := by decide +kernel
theorem dX9_ended_135 : decode cX9_ended 135 = .ok (.iconst 4, 1) := by decide +kernel
theorem dX9_ended_136 : decode cX9_ended 136 = .ok (.dup2, 1) := by decide +kernel
theorem dX9_ended_137 : decode cX9_ended 137 = .ok (.iaload, 1) := by decide +kernel
theorem dX9_ended_138 : decode cX9_ended 138 = .ok (.iconst 1, 1) := by decide +kernel
theorem dX9_ended_139 : decode cX9_ended 139 = .ok (.iadd, 1) := by decide +kernel
theorem dX9_ended_140 : decode cX9_ended 140 = .ok (.iastore, 1) := by decide +kernel
theorem dX9_ended_141 : decode cX9_ended 141 = .ok (.goto 18, 3) := by decide +kernel
theorem dX9_ended_144 : decode cX9_ended 144 = .ok (.aload_n 0, 1) := by decide +kernel
theorem dX9_ended_145 : decode cX9_ended 145 = .ok (.getfield 23, 3) := by decide +kernel
theorem dX9_ended_148 : decode cX9_ended 148 = .ok (.iconst 0, 1) := by decide +kernel
theorem dX9_ended_149 : decode cX9_ended 149 = .ok (.dup2, 1) := by decide +kernel
theorem dX9_ended_150 : decode cX9_ended 150 = .ok (.iaload, 1) := by decide +kernel
theorem dX9_ended_151 : decode cX9_ended 151 = .ok (.iconst 1, 1) := by decide +kernel
theorem dX9_ended_152 : decode cX9_ended 152 = .ok (.iadd, 1) := by decide +kernel
theorem dX9_ended_153 : decode cX9_ended 153 = .ok (.iastore, 1) := by decide +kernel
theorem dX9_ended_154 : decode cX9_ended 154 = .ok (.aload_n 0, 1) := by decide +kernel
theorem dX9_ended_155 : decode cX9_ended 155 = .ok (.iload_n 1, 1) := by decide +kernel
theorem dX9_ended_156 : decode cX9_ended 156 = .ok (.invokevirtual 124, 3) := by decide +kernel
theorem dX9_ended_159 : decode cX9_ended 159 = .ok (.return_, 1) := by decide +kernel
theorem dX9_ends_0 : decode cX9_ends 0 = .ok (.aload_n 0, 1) := by decide +kernel
theorem dX9_ends_1 : decode cX9_ends 1 = .ok (.getfield 20, 3) := by decide +kernel
theorem dX9_ends_4 : decode cX9_ends 4 = .ok (.iconst 3, 1) := by decide +kernel
theorem dX9_ends_5 : decode cX9_ends 5 = .ok (.iaload, 1) := by decide +kernel
theorem dX9_ends_6 : decode cX9_ends 6 = .ok (.aload_n 1, 1) := by decide +kernel
theorem dX9_ends_7 : decode cX9_ends 7 = .ok (.iconst 0, 1) := by decide +kernel
theorem dX9_ends_8 : decode cX9_ends 8 = .ok (.invokevirtual 127, 3) := by decide +kernel
theorem dX9_ends_11 : decode cX9_ends 11 = .ok (.if_icmp .ne 35, 3) := by decide +kernel
theorem dX9_ends_14 : decode cX9_ends 14 = .ok (.aload_n 0, 1) := by decide +kernel
theorem dX9_ends_15 : decode cX9_ends 15 = .ok (.getfield 20, 3) := by decide +kernel
theorem dX9_ends_18 : decode cX9_ends 18 = .ok (.iconst 4, 1) := by decide +kernel
theorem dX9_ends_19 : decode cX9_ends 19 = .ok (.iaload, 1) := by decide +kernel
theorem dX9_ends_20 : decode cX9_ends 20 = .ok (.aload_n 1, 1) := by decide +kernel
theorem dX9_ends_21 : decode cX9_ends 21 = .ok (.iconst 1, 1) := by decide +kernel
theorem dX9_ends_22 : decode cX9_ends 22 = .ok (.invokevirtual 127, 3) := by decide +kernel
theorem dX9_ends_25 : decode cX9_ends 25 = .ok (.if_icmp .ne 21, 3) := by decide +kernel
theorem dX9_ends_28 : decode cX9_ends 28 = .ok (.aload_n 0, 1) := by decide +kernel
theorem dX9_ends_29 : decode cX9_ends 29 = .ok (.getfield 20, 3) := by decide +kernel
theorem dX9_ends_32 : decode cX9_ends 32 = .ok (.iconst 5, 1) := by decide +kernel
theorem dX9_ends_33 : decode cX9_ends 33 = .ok (.iaload, 1) := by decide +kernel
theorem dX9_ends_34 : decode cX9_ends 34 = .ok (.aload_n 1, 1) := by decide +kernel
theorem dX9_ends_35 : decode cX9_ends 35 = .ok (.iconst 2, 1) := by decide +kernel
theorem dX9_ends_36 : decode cX9_ends 36 = .ok (.invokevirtual 127, 3) := by decide +kernel
theorem dX9_ends_39 : decode cX9_ends 39 = .ok (.if_icmp .ne 7, 3) := by decide +kernel
theorem dX9_ends_42 : decode cX9_ends 42 = .ok (.iconst 1, 1) := by decide +kernel
theorem dX9_ends_43 : decode cX9_ends 43 = .ok (.goto 4, 3) := by decide +kernel
theorem dX9_ends_46 : decode cX9_ends 46 = .ok (.iconst 0, 1) := by decide +kernel
theorem dX9_ends_47 : decode cX9_ends 47 = .ok (.ireturn, 1) := by decide +kernel
theorem dX9_form_0 : decode cX9_form 0 = .ok (.aload_n 0, 1) := by decide +kernel
theorem dX9_form_1 : decode cX9_form 1 = .ok (.getfield 29, 3) := by decide +kernel
theorem dX9_form_4 : decode cX9_form 4 = .ok (.iconst 0, 1) := by decide +kernel
theorem dX9_form_5 : decode cX9_form 5 = .ok (.iaload, 1) := by decide +kernel
theorem dX9_form_6 : decode cX9_form 6 = .ok (.bipush 6, 2) := by decide +kernel
theorem dX9_form_8 : decode cX9_form 8 = .ok (.if_icmp .eq 5, 3) := by decide +kernel
theorem dX9_form_11 : decode cX9_form 11 = .ok (.iconst (-1), 1) := by decide +kernel
theorem dX9_form_12 : decode cX9_form 12 = .ok (.ireturn, 1) := by decide +kernel
theorem dX9_form_13 : decode cX9_form 13 = .ok (.iconst 1, 1) := by decide +kernel
theorem dX9_form_14 : decode cX9_form 14 = .ok (.istore_n 1, 1) := by decide +kernel
theorem dX9_form_15 : decode cX9_form 15 = .ok (.iload_n 1, 1) := by decide +kernel
theorem dX9_form_16 : decode cX9_form 16 = .ok (.bipush 6, 2) := by decide +kernel
theorem dX9_form_18 : decode cX9_form 18 = .ok (.if_icmp .ge 49, 3) := by decide +kernel
theorem dX9_form_21 : decode cX9_form 21 = .ok (.aload_n 0, 1) := by decide +kernel
theorem dX9_form_22 : decode cX9_form 22 = .ok (.getfield 20, 3) := by decide +kernel
theorem dX9_form_25 : decode cX9_form 25 = .ok (.iload_n 1, 1) := by decide +kernel
theorem dX9_form_26 : decode cX9_form 26 = .ok (.iaload, 1) := by decide +kernel
theorem dX9_form_27 : decode cX9_form 27 = .ok (.i2l, 1) := by decide +kernel
theorem dX9_form_28 : decode cX9_form 28 = .ok (.ldc2_w 82, 3) := by decide +kernel
theorem dX9_form_31 : decode cX9_form 31 = .ok (.ldc2_w 133, 3) := by decide +kernel
theorem dX9_form_34 : decode cX9_form 34 = .ok (.invokestatic 74, 3) := by decide +kernel
theorem dX9_form_37 : decode cX9_form 37 = .ok (.ifCond .ne 24, 3) := by decide +kernel
theorem dX9_form_40 : decode cX9_form 40 = .ok (.aload_n 0, 1) := by decide +kernel
theorem dX9_form_41 : decode cX9_form 41 = .ok (.getfield 20, 3) := by decide +kernel
theorem dX9_form_44 : decode cX9_form 44 = .ok (.iload_n 1, 1) := by decide +kernel
theorem dX9_form_45 : decode cX9_form 45 = .ok (.iaload, 1) := by decide +kernel
theorem dX9_form_46 : decode cX9_form 46 = .ok (.i2l, 1) := by decide +kernel
theorem dX9_form_47 : decode cX9_form 47 = .ok (.ldc2_w 78, 3) := by decide +kernel
theorem dX9_form_50 : decode cX9_form 50 = .ok (.ldc2_w 80, 3) := by decide +kernel
theorem dX9_form_53 : decode cX9_form 53 = .ok (.invokestatic 74, 3) := by decide +kernel
theorem dX9_form_56 : decode cX9_form 56 = .ok (.ifCond .ne 5, 3) := by decide +kernel
theorem dX9_form_59 : decode cX9_form 59 = .ok (.iconst (-1), 1) := by decide +kernel
theorem dX9_form_60 : decode cX9_form 60 = .ok (.ireturn, 1) := by decide +kernel
theorem dX9_form_61 : decode cX9_form 61 = .ok (.iinc 1 1, 3) := by decide +kernel
theorem dX9_form_64 : decode cX9_form 64 = .ok (.goto (-49), 3) := by decide +kernel
theorem dX9_form_67 : decode cX9_form 67 = .ok (.aload_n 0, 1) := by decide +kernel
theorem dX9_form_68 : decode cX9_form 68 = .ok (.getfield 20, 3) := by decide +kernel
theorem dX9_form_71 : decode cX9_form 71 = .ok (.iconst 0, 1) := by decide +kernel
theorem dX9_form_72 : decode cX9_form 72 = .ok (.iaload, 1) := by decide +kernel
theorem dX9_form_73 : decode cX9_form 73 = .ok (.bipush 33, 2) := by decide +kernel
theorem dX9_form_75 : decode cX9_form 75 = .ok (.if_icmp .ne 27, 3) := by decide +kernel
theorem dX9_form_78 : decode cX9_form 78 = .ok (.aload_n 0, 1) := by decide +kernel
theorem dX9_form_79 : decode cX9_form 79 = .ok (.ldc 135, 2) := by decide +kernel
theorem dX9_form_81 : decode cX9_form 81 = .ok (.invokevirtual 137, 3) := by decide +kernel
theorem dX9_form_84 : decode cX9_form 84 = .ok (.ifCond .ne 12, 3) := by decide +kernel
theorem dX9_form_87 : decode cX9_form 87 = .ok (.aload_n 0, 1) := by decide +kernel
theorem dX9_form_88 : decode cX9_form 88 = .ok (.ldc 141, 2) := by decide +kernel
theorem dX9_form_90 : decode cX9_form 90 = .ok (.invokevirtual 137, 3) := by decide +kernel
theorem dX9_form_93 : decode cX9_form 93 = .ok (.ifCond .eq 7, 3) := by decide +kernel
theorem dX9_form_96 : decode cX9_form 96 = .ok (.iconst 3, 1) := by decide +kernel
theorem dX9_form_97 : decode cX9_form 97 = .ok (.goto 4, 3) := by decide +kernel
theorem dX9_form_100 : decode cX9_form 100 = .ok (.iconst (-1), 1) := by decide +kernel
theorem dX9_form_101 : decode cX9_form 101 = .ok (.ireturn, 1) := by decide +kernel
theorem dX9_form_102 : decode cX9_form 102 = .ok (.aload_n 0, 1) := by decide +kernel
theorem dX9_form_103 : decode cX9_form 103 = .ok (.ldc 143, 2) := by decide +kernel
theorem dX9_form_105 : decode cX9_form 105 = .ok (.invokevirtual 137, 3) := by decide +kernel
theorem dX9_form_108 : decode cX9_form 108 = .ok (.ifCond .eq 7, 3) := by decide +kernel
theorem dX9_form_111 : decode cX9_form 111 = .ok (.iconst 0, 1) := by decide +kernel
theorem dX9_form_112 : decode cX9_form 112 = .ok (.goto 30, 3) := by decide +kernel
theorem dX9_form_115 : decode cX9_form 115 = .ok (.aload_n 0, 1) := by decide +kernel
theorem dX9_form_116 : decode cX9_form 116 = .ok (.ldc 145, 2) := by decide +kernel
theorem dX9_form_118 : decode cX9_form 118 = .ok (.invokevirtual 137, 3) := by decide +kernel
theorem dX9_form_121 : decode cX9_form 121 = .ok (.ifCond .eq 7, 3) := by decide +kernel
theorem dX9_form_124 : decode cX9_form 124 = .ok (.iconst 1, 1) := by decide +kernel
theorem dX9_form_125 : decode cX9_form 125 = .ok (.goto 17, 3) := by decide +kernel
theorem dX9_form_128 : decode cX9_form 128 = .ok (.aload_n 0, 1) := by decide +kernel
theorem dX9_form_129 : decode cX9_form 129 = .ok (.ldc 147, 2) := by decide +kernel
theorem dX9_form_131 : decode cX9_form 131 = .ok (.invokevirtual 137, 3) := by decide +kernel
theorem dX9_form_134 : decode cX9_form 134 = .ok (.ifCond .eq 7, 3) := by decide +kernel
theorem dX9_form_137 : decode cX9_form 137 = .ok (.iconst 2, 1) := by decide +kernel
theorem dX9_form_138 : decode cX9_form 138 = .ok (.goto 4, 3) := by decide +kernel
theorem dX9_form_141 : decode cX9_form 141 = .ok (.iconst (-1), 1) := by decide +kernel
theorem dX9_form_142 : decode cX9_form 142 = .ok (.ireturn, 1) := by decide +kernel
theorem dX9_size_0 : decode cX9_size 0 = .ok (.aload_n 0, 1) := by decide +kernel
theorem dX9_size_1 : decode cX9_size 1 = .ok (.getfield 29, 3) := by decide +kernel
theorem dX9_size_4 : decode cX9_size 4 = .ok (.iload_n 1, 1) := by decide +kernel
theorem dX9_size_5 : decode cX9_size 5 = .ok (.iaload, 1) := by decide +kernel
theorem dX9_size_6 : decode cX9_size 6 = .ok (.aload_n 0, 1) := by decide +kernel
theorem dX9_size_7 : decode cX9_size 7 = .ok (.getfield 26, 3) := by decide +kernel
theorem dX9_size_10 : decode cX9_size 10 = .ok (.iload_n 1, 1) := by decide +kernel
theorem dX9_size_11 : decode cX9_size 11 = .ok (.iaload, 1) := by decide +kernel
theorem dX9_size_12 : decode cX9_size 12 = .ok (.isub, 1) := by decide +kernel
theorem dX9_size_13 : decode cX9_size 13 = .ok (.ireturn, 1) := by decide +kernel
theorem dX9_at_0 : decode cX9_at 0 = .ok (.aload_n 0, 1) := by decide +kernel
theorem dX9_at_1 : decode cX9_at 1 = .ok (.getfield 20, 3) := by decide +kernel
theorem dX9_at_4 : decode cX9_at 4 = .ok (.aload_n 0, 1) := by decide +kernel
theorem dX9_at_5 : decode cX9_at 5 = .ok (.getfield 26, 3) := by decide +kernel
theorem dX9_at_8 : decode cX9_at 8 = .ok (.iload_n 1, 1) := by decide +kernel
theorem dX9_at_9 : decode cX9_at 9 = .ok (.iaload, 1) := by decide +kernel
theorem dX9_at_10 : decode cX9_at 10 = .ok (.iload_n 2, 1) := by decide +kernel
theorem dX9_at_11 : decode cX9_at 11 = .ok (.iadd, 1) := by decide +kernel
theorem dX9_at_12 : decode cX9_at 12 = .ok (.iaload, 1) := by decide +kernel
theorem dX9_at_13 : decode cX9_at 13 = .ok (.ireturn, 1) := by decide +kernel
theorem dX9_isDigit_0 : decode cX9_isDigit 0 = .ok (.iload_n 0, 1) := by decide +kernel
theorem dX9_isDigit_1 : decode cX9_isDigit 1 = .ok (.i2l, 1) := by decide +kernel
theorem dX9_isDigit_2 : decode cX9_isDigit 2 = .ok (.ldc2_w 78, 3) := by decide +kernel
theorem dX9_isDigit_5 : decode cX9_isDigit 5 = .ok (.ldc2_w 80, 3) := by decide +kernel
theorem dX9_isDigit_8 : decode cX9_isDigit 8 = .ok (.invokestatic 74, 3) := by decide +kernel
theorem dX9_isDigit_11 : decode cX9_isDigit 11 = .ok (.ireturn, 1) := by decide +kernel
theorem dX9_bad_0 : decode cX9_bad 0 = .ok (.aload_n 0, 1) := by decide +kernel
theorem dX9_bad_1 : decode cX9_bad 1 = .ok (.iconst 0, 1) := by decide +kernel
theorem dX9_bad_2 : decode cX9_bad 2 = .ok (.putfield 149, 3) := by decide +kernel
theorem dX9_bad_5 : decode cX9_bad 5 = .ok (.ldc 73, 2) := by decide +kernel
theorem dX9_bad_7 : decode cX9_bad 7 = .ok (.ireturn, 1) := by decide +kernel
theorem dX9_digits_0 : decode cX9_digits 0 = .ok (.iconst 0, 1) := by decide +kernel
theorem dX9_digits_1 : decode cX9_digits 1 = .ok (.istore_n 3, 1) := by decide +kernel
theorem dX9_digits_2 : decode cX9_digits 2 = .ok (.iload_n 2, 1) := by decide +kernel
theorem dX9_digits_3 : decode cX9_digits 3 = .ok (.iload_n 3, 1) := by decide +kernel
theorem dX9_digits_4 : decode cX9_digits 4 = .ok (.iadd, 1) := by decide +kernel
theorem dX9_digits_5 : decode cX9_digits 5 = .ok (.aload_n 0, 1) := by decide +kernel
theorem dX9_digits_6 : decode cX9_digits 6 = .ok (.iload_n 1, 1) := by decide +kernel
theorem dX9_digits_7 : decode cX9_digits 7 = .ok (.invokevirtual 153, 3) := by decide +kernel
theorem dX9_digits_10 : decode cX9_digits 10 = .ok (.if_icmp .ge 23, 3) := by decide +kernel
theorem dX9_digits_13 : decode cX9_digits 13 = .ok (.aload_n 0, 1) := by decide +kernel
theorem dX9_digits_14 : decode cX9_digits 14 = .ok (.iload_n 1, 1) := by decide +kernel
theorem dX9_digits_15 : decode cX9_digits 15 = .ok (.iload_n 2, 1) := by decide +kernel
theorem dX9_digits_16 : decode cX9_digits 16 = .ok (.iload_n 3, 1) := by decide +kernel
theorem dX9_digits_17 : decode cX9_digits 17 = .ok (.iadd, 1) := by decide +kernel
theorem dX9_digits_18 : decode cX9_digits 18 = .ok (.invokevirtual 156, 3) := by decide +kernel
theorem dX9_digits_21 : decode cX9_digits 21 = .ok (.invokestatic 160, 3) := by decide +kernel
theorem dX9_digits_24 : decode cX9_digits 24 = .ok (.ifCond .eq 9, 3) := by decide +kernel
theorem dX9_digits_27 : decode cX9_digits 27 = .ok (.iinc 3 1, 3) := by decide +kernel
theorem dX9_digits_30 : decode cX9_digits 30 = .ok (.goto (-28), 3) := by decide +kernel
theorem dX9_digits_33 : decode cX9_digits 33 = .ok (.iload_n 3, 1) := by decide +kernel
theorem dX9_digits_34 : decode cX9_digits 34 = .ok (.ireturn, 1) := by decide +kernel
theorem dX9_whole_0 : decode cX9_whole 0 = .ok (.iconst 0, 1) := by decide +kernel
theorem dX9_whole_1 : decode cX9_whole 1 = .ok (.istore 4, 2) := by decide +kernel
theorem dX9_whole_3 : decode cX9_whole 3 = .ok (.iload_n 2, 1) := by decide +kernel
theorem dX9_whole_4 : decode cX9_whole 4 = .ok (.istore 5, 2) := by decide +kernel
theorem dX9_whole_6 : decode cX9_whole 6 = .ok (.iload 5, 2) := by decide +kernel
theorem dX9_whole_8 : decode cX9_whole 8 = .ok (.iload_n 2, 1) := by decide +kernel
theorem dX9_whole_9 : decode cX9_whole 9 = .ok (.iload_n 3, 1) := by decide +kernel
theorem dX9_whole_10 : decode cX9_whole 10 = .ok (.iadd, 1) := by decide +kernel
theorem dX9_whole_11 : decode cX9_whole 11 = .ok (.if_icmp .ge 27, 3) := by decide +kernel
theorem dX9_whole_14 : decode cX9_whole 14 = .ok (.bipush 10, 2) := by decide +kernel
theorem dX9_whole_16 : decode cX9_whole 16 = .ok (.iload 4, 2) := by decide +kernel
theorem dX9_whole_18 : decode cX9_whole 18 = .ok (.imul, 1) := by decide +kernel
theorem dX9_whole_19 : decode cX9_whole 19 = .ok (.aload_n 0, 1) := by decide +kernel
theorem dX9_whole_20 : decode cX9_whole 20 = .ok (.iload_n 1, 1) := by decide +kernel
theorem dX9_whole_21 : decode cX9_whole 21 = .ok (.iload 5, 2) := by decide +kernel
theorem dX9_whole_23 : decode cX9_whole 23 = .ok (.invokevirtual 156, 3) := by decide +kernel
theorem dX9_whole_26 : decode cX9_whole 26 = .ok (.iadd, 1) := by decide +kernel
theorem dX9_whole_27 : decode cX9_whole 27 = .ok (.bipush 48, 2) := by decide +kernel
theorem dX9_whole_29 : decode cX9_whole 29 = .ok (.isub, 1) := by decide +kernel
theorem dX9_whole_30 : decode cX9_whole 30 = .ok (.istore 4, 2) := by decide +kernel
theorem dX9_whole_32 : decode cX9_whole 32 = .ok (.iinc 5 1, 3) := by decide +kernel
theorem dX9_whole_35 : decode cX9_whole 35 = .ok (.goto (-29), 3) := by decide +kernel
theorem dX9_whole_38 : decode cX9_whole 38 = .ok (.iload 4, 2) := by decide +kernel
theorem dX9_whole_40 : decode cX9_whole 40 = .ok (.ireturn, 1) := by decide +kernel
theorem dX9_behind_0 : decode cX9_behind 0 = .ok (.aload_n 0, 1) := by decide +kernel
theorem dX9_behind_1 : decode cX9_behind 1 = .ok (.iload_n 1, 1) := by decide +kernel
theorem dX9_behind_2 : decode cX9_behind 2 = .ok (.invokevirtual 153, 3) := by decide +kernel
theorem dX9_behind_5 : decode cX9_behind 5 = .ok (.iload_n 2, 1) := by decide +kernel
theorem dX9_behind_6 : decode cX9_behind 6 = .ok (.isub, 1) := by decide +kernel
theorem dX9_behind_7 : decode cX9_behind 7 = .ok (.iconst 1, 1) := by decide +kernel
theorem dX9_behind_8 : decode cX9_behind 8 = .ok (.isub, 1) := by decide +kernel
theorem dX9_behind_9 : decode cX9_behind 9 = .ok (.istore 5, 2) := by decide +kernel
theorem dX9_behind_11 : decode cX9_behind 11 = .ok (.iload 5, 2) := by decide +kernel
theorem dX9_behind_13 : decode cX9_behind 13 = .ok (.ifCond .lt 44, 3) := by decide +kernel
theorem dX9_behind_16 : decode cX9_behind 16 = .ok (.aload_n 0, 1) := by decide +kernel
theorem dX9_behind_17 : decode cX9_behind 17 = .ok (.iload_n 1, 1) := by decide +kernel
theorem dX9_behind_18 : decode cX9_behind 18 = .ok (.iload_n 2, 1) := by decide +kernel
theorem dX9_behind_19 : decode cX9_behind 19 = .ok (.invokevirtual 156, 3) := by decide +kernel
theorem dX9_behind_22 : decode cX9_behind 22 = .ok (.bipush 46, 2) := by decide +kernel
theorem dX9_behind_24 : decode cX9_behind 24 = .ok (.if_icmp .ne 28, 3) := by decide +kernel
theorem dX9_behind_27 : decode cX9_behind 27 = .ok (.iload 5, 2) := by decide +kernel
theorem dX9_behind_29 : decode cX9_behind 29 = .ok (.i2l, 1) := by decide +kernel
theorem dX9_behind_30 : decode cX9_behind 30 = .ok (.lconst 1, 1) := by decide +kernel
theorem dX9_behind_31 : decode cX9_behind 31 = .ok (.iload_n 3, 1) := by decide +kernel
theorem dX9_behind_32 : decode cX9_behind 32 = .ok (.i2l, 1) := by decide +kernel
theorem dX9_behind_33 : decode cX9_behind 33 = .ok (.invokestatic 74, 3) := by decide +kernel
theorem dX9_behind_36 : decode cX9_behind 36 = .ok (.ifCond .eq 16, 3) := by decide +kernel
theorem dX9_behind_39 : decode cX9_behind 39 = .ok (.aload_n 0, 1) := by decide +kernel
theorem dX9_behind_40 : decode cX9_behind 40 = .ok (.iload_n 1, 1) := by decide +kernel
theorem dX9_behind_41 : decode cX9_behind 41 = .ok (.iload_n 2, 1) := by decide +kernel
theorem dX9_behind_42 : decode cX9_behind 42 = .ok (.iconst 1, 1) := by decide +kernel
theorem dX9_behind_43 : decode cX9_behind 43 = .ok (.iadd, 1) := by decide +kernel
theorem dX9_behind_44 : decode cX9_behind 44 = .ok (.invokevirtual 163, 3) := by decide +kernel
theorem dX9_behind_47 : decode cX9_behind 47 = .ok (.iload 5, 2) := by decide +kernel
theorem dX9_behind_49 : decode cX9_behind 49 = .ok (.if_icmp .eq 8, 3) := by decide +kernel
theorem dX9_behind_52 : decode cX9_behind 52 = .ok (.aload_n 0, 1) := by decide +kernel
theorem dX9_behind_53 : decode cX9_behind 53 = .ok (.invokevirtual 166, 3) := by decide +kernel
theorem dX9_behind_56 : decode cX9_behind 56 = .ok (.ireturn, 1) := by decide +kernel
theorem dX9_behind_57 : decode cX9_behind 57 = .ok (.iconst 0, 1) := by decide +kernel
theorem dX9_behind_58 : decode cX9_behind 58 = .ok (.istore 6, 2) := by decide +kernel
theorem dX9_behind_60 : decode cX9_behind 60 = .ok (.iconst 0, 1) := by decide +kernel
theorem dX9_behind_61 : decode cX9_behind 61 = .ok (.istore 7, 2) := by decide +kernel
theorem dX9_behind_63 : decode cX9_behind 63 = .ok (.iload 7, 2) := by decide +kernel
theorem dX9_behind_65 : decode cX9_behind 65 = .ok (.iload 4, 2) := by decide +kernel
theorem dX9_behind_67 : decode cX9_behind 67 = .ok (.if_icmp .ge 42, 3) := by decide +kernel
theorem dX9_behind_70 : decode cX9_behind 70 = .ok (.bipush 10, 2) := by decide +kernel
theorem dX9_behind_72 : decode cX9_behind 72 = .ok (.iload 6, 2) := by decide +kernel
theorem dX9_behind_74 : decode cX9_behind 74 = .ok (.imul, 1) := by decide +kernel
theorem dX9_behind_75 : decode cX9_behind 75 = .ok (.iload 7, 2) := by decide +kernel
theorem dX9_behind_77 : decode cX9_behind 77 = .ok (.iload 5, 2) := by decide +kernel
theorem dX9_behind_79 : decode cX9_behind 79 = .ok (.if_icmp .ge 20, 3) := by decide +kernel
theorem dX9_behind_82 : decode cX9_behind 82 = .ok (.aload_n 0, 1) := by decide +kernel
theorem dX9_behind_83 : decode cX9_behind 83 = .ok (.iload_n 1, 1) := by decide +kernel
theorem dX9_behind_84 : decode cX9_behind 84 = .ok (.iload_n 2, 1) := by decide +kernel
theorem dX9_behind_85 : decode cX9_behind 85 = .ok (.iconst 1, 1) := by decide +kernel
theorem dX9_behind_86 : decode cX9_behind 86 = .ok (.iadd, 1) := by decide +kernel
theorem dX9_behind_87 : decode cX9_behind 87 = .ok (.iload 7, 2) := by decide +kernel
theorem dX9_behind_89 : decode cX9_behind 89 = .ok (.iadd, 1) := by decide +kernel
theorem dX9_behind_90 : decode cX9_behind 90 = .ok (.invokevirtual 156, 3) := by decide +kernel
theorem dX9_behind_93 : decode cX9_behind 93 = .ok (.bipush 48, 2) := by decide +kernel
theorem dX9_behind_95 : decode cX9_behind 95 = .ok (.isub, 1) := by decide +kernel
theorem dX9_behind_96 : decode cX9_behind 96 = .ok (.goto 4, 3) := by decide +kernel
theorem dX9_behind_99 : decode cX9_behind 99 = .ok (.iconst 0, 1) := by decide +kernel
theorem dX9_behind_100 : decode cX9_behind 100 = .ok (.iadd, 1) := by decide +kernel
theorem dX9_behind_101 : decode cX9_behind 101 = .ok (.istore 6, 2) := by decide +kernel
theorem dX9_behind_103 : decode cX9_behind 103 = .ok (.iinc 7 1, 3) := by decide +kernel
theorem dX9_behind_106 : decode cX9_behind 106 = .ok (.goto (-43), 3) := by decide +kernel
theorem dX9_behind_109 : decode cX9_behind 109 = .ok (.iload 6, 2) := by decide +kernel
theorem dX9_behind_111 : decode cX9_behind 111 = .ok (.ireturn, 1) := by decide +kernel
theorem dX9_ten_0 : decode cX9_ten 0 = .ok (.iconst 1, 1) := by decide +kernel
theorem dX9_ten_1 : decode cX9_ten 1 = .ok (.istore_n 1, 1) := by decide +kernel
theorem dX9_ten_2 : decode cX9_ten 2 = .ok (.iconst 0, 1) := by decide +kernel
theorem dX9_ten_3 : decode cX9_ten 3 = .ok (.istore_n 2, 1) := by decide +kernel
theorem dX9_ten_4 : decode cX9_ten 4 = .ok (.iload_n 2, 1) := by decide +kernel
theorem dX9_ten_5 : decode cX9_ten 5 = .ok (.iload_n 0, 1) := by decide +kernel
theorem dX9_ten_6 : decode cX9_ten 6 = .ok (.if_icmp .ge 14, 3) := by decide +kernel
theorem dX9_ten_9 : decode cX9_ten 9 = .ok (.iload_n 1, 1) := by decide +kernel
theorem dX9_ten_10 : decode cX9_ten 10 = .ok (.bipush 10, 2) := by decide +kernel
theorem dX9_ten_12 : decode cX9_ten 12 = .ok (.imul, 1) := by decide +kernel
theorem dX9_ten_13 : decode cX9_ten 13 = .ok (.istore_n 1, 1) := by decide +kernel
theorem dX9_ten_14 : decode cX9_ten 14 = .ok (.iinc 2 1, 3) := by decide +kernel
theorem dX9_ten_17 : decode cX9_ten 17 = .ok (.goto (-13), 3) := by decide +kernel
theorem dX9_ten_20 : decode cX9_ten 20 = .ok (.iload_n 1, 1) := by decide +kernel
theorem dX9_ten_21 : decode cX9_ten 21 = .ok (.ireturn, 1) := by decide +kernel
theorem dX9_decimal_0 : decode cX9_decimal 0 = .ok (.aload_n 0, 1) := by decide +kernel
theorem dX9_decimal_1 : decode cX9_decimal 1 = .ok (.iload_n 1, 1) := by decide +kernel
theorem dX9_decimal_2 : decode cX9_decimal 2 = .ok (.invokevirtual 153, 3) := by decide +kernel
theorem dX9_decimal_5 : decode cX9_decimal 5 = .ok (.ifCond .ne 6, 3) := by decide +kernel
theorem dX9_decimal_8 : decode cX9_decimal 8 = .ok (.ldc 73, 2) := by decide +kernel
theorem dX9_decimal_10 : decode cX9_decimal 10 = .ok (.ireturn, 1) := by decide +kernel
theorem dX9_decimal_11 : decode cX9_decimal 11 = .ok (.iload 4, 2) := by decide +kernel
theorem dX9_decimal_13 : decode cX9_decimal 13 = .ok (.ifCond .eq 18, 3) := by decide +kernel
theorem dX9_decimal_16 : decode cX9_decimal 16 = .ok (.aload_n 0, 1) := by decide +kernel
theorem dX9_decimal_17 : decode cX9_decimal 17 = .ok (.iload_n 1, 1) := by decide +kernel
theorem dX9_decimal_18 : decode cX9_decimal 18 = .ok (.iconst 0, 1) := by decide +kernel
theorem dX9_decimal_19 : decode cX9_decimal 19 = .ok (.invokevirtual 156, 3) := by decide +kernel
theorem dX9_decimal_22 : decode cX9_decimal 22 = .ok (.bipush 45, 2) := by decide +kernel
theorem dX9_decimal_24 : decode cX9_decimal 24 = .ok (.if_icmp .ne 7, 3) := by decide +kernel
theorem dX9_decimal_27 : decode cX9_decimal 27 = .ok (.iconst 1, 1) := by decide +kernel
theorem dX9_decimal_28 : decode cX9_decimal 28 = .ok (.goto 4, 3) := by decide +kernel
theorem dX9_decimal_31 : decode cX9_decimal 31 = .ok (.iconst 0, 1) := by decide +kernel
theorem dX9_decimal_32 : decode cX9_decimal 32 = .ok (.istore 5, 2) := by decide +kernel
theorem dX9_decimal_34 : decode cX9_decimal 34 = .ok (.aload_n 0, 1) := by decide +kernel
theorem dX9_decimal_35 : decode cX9_decimal 35 = .ok (.iload_n 1, 1) := by decide +kernel
theorem dX9_decimal_36 : decode cX9_decimal 36 = .ok (.iload 5, 2) := by decide +kernel
theorem dX9_decimal_38 : decode cX9_decimal 38 = .ok (.invokevirtual 163, 3) := by decide +kernel
theorem dX9_decimal_41 : decode cX9_decimal 41 = .ok (.istore 6, 2) := by decide +kernel
theorem dX9_decimal_43 : decode cX9_decimal 43 = .ok (.iload 6, 2) := by decide +kernel
theorem dX9_decimal_45 : decode cX9_decimal 45 = .ok (.i2l, 1) := by decide +kernel
theorem dX9_decimal_46 : decode cX9_decimal 46 = .ok (.lconst 1, 1) := by decide +kernel
theorem dX9_decimal_47 : decode cX9_decimal 47 = .ok (.iload_n 3, 1) := by decide +kernel
theorem dX9_decimal_48 : decode cX9_decimal 48 = .ok (.i2l, 1) := by decide +kernel
theorem dX9_decimal_49 : decode cX9_decimal 49 = .ok (.invokestatic 74, 3) := by decide +kernel
theorem dX9_decimal_52 : decode cX9_decimal 52 = .ok (.ifCond .ne 8, 3) := by decide +kernel
theorem dX9_decimal_55 : decode cX9_decimal 55 = .ok (.aload_n 0, 1) := by decide +kernel
theorem dX9_decimal_56 : decode cX9_decimal 56 = .ok (.invokevirtual 166, 3) := by decide +kernel
theorem dX9_decimal_59 : decode cX9_decimal 59 = .ok (.ireturn, 1) := by decide +kernel
theorem dX9_decimal_60 : decode cX9_decimal 60 = .ok (.aload_n 0, 1) := by decide +kernel
theorem dX9_decimal_61 : decode cX9_decimal 61 = .ok (.iload_n 1, 1) := by decide +kernel
theorem dX9_decimal_62 : decode cX9_decimal 62 = .ok (.iload 5, 2) := by decide +kernel
theorem dX9_decimal_64 : decode cX9_decimal 64 = .ok (.iload 6, 2) := by decide +kernel
theorem dX9_decimal_66 : decode cX9_decimal 66 = .ok (.iadd, 1) := by decide +kernel
theorem dX9_decimal_67 : decode cX9_decimal 67 = .ok (.bipush 6, 2) := by decide +kernel
theorem dX9_decimal_69 : decode cX9_decimal 69 = .ok (.iload_n 2, 1) := by decide +kernel
theorem dX9_decimal_70 : decode cX9_decimal 70 = .ok (.invokevirtual 169, 3) := by decide +kernel
theorem dX9_decimal_73 : decode cX9_decimal 73 = .ok (.istore 7, 2) := by decide +kernel
theorem dX9_decimal_75 : decode cX9_decimal 75 = .ok (.aload_n 0, 1) := by decide +kernel
theorem dX9_decimal_76 : decode cX9_decimal 76 = .ok (.iload_n 1, 1) := by decide +kernel
theorem dX9_decimal_77 : decode cX9_decimal 77 = .ok (.iload 5, 2) := by decide +kernel
theorem dX9_decimal_79 : decode cX9_decimal 79 = .ok (.iload 6, 2) := by decide +kernel
theorem dX9_decimal_81 : decode cX9_decimal 81 = .ok (.invokevirtual 173, 3) := by decide +kernel
theorem dX9_decimal_84 : decode cX9_decimal 84 = .ok (.iload_n 2, 1) := by decide +kernel
theorem dX9_decimal_85 : decode cX9_decimal 85 = .ok (.invokestatic 177, 3) := by decide +kernel
theorem dX9_decimal_88 : decode cX9_decimal 88 = .ok (.imul, 1) := by decide +kernel
theorem dX9_decimal_89 : decode cX9_decimal 89 = .ok (.iload 7, 2) := by decide +kernel
theorem dX9_decimal_91 : decode cX9_decimal 91 = .ok (.iadd, 1) := by decide +kernel
theorem dX9_decimal_92 : decode cX9_decimal 92 = .ok (.istore 8, 2) := by decide +kernel
theorem dX9_decimal_94 : decode cX9_decimal 94 = .ok (.iload 7, 2) := by decide +kernel
theorem dX9_decimal_96 : decode cX9_decimal 96 = .ok (.ldc 73, 2) := by decide +kernel
theorem dX9_decimal_98 : decode cX9_decimal 98 = .ok (.if_icmp .ne 8, 3) := by decide +kernel
theorem dX9_decimal_101 : decode cX9_decimal 101 = .ok (.ldc 73, 2) := by decide +kernel
theorem dX9_decimal_103 : decode cX9_decimal 103 = .ok (.goto 17, 3) := by decide +kernel
theorem dX9_decimal_106 : decode cX9_decimal 106 = .ok (.iload 5, 2) := by decide +kernel
theorem dX9_decimal_108 : decode cX9_decimal 108 = .ok (.iconst 1, 1) := by decide +kernel
theorem dX9_decimal_109 : decode cX9_decimal 109 = .ok (.if_icmp .ne 9, 3) := by decide +kernel
theorem dX9_decimal_112 : decode cX9_decimal 112 = .ok (.iload 8, 2) := by decide +kernel
theorem dX9_decimal_114 : decode cX9_decimal 114 = .ok (.ineg, 1) := by decide +kernel
theorem dX9_decimal_115 : decode cX9_decimal 115 = .ok (.goto 5, 3) := by decide +kernel
theorem dX9_decimal_118 : decode cX9_decimal 118 = .ok (.iload 8, 2) := by decide +kernel
theorem dX9_decimal_120 : decode cX9_decimal 120 = .ok (.ireturn, 1) := by decide +kernel
theorem dX9_below_0 : decode cX9_below 0 = .ok (.iload_n 1, 1) := by decide +kernel
theorem dX9_below_1 : decode cX9_below 1 = .ok (.ldc 73, 2) := by decide +kernel
theorem dX9_below_3 : decode cX9_below 3 = .ok (.if_icmp .eq 15, 3) := by decide +kernel
theorem dX9_below_6 : decode cX9_below 6 = .ok (.iload_n 1, 1) := by decide +kernel
theorem dX9_below_7 : decode cX9_below 7 = .ok (.iload_n 2, 1) := by decide +kernel
theorem dX9_below_8 : decode cX9_below 8 = .ok (.if_icmp .le 10, 3) := by decide +kernel
theorem dX9_below_11 : decode cX9_below 11 = .ok (.aload_n 0, 1) := by decide +kernel
theorem dX9_below_12 : decode cX9_below 12 = .ok (.invokevirtual 166, 3) := by decide +kernel
theorem dX9_below_15 : decode cX9_below 15 = .ok (.goto 4, 3) := by decide +kernel
theorem dX9_below_18 : decode cX9_below 18 = .ok (.iload_n 1, 1) := by decide +kernel
theorem dX9_below_19 : decode cX9_below 19 = .ok (.ireturn, 1) := by decide +kernel
theorem dX9_number_0 : decode cX9_number 0 = .ok (.aload_n 0, 1) := by decide +kernel
theorem dX9_number_1 : decode cX9_number 1 = .ok (.iload_n 1, 1) := by decide +kernel
theorem dX9_number_2 : decode cX9_number 2 = .ok (.invokevirtual 153, 3) := by decide +kernel
theorem dX9_number_5 : decode cX9_number 5 = .ok (.ifCond .ne 8, 3) := by decide +kernel
theorem dX9_number_8 : decode cX9_number 8 = .ok (.ldc 73, 2) := by decide +kernel
theorem dX9_number_10 : decode cX9_number 10 = .ok (.goto 36, 3) := by decide +kernel
theorem dX9_number_13 : decode cX9_number 13 = .ok (.aload_n 0, 1) := by decide +kernel
theorem dX9_number_14 : decode cX9_number 14 = .ok (.iload_n 1, 1) := by decide +kernel
theorem dX9_number_15 : decode cX9_number 15 = .ok (.invokevirtual 153, 3) := by decide +kernel
theorem dX9_number_18 : decode cX9_number 18 = .ok (.iload_n 2, 1) := by decide +kernel
theorem dX9_number_19 : decode cX9_number 19 = .ok (.if_icmp .ne 13, 3) := by decide +kernel
theorem dX9_number_22 : decode cX9_number 22 = .ok (.aload_n 0, 1) := by decide +kernel
theorem dX9_number_23 : decode cX9_number 23 = .ok (.iload_n 1, 1) := by decide +kernel
theorem dX9_number_24 : decode cX9_number 24 = .ok (.iconst 0, 1) := by decide +kernel
theorem dX9_number_25 : decode cX9_number 25 = .ok (.invokevirtual 163, 3) := by decide +kernel
theorem dX9_number_28 : decode cX9_number 28 = .ok (.iload_n 2, 1) := by decide +kernel
theorem dX9_number_29 : decode cX9_number 29 = .ok (.if_icmp .eq 10, 3) := by decide +kernel
theorem dX9_number_32 : decode cX9_number 32 = .ok (.aload_n 0, 1) := by decide +kernel
theorem dX9_number_33 : decode cX9_number 33 = .ok (.invokevirtual 166, 3) := by decide +kernel
theorem dX9_number_36 : decode cX9_number 36 = .ok (.goto 10, 3) := by decide +kernel
theorem dX9_number_39 : decode cX9_number 39 = .ok (.aload_n 0, 1) := by decide +kernel
theorem dX9_number_40 : decode cX9_number 40 = .ok (.iload_n 1, 1) := by decide +kernel
theorem dX9_number_41 : decode cX9_number 41 = .ok (.iconst 0, 1) := by decide +kernel
theorem dX9_number_42 : decode cX9_number 42 = .ok (.iload_n 2, 1) := by decide +kernel
theorem dX9_number_43 : decode cX9_number 43 = .ok (.invokevirtual 173, 3) := by decide +kernel
theorem dX9_number_46 : decode cX9_number 46 = .ok (.ireturn, 1) := by decide +kernel
theorem dX9_time_0 : decode cX9_time 0 = .ok (.aload_n 0, 1) := by decide +kernel
theorem dX9_time_1 : decode cX9_time 1 = .ok (.iload_n 1, 1) := by decide +kernel
theorem dX9_time_2 : decode cX9_time 2 = .ok (.invokevirtual 153, 3) := by decide +kernel
theorem dX9_time_5 : decode cX9_time 5 = .ok (.ifCond .ne 6, 3) := by decide +kernel
theorem dX9_time_8 : decode cX9_time 8 = .ok (.ldc 73, 2) := by decide +kernel
theorem dX9_time_10 : decode cX9_time 10 = .ok (.ireturn, 1) := by decide +kernel
theorem dX9_time_11 : decode cX9_time 11 = .ok (.aload_n 0, 1) := by decide +kernel
theorem dX9_time_12 : decode cX9_time 12 = .ok (.iload_n 1, 1) := by decide +kernel
theorem dX9_time_13 : decode cX9_time 13 = .ok (.iconst 0, 1) := by decide +kernel
theorem dX9_time_14 : decode cX9_time 14 = .ok (.invokevirtual 163, 3) := by decide +kernel
theorem dX9_time_17 : decode cX9_time 17 = .ok (.bipush 6, 2) := by decide +kernel
theorem dX9_time_19 : decode cX9_time 19 = .ok (.if_icmp .eq 8, 3) := by decide +kernel
theorem dX9_time_22 : decode cX9_time 22 = .ok (.aload_n 0, 1) := by decide +kernel
theorem dX9_time_23 : decode cX9_time 23 = .ok (.invokevirtual 166, 3) := by decide +kernel
theorem dX9_time_26 : decode cX9_time 26 = .ok (.ireturn, 1) := by decide +kernel
theorem dX9_time_27 : decode cX9_time 27 = .ok (.aload_n 0, 1) := by decide +kernel
theorem dX9_time_28 : decode cX9_time 28 = .ok (.iload_n 1, 1) := by decide +kernel
theorem dX9_time_29 : decode cX9_time 29 = .ok (.iconst 0, 1) := by decide +kernel
theorem dX9_time_30 : decode cX9_time 30 = .ok (.iconst 2, 1) := by decide +kernel
theorem dX9_time_31 : decode cX9_time 31 = .ok (.invokevirtual 173, 3) := by decide +kernel
theorem dX9_time_34 : decode cX9_time 34 = .ok (.istore_n 2, 1) := by decide +kernel
theorem dX9_time_35 : decode cX9_time 35 = .ok (.aload_n 0, 1) := by decide +kernel
theorem dX9_time_36 : decode cX9_time 36 = .ok (.iload_n 1, 1) := by decide +kernel
theorem dX9_time_37 : decode cX9_time 37 = .ok (.iconst 2, 1) := by decide +kernel
theorem dX9_time_38 : decode cX9_time 38 = .ok (.iconst 2, 1) := by decide +kernel
theorem dX9_time_39 : decode cX9_time 39 = .ok (.invokevirtual 173, 3) := by decide +kernel
theorem dX9_time_42 : decode cX9_time 42 = .ok (.istore_n 3, 1) := by decide +kernel
theorem dX9_time_43 : decode cX9_time 43 = .ok (.aload_n 0, 1) := by decide +kernel
theorem dX9_time_44 : decode cX9_time 44 = .ok (.iload_n 1, 1) := by decide +kernel
theorem dX9_time_45 : decode cX9_time 45 = .ok (.iconst 4, 1) := by decide +kernel
theorem dX9_time_46 : decode cX9_time 46 = .ok (.iconst 2, 1) := by decide +kernel
theorem dX9_time_47 : decode cX9_time 47 = .ok (.invokevirtual 173, 3) := by decide +kernel
theorem dX9_time_50 : decode cX9_time 50 = .ok (.istore 4, 2) := by decide +kernel
theorem dX9_time_52 : decode cX9_time 52 = .ok (.aload_n 0, 1) := by decide +kernel
theorem dX9_time_53 : decode cX9_time 53 = .ok (.iload_n 1, 1) := by decide +kernel
theorem dX9_time_54 : decode cX9_time 54 = .ok (.bipush 6, 2) := by decide +kernel
theorem dX9_time_56 : decode cX9_time 56 = .ok (.iconst 3, 1) := by decide +kernel
theorem dX9_time_57 : decode cX9_time 57 = .ok (.iconst 3, 1) := by decide +kernel
theorem dX9_time_58 : decode cX9_time 58 = .ok (.invokevirtual 169, 3) := by decide +kernel
theorem dX9_time_61 : decode cX9_time 61 = .ok (.istore 5, 2) := by decide +kernel
theorem dX9_time_63 : decode cX9_time 63 = .ok (.iload 5, 2) := by decide +kernel
theorem dX9_time_65 : decode cX9_time 65 = .ok (.ldc 73, 2) := by decide +kernel
theorem dX9_time_67 : decode cX9_time 67 = .ok (.if_icmp .ne 8, 3) := by decide +kernel
theorem dX9_time_70 : decode cX9_time 70 = .ok (.ldc 73, 2) := by decide +kernel
theorem dX9_time_72 : decode cX9_time 72 = .ok (.goto 48, 3) := by decide +kernel
theorem dX9_time_75 : decode cX9_time 75 = .ok (.iload_n 2, 1) := by decide +kernel
theorem dX9_time_76 : decode cX9_time 76 = .ok (.bipush 23, 2) := by decide +kernel
theorem dX9_time_78 : decode cX9_time 78 = .ok (.if_icmp .gt 16, 3) := by decide +kernel
theorem dX9_time_81 : decode cX9_time 81 = .ok (.iload_n 3, 1) := by decide +kernel
theorem dX9_time_82 : decode cX9_time 82 = .ok (.bipush 59, 2) := by decide +kernel
theorem dX9_time_84 : decode cX9_time 84 = .ok (.if_icmp .gt 10, 3) := by decide +kernel
theorem dX9_time_87 : decode cX9_time 87 = .ok (.iload 4, 2) := by decide +kernel
theorem dX9_time_89 : decode cX9_time 89 = .ok (.bipush 59, 2) := by decide +kernel
theorem dX9_time_91 : decode cX9_time 91 = .ok (.if_icmp .le 10, 3) := by decide +kernel
theorem dX9_time_94 : decode cX9_time 94 = .ok (.aload_n 0, 1) := by decide +kernel
theorem dX9_time_95 : decode cX9_time 95 = .ok (.invokevirtual 166, 3) := by decide +kernel
theorem dX9_time_98 : decode cX9_time 98 = .ok (.goto 22, 3) := by decide +kernel
theorem dX9_time_101 : decode cX9_time 101 = .ok (.iload_n 2, 1) := by decide +kernel
theorem dX9_time_102 : decode cX9_time 102 = .ok (.bipush 60, 2) := by decide +kernel
theorem dX9_time_104 : decode cX9_time 104 = .ok (.imul, 1) := by decide +kernel
theorem dX9_time_105 : decode cX9_time 105 = .ok (.iload_n 3, 1) := by decide +kernel
theorem dX9_time_106 : decode cX9_time 106 = .ok (.iadd, 1) := by decide +kernel
theorem dX9_time_107 : decode cX9_time 107 = .ok (.bipush 60, 2) := by decide +kernel
theorem dX9_time_109 : decode cX9_time 109 = .ok (.imul, 1) := by decide +kernel
theorem dX9_time_110 : decode cX9_time 110 = .ok (.iload 4, 2) := by decide +kernel
theorem dX9_time_112 : decode cX9_time 112 = .ok (.iadd, 1) := by decide +kernel
theorem dX9_time_113 : decode cX9_time 113 = .ok (.sipush 1000, 3) := by decide +kernel
theorem dX9_time_116 : decode cX9_time 116 = .ok (.imul, 1) := by decide +kernel
theorem dX9_time_117 : decode cX9_time 117 = .ok (.iload 5, 2) := by decide +kernel
theorem dX9_time_119 : decode cX9_time 119 = .ok (.iadd, 1) := by decide +kernel
theorem dX9_time_120 : decode cX9_time 120 = .ok (.ireturn, 1) := by decide +kernel
theorem dX9_date_0 : decode cX9_date 0 = .ok (.aload_n 0, 1) := by decide +kernel
theorem dX9_date_1 : decode cX9_date 1 = .ok (.iload_n 1, 1) := by decide +kernel
theorem dX9_date_2 : decode cX9_date 2 = .ok (.bipush 6, 2) := by decide +kernel
theorem dX9_date_4 : decode cX9_date 4 = .ok (.invokevirtual 180, 3) := by decide +kernel
theorem dX9_date_7 : decode cX9_date 7 = .ok (.istore_n 2, 1) := by decide +kernel
theorem dX9_date_8 : decode cX9_date 8 = .ok (.iload_n 2, 1) := by decide +kernel
theorem dX9_date_9 : decode cX9_date 9 = .ok (.ldc 73, 2) := by decide +kernel
theorem dX9_date_11 : decode cX9_date 11 = .ok (.if_icmp .ne 6, 3) := by decide +kernel
theorem dX9_date_14 : decode cX9_date 14 = .ok (.ldc 73, 2) := by decide +kernel
theorem dX9_date_16 : decode cX9_date 16 = .ok (.ireturn, 1) := by decide +kernel
theorem dX9_date_17 : decode cX9_date 17 = .ok (.iload_n 2, 1) := by decide +kernel
theorem dX9_date_18 : decode cX9_date 18 = .ok (.sipush 10000, 3) := by decide +kernel
theorem dX9_date_21 : decode cX9_date 21 = .ok (.idiv, 1) := by decide +kernel
theorem dX9_date_22 : decode cX9_date 22 = .ok (.istore_n 3, 1) := by decide +kernel
theorem dX9_date_23 : decode cX9_date 23 = .ok (.iload_n 2, 1) := by decide +kernel
theorem dX9_date_24 : decode cX9_date 24 = .ok (.bipush 100, 2) := by decide +kernel
theorem dX9_date_26 : decode cX9_date 26 = .ok (.idiv, 1) := by decide +kernel
theorem dX9_date_27 : decode cX9_date 27 = .ok (.bipush 100, 2) := by decide +kernel
theorem dX9_date_29 : decode cX9_date 29 = .ok (.irem, 1) := by decide +kernel
theorem dX9_date_30 : decode cX9_date 30 = .ok (.istore 4, 2) := by decide +kernel
theorem dX9_date_32 : decode cX9_date 32 = .ok (.iload_n 3, 1) := by decide +kernel
theorem dX9_date_33 : decode cX9_date 33 = .ok (.i2l, 1) := by decide +kernel
theorem dX9_date_34 : decode cX9_date 34 = .ok (.lconst 1, 1) := by decide +kernel
theorem dX9_date_35 : decode cX9_date 35 = .ok (.ldc2_w 183, 3) := by decide +kernel
theorem dX9_date_38 : decode cX9_date 38 = .ok (.invokestatic 74, 3) := by decide +kernel
theorem dX9_date_41 : decode cX9_date 41 = .ok (.ifCond .eq 16, 3) := by decide +kernel
theorem dX9_date_44 : decode cX9_date 44 = .ok (.iload 4, 2) := by decide +kernel
theorem dX9_date_46 : decode cX9_date 46 = .ok (.i2l, 1) := by decide +kernel
theorem dX9_date_47 : decode cX9_date 47 = .ok (.lconst 1, 1) := by decide +kernel
theorem dX9_date_48 : decode cX9_date 48 = .ok (.ldc2_w 185, 3) := by decide +kernel
theorem dX9_date_51 : decode cX9_date 51 = .ok (.invokestatic 74, 3) := by decide +kernel
theorem dX9_date_54 : decode cX9_date 54 = .ok (.ifCond .ne 10, 3) := by decide +kernel
theorem dX9_date_57 : decode cX9_date 57 = .ok (.aload_n 0, 1) := by decide +kernel
theorem dX9_date_58 : decode cX9_date 58 = .ok (.invokevirtual 166, 3) := by decide +kernel
theorem dX9_date_61 : decode cX9_date 61 = .ok (.goto 19, 3) := by decide +kernel
theorem dX9_date_64 : decode cX9_date 64 = .ok (.iload_n 3, 1) := by decide +kernel
theorem dX9_date_65 : decode cX9_date 65 = .ok (.bipush 100, 2) := by decide +kernel
theorem dX9_date_67 : decode cX9_date 67 = .ok (.iload 4, 2) := by decide +kernel
theorem dX9_date_69 : decode cX9_date 69 = .ok (.imul, 1) := by decide +kernel
theorem dX9_date_70 : decode cX9_date 70 = .ok (.iadd, 1) := by decide +kernel
theorem dX9_date_71 : decode cX9_date 71 = .ok (.sipush 10000, 3) := by decide +kernel
theorem dX9_date_74 : decode cX9_date 74 = .ok (.iload_n 2, 1) := by decide +kernel
theorem dX9_date_75 : decode cX9_date 75 = .ok (.bipush 100, 2) := by decide +kernel
theorem dX9_date_77 : decode cX9_date 77 = .ok (.irem, 1) := by decide +kernel
theorem dX9_date_78 : decode cX9_date 78 = .ok (.imul, 1) := by decide +kernel
theorem dX9_date_79 : decode cX9_date 79 = .ok (.iadd, 1) := by decide +kernel
theorem dX9_date_80 : decode cX9_date 80 = .ok (.ireturn, 1) := by decide +kernel
theorem dX9_one_0 : decode cX9_one 0 = .ok (.aload_n 0, 1) := by decide +kernel
theorem dX9_one_1 : decode cX9_one 1 = .ok (.iload_n 1, 1) := by decide +kernel
theorem dX9_one_2 : decode cX9_one 2 = .ok (.invokevirtual 153, 3) := by decide +kernel
theorem dX9_one_5 : decode cX9_one 5 = .ok (.ifCond .ne 6, 3) := by decide +kernel
theorem dX9_one_8 : decode cX9_one 8 = .ok (.ldc 73, 2) := by decide +kernel
theorem dX9_one_10 : decode cX9_one 10 = .ok (.ireturn, 1) := by decide +kernel
theorem dX9_one_11 : decode cX9_one 11 = .ok (.iconst 0, 1) := by decide +kernel
theorem dX9_one_12 : decode cX9_one 12 = .ok (.istore_n 3, 1) := by decide +kernel
theorem dX9_one_13 : decode cX9_one 13 = .ok (.iconst 0, 1) := by decide +kernel
theorem dX9_one_14 : decode cX9_one 14 = .ok (.istore 4, 2) := by decide +kernel
theorem dX9_one_16 : decode cX9_one 16 = .ok (.iload 4, 2) := by decide +kernel
theorem dX9_one_18 : decode cX9_one 18 = .ok (.aload_n 2, 1) := by decide +kernel
theorem dX9_one_19 : decode cX9_one 19 = .ok (.invokevirtual 187, 3) := by decide +kernel
theorem dX9_one_22 : decode cX9_one 22 = .ok (.if_icmp .ge 43, 3) := by decide +kernel
theorem dX9_one_25 : decode cX9_one 25 = .ok (.iload_n 3, 1) := by decide +kernel
theorem dX9_one_26 : decode cX9_one 26 = .ok (.ifCond .ne 27, 3) := by decide +kernel
theorem dX9_one_29 : decode cX9_one 29 = .ok (.aload_n 0, 1) := by decide +kernel
theorem dX9_one_30 : decode cX9_one 30 = .ok (.iload_n 1, 1) := by decide +kernel
theorem dX9_one_31 : decode cX9_one 31 = .ok (.invokevirtual 153, 3) := by decide +kernel
theorem dX9_one_34 : decode cX9_one 34 = .ok (.iconst 1, 1) := by decide +kernel
theorem dX9_one_35 : decode cX9_one 35 = .ok (.if_icmp .ne 22, 3) := by decide +kernel
theorem dX9_one_38 : decode cX9_one 38 = .ok (.aload_n 0, 1) := by decide +kernel
theorem dX9_one_39 : decode cX9_one 39 = .ok (.iload_n 1, 1) := by decide +kernel
theorem dX9_one_40 : decode cX9_one 40 = .ok (.iconst 0, 1) := by decide +kernel
theorem dX9_one_41 : decode cX9_one 41 = .ok (.invokevirtual 156, 3) := by decide +kernel
theorem dX9_one_44 : decode cX9_one 44 = .ok (.aload_n 2, 1) := by decide +kernel
theorem dX9_one_45 : decode cX9_one 45 = .ok (.iload 4, 2) := by decide +kernel
theorem dX9_one_47 : decode cX9_one 47 = .ok (.invokevirtual 127, 3) := by decide +kernel
theorem dX9_one_50 : decode cX9_one 50 = .ok (.if_icmp .ne 7, 3) := by decide +kernel
theorem dX9_one_53 : decode cX9_one 53 = .ok (.iconst 1, 1) := by decide +kernel
theorem dX9_one_54 : decode cX9_one 54 = .ok (.goto 4, 3) := by decide +kernel
theorem dX9_one_57 : decode cX9_one 57 = .ok (.iconst 0, 1) := by decide +kernel
theorem dX9_one_58 : decode cX9_one 58 = .ok (.istore_n 3, 1) := by decide +kernel
theorem dX9_one_59 : decode cX9_one 59 = .ok (.iinc 4 1, 3) := by decide +kernel
theorem dX9_one_62 : decode cX9_one 62 = .ok (.goto (-46), 3) := by decide +kernel
theorem dX9_one_65 : decode cX9_one 65 = .ok (.iload_n 3, 1) := by decide +kernel
theorem dX9_one_66 : decode cX9_one 66 = .ok (.ifCond .eq 12, 3) := by decide +kernel
theorem dX9_one_69 : decode cX9_one 69 = .ok (.aload_n 0, 1) := by decide +kernel
theorem dX9_one_70 : decode cX9_one 70 = .ok (.iload_n 1, 1) := by decide +kernel
theorem dX9_one_71 : decode cX9_one 71 = .ok (.iconst 0, 1) := by decide +kernel
theorem dX9_one_72 : decode cX9_one 72 = .ok (.invokevirtual 156, 3) := by decide +kernel
theorem dX9_one_75 : decode cX9_one 75 = .ok (.goto 7, 3) := by decide +kernel
theorem dX9_one_78 : decode cX9_one 78 = .ok (.aload_n 0, 1) := by decide +kernel
theorem dX9_one_79 : decode cX9_one 79 = .ok (.invokevirtual 166, 3) := by decide +kernel
theorem dX9_one_82 : decode cX9_one 82 = .ok (.ireturn, 1) := by decide +kernel
theorem dX9_sided_0 : decode cX9_sided 0 = .ok (.aload_n 0, 1) := by decide +kernel
theorem dX9_sided_1 : decode cX9_sided 1 = .ok (.iload_n 2, 1) := by decide +kernel
theorem dX9_sided_2 : decode cX9_sided 2 = .ok (.aload_n 3, 1) := by decide +kernel
theorem dX9_sided_3 : decode cX9_sided 3 = .ok (.invokevirtual 190, 3) := by decide +kernel
theorem dX9_sided_6 : decode cX9_sided 6 = .ok (.istore 4, 2) := by decide +kernel
theorem dX9_sided_8 : decode cX9_sided 8 = .ok (.iload_n 1, 1) := by decide +kernel
theorem dX9_sided_9 : decode cX9_sided 9 = .ok (.ldc 73, 2) := by decide +kernel
theorem dX9_sided_11 : decode cX9_sided 11 = .ok (.if_icmp .ne 7, 3) := by decide +kernel
theorem dX9_sided_14 : decode cX9_sided 14 = .ok (.iconst 1, 1) := by decide +kernel
theorem dX9_sided_15 : decode cX9_sided 15 = .ok (.goto 4, 3) := by decide +kernel
theorem dX9_sided_18 : decode cX9_sided 18 = .ok (.iconst 0, 1) := by decide +kernel
theorem dX9_sided_19 : decode cX9_sided 19 = .ok (.iload 4, 2) := by decide +kernel
theorem dX9_sided_21 : decode cX9_sided 21 = .ok (.ldc 73, 2) := by decide +kernel
theorem dX9_sided_23 : decode cX9_sided 23 = .ok (.if_icmp .ne 7, 3) := by decide +kernel
theorem dX9_sided_26 : decode cX9_sided 26 = .ok (.iconst 1, 1) := by decide +kernel
theorem dX9_sided_27 : decode cX9_sided 27 = .ok (.goto 4, 3) := by decide +kernel
theorem dX9_sided_30 : decode cX9_sided 30 = .ok (.iconst 0, 1) := by decide +kernel
theorem dX9_sided_31 : decode cX9_sided 31 = .ok (.if_icmp .eq 8, 3) := by decide +kernel
theorem dX9_sided_34 : decode cX9_sided 34 = .ok (.aload_n 0, 1) := by decide +kernel
theorem dX9_sided_35 : decode cX9_sided 35 = .ok (.invokevirtual 166, 3) := by decide +kernel
theorem dX9_sided_38 : decode cX9_sided 38 = .ok (.ireturn, 1) := by decide +kernel
theorem dX9_sided_39 : decode cX9_sided 39 = .ok (.iload_n 1, 1) := by decide +kernel
theorem dX9_sided_40 : decode cX9_sided 40 = .ok (.ldc 73, 2) := by decide +kernel
theorem dX9_sided_42 : decode cX9_sided 42 = .ok (.if_icmp .eq 18, 3) := by decide +kernel
theorem dX9_sided_45 : decode cX9_sided 45 = .ok (.iload 4, 2) := by decide +kernel
theorem dX9_sided_47 : decode cX9_sided 47 = .ok (.aload_n 3, 1) := by decide +kernel
theorem dX9_sided_48 : decode cX9_sided 48 = .ok (.iconst 1, 1) := by decide +kernel
theorem dX9_sided_49 : decode cX9_sided 49 = .ok (.invokevirtual 127, 3) := by decide +kernel
theorem dX9_sided_52 : decode cX9_sided 52 = .ok (.if_icmp .ne 8, 3) := by decide +kernel
theorem dX9_sided_55 : decode cX9_sided 55 = .ok (.iload_n 1, 1) := by decide +kernel
theorem dX9_sided_56 : decode cX9_sided 56 = .ok (.ineg, 1) := by decide +kernel
theorem dX9_sided_57 : decode cX9_sided 57 = .ok (.goto 4, 3) := by decide +kernel
theorem dX9_sided_60 : decode cX9_sided 60 = .ok (.iload_n 1, 1) := by decide +kernel
theorem dX9_sided_61 : decode cX9_sided 61 = .ok (.ireturn, 1) := by decide +kernel
theorem dX9_place_0 : decode cX9_place 0 = .ok (.ldc 73, 2) := by decide +kernel
theorem dX9_place_2 : decode cX9_place 2 = .ok (.istore 5, 2) := by decide +kernel
theorem dX9_place_4 : decode cX9_place 4 = .ok (.aload_n 0, 1) := by decide +kernel
theorem dX9_place_5 : decode cX9_place 5 = .ok (.iload_n 1, 1) := by decide +kernel
theorem dX9_place_6 : decode cX9_place 6 = .ok (.invokevirtual 153, 3) := by decide +kernel
theorem dX9_place_9 : decode cX9_place 9 = .ok (.ifCond .le 96, 3) := by decide +kernel
theorem dX9_place_12 : decode cX9_place 12 = .ok (.aload_n 0, 1) := by decide +kernel
theorem dX9_place_13 : decode cX9_place 13 = .ok (.iload_n 1, 1) := by decide +kernel
theorem dX9_place_14 : decode cX9_place 14 = .ok (.iconst 0, 1) := by decide +kernel
theorem dX9_place_15 : decode cX9_place 15 = .ok (.invokevirtual 163, 3) := by decide +kernel
theorem dX9_place_18 : decode cX9_place 18 = .ok (.iload_n 2, 1) := by decide +kernel
theorem dX9_place_19 : decode cX9_place 19 = .ok (.if_icmp .eq 8, 3) := by decide +kernel
theorem dX9_place_22 : decode cX9_place 22 = .ok (.aload_n 0, 1) := by decide +kernel
theorem dX9_place_23 : decode cX9_place 23 = .ok (.invokevirtual 166, 3) := by decide +kernel
theorem dX9_place_26 : decode cX9_place 26 = .ok (.ireturn, 1) := by decide +kernel
theorem dX9_place_27 : decode cX9_place 27 = .ok (.aload_n 0, 1) := by decide +kernel
theorem dX9_place_28 : decode cX9_place 28 = .ok (.iload_n 1, 1) := by decide +kernel
theorem dX9_place_29 : decode cX9_place 29 = .ok (.iconst 0, 1) := by decide +kernel
theorem dX9_place_30 : decode cX9_place 30 = .ok (.iload_n 2, 1) := by decide +kernel
theorem dX9_place_31 : decode cX9_place 31 = .ok (.iconst 2, 1) := by decide +kernel
theorem dX9_place_32 : decode cX9_place 32 = .ok (.isub, 1) := by decide +kernel
theorem dX9_place_33 : decode cX9_place 33 = .ok (.invokevirtual 173, 3) := by decide +kernel
theorem dX9_place_36 : decode cX9_place 36 = .ok (.istore 6, 2) := by decide +kernel
theorem dX9_place_38 : decode cX9_place 38 = .ok (.aload_n 0, 1) := by decide +kernel
theorem dX9_place_39 : decode cX9_place 39 = .ok (.iload_n 1, 1) := by decide +kernel
theorem dX9_place_40 : decode cX9_place 40 = .ok (.iload_n 2, 1) := by decide +kernel
theorem dX9_place_41 : decode cX9_place 41 = .ok (.iconst 2, 1) := by decide +kernel
theorem dX9_place_42 : decode cX9_place 42 = .ok (.isub, 1) := by decide +kernel
theorem dX9_place_43 : decode cX9_place 43 = .ok (.iconst 2, 1) := by decide +kernel
theorem dX9_place_44 : decode cX9_place 44 = .ok (.invokevirtual 173, 3) := by decide +kernel
theorem dX9_place_47 : decode cX9_place 47 = .ok (.istore 7, 2) := by decide +kernel
theorem dX9_place_49 : decode cX9_place 49 = .ok (.aload_n 0, 1) := by decide +kernel
theorem dX9_place_50 : decode cX9_place 50 = .ok (.iload_n 1, 1) := by decide +kernel
theorem dX9_place_51 : decode cX9_place 51 = .ok (.iload_n 2, 1) := by decide +kernel
theorem dX9_place_52 : decode cX9_place 52 = .ok (.bipush 6, 2) := by decide +kernel
theorem dX9_place_54 : decode cX9_place 54 = .ok (.iconst 4, 1) := by decide +kernel
theorem dX9_place_55 : decode cX9_place 55 = .ok (.invokevirtual 169, 3) := by decide +kernel
theorem dX9_place_58 : decode cX9_place 58 = .ok (.istore 8, 2) := by decide +kernel
theorem dX9_place_60 : decode cX9_place 60 = .ok (.iload 6, 2) := by decide +kernel
theorem dX9_place_62 : decode cX9_place 62 = .ok (.bipush 60, 2) := by decide +kernel
theorem dX9_place_64 : decode cX9_place 64 = .ok (.imul, 1) := by decide +kernel
theorem dX9_place_65 : decode cX9_place 65 = .ok (.iload 7, 2) := by decide +kernel
theorem dX9_place_67 : decode cX9_place 67 = .ok (.iadd, 1) := by decide +kernel
theorem dX9_place_68 : decode cX9_place 68 = .ok (.sipush 10000, 3) := by decide +kernel
theorem dX9_place_71 : decode cX9_place 71 = .ok (.imul, 1) := by decide +kernel
theorem dX9_place_72 : decode cX9_place 72 = .ok (.iload 8, 2) := by decide +kernel
theorem dX9_place_74 : decode cX9_place 74 = .ok (.iadd, 1) := by decide +kernel
theorem dX9_place_75 : decode cX9_place 75 = .ok (.istore 5, 2) := by decide +kernel
theorem dX9_place_77 : decode cX9_place 77 = .ok (.iload 8, 2) := by decide +kernel
theorem dX9_place_79 : decode cX9_place 79 = .ok (.ldc 73, 2) := by decide +kernel
theorem dX9_place_81 : decode cX9_place 81 = .ok (.if_icmp .eq 19, 3) := by decide +kernel
theorem dX9_place_84 : decode cX9_place 84 = .ok (.iload 7, 2) := by decide +kernel
theorem dX9_place_86 : decode cX9_place 86 = .ok (.bipush 59, 2) := by decide +kernel
theorem dX9_place_88 : decode cX9_place 88 = .ok (.if_icmp .gt 12, 3) := by decide +kernel
theorem dX9_place_91 : decode cX9_place 91 = .ok (.iload 5, 2) := by decide +kernel
theorem dX9_place_93 : decode cX9_place 93 = .ok (.iload_n 3, 1) := by decide +kernel
theorem dX9_place_94 : decode cX9_place 94 = .ok (.ldc 194, 2) := by decide +kernel
theorem dX9_place_96 : decode cX9_place 96 = .ok (.imul, 1) := by decide +kernel
theorem dX9_place_97 : decode cX9_place 97 = .ok (.if_icmp .le 8, 3) := by decide +kernel
theorem dX9_place_100 : decode cX9_place 100 = .ok (.aload_n 0, 1) := by decide +kernel
theorem dX9_place_101 : decode cX9_place 101 = .ok (.invokevirtual 166, 3) := by decide +kernel
theorem dX9_place_104 : decode cX9_place 104 = .ok (.ireturn, 1) := by decide +kernel
theorem dX9_place_105 : decode cX9_place 105 = .ok (.aload_n 0, 1) := by decide +kernel
theorem dX9_place_106 : decode cX9_place 106 = .ok (.iload 5, 2) := by decide +kernel
theorem dX9_place_108 : decode cX9_place 108 = .ok (.iload_n 1, 1) := by decide +kernel
theorem dX9_place_109 : decode cX9_place 109 = .ok (.iconst 1, 1) := by decide +kernel
theorem dX9_place_110 : decode cX9_place 110 = .ok (.iadd, 1) := by decide +kernel
theorem dX9_place_111 : decode cX9_place 111 = .ok (.aload 4, 2) := by decide +kernel
theorem dX9_place_113 : decode cX9_place 113 = .ok (.invokevirtual 195, 3) := by decide +kernel
theorem dX9_place_116 : decode cX9_place 116 = .ok (.ireturn, 1) := by decide +kernel
theorem dX9_measured_0 : decode cX9_measured 0 = .ok (.aload_n 0, 1) := by decide +kernel
theorem dX9_measured_1 : decode cX9_measured 1 = .ok (.iload_n 2, 1) := by decide +kernel
theorem dX9_measured_2 : decode cX9_measured 2 = .ok (.aload_n 3, 1) := by decide +kernel
theorem dX9_measured_3 : decode cX9_measured 3 = .ok (.invokevirtual 190, 3) := by decide +kernel
theorem dX9_measured_6 : decode cX9_measured 6 = .ok (.istore 4, 2) := by decide +kernel
theorem dX9_measured_8 : decode cX9_measured 8 = .ok (.iload_n 1, 1) := by decide +kernel
theorem dX9_measured_9 : decode cX9_measured 9 = .ok (.ldc 73, 2) := by decide +kernel
theorem dX9_measured_11 : decode cX9_measured 11 = .ok (.if_icmp .eq 17, 3) := by decide +kernel
theorem dX9_measured_14 : decode cX9_measured 14 = .ok (.iload 4, 2) := by decide +kernel
theorem dX9_measured_16 : decode cX9_measured 16 = .ok (.ldc 73, 2) := by decide +kernel
theorem dX9_measured_18 : decode cX9_measured 18 = .ok (.if_icmp .ne 10, 3) := by decide +kernel
theorem dX9_measured_21 : decode cX9_measured 21 = .ok (.aload_n 0, 1) := by decide +kernel
theorem dX9_measured_22 : decode cX9_measured 22 = .ok (.invokevirtual 166, 3) := by decide +kernel
theorem dX9_measured_25 : decode cX9_measured 25 = .ok (.goto 4, 3) := by decide +kernel
theorem dX9_measured_28 : decode cX9_measured 28 = .ok (.iload_n 1, 1) := by decide +kernel
theorem dX9_measured_29 : decode cX9_measured 29 = .ok (.ireturn, 1) := by decide +kernel
theorem dX9_fits_0 : decode cX9_fits 0 = .ok (.aload_n 0, 1) := by decide +kernel
theorem dX9_fits_1 : decode cX9_fits 1 = .ok (.iconst 1, 1) := by decide +kernel
theorem dX9_fits_2 : decode cX9_fits 2 = .ok (.putfield 149, 3) := by decide +kernel
theorem dX9_fits_5 : decode cX9_fits 5 = .ok (.iload_n 1, 1) := by decide +kernel
theorem dX9_fits_6 : decode cX9_fits 6 = .ok (.tableswitch 98 0 2 #[26, 44, 71], 26) := by decide +kernel
theorem dX9_fits_32 : decode cX9_fits 32 = .ok (.aload_n 0, 1) := by decide +kernel
theorem dX9_fits_33 : decode cX9_fits 33 = .ok (.getfield 113, 3) := by decide +kernel
theorem dX9_fits_36 : decode cX9_fits 36 = .ok (.bipush 15, 2) := by decide +kernel
theorem dX9_fits_38 : decode cX9_fits 38 = .ok (.if_icmp .eq 5, 3) := by decide +kernel
theorem dX9_fits_41 : decode cX9_fits 41 = .ok (.iconst 0, 1) := by decide +kernel
theorem dX9_fits_42 : decode cX9_fits 42 = .ok (.ireturn, 1) := by decide +kernel
theorem dX9_fits_43 : decode cX9_fits 43 = .ok (.aload_n 0, 1) := by decide +kernel
theorem dX9_fits_44 : decode cX9_fits 44 = .ok (.invokevirtual 199, 3) := by decide +kernel
theorem dX9_fits_47 : decode cX9_fits 47 = .ok (.goto 72, 3) := by decide +kernel
theorem dX9_fits_50 : decode cX9_fits 50 = .ok (.aload_n 0, 1) := by decide +kernel
theorem dX9_fits_51 : decode cX9_fits 51 = .ok (.getfield 113, 3) := by decide +kernel
theorem dX9_fits_54 : decode cX9_fits 54 = .ok (.bipush 12, 2) := by decide +kernel
theorem dX9_fits_56 : decode cX9_fits 56 = .ok (.if_icmp .eq 14, 3) := by decide +kernel
theorem dX9_fits_59 : decode cX9_fits 59 = .ok (.aload_n 0, 1) := by decide +kernel
theorem dX9_fits_60 : decode cX9_fits 60 = .ok (.getfield 113, 3) := by decide +kernel
theorem dX9_fits_63 : decode cX9_fits 63 = .ok (.bipush 13, 2) := by decide +kernel
theorem dX9_fits_65 : decode cX9_fits 65 = .ok (.if_icmp .eq 5, 3) := by decide +kernel
theorem dX9_fits_68 : decode cX9_fits 68 = .ok (.iconst 0, 1) := by decide +kernel
theorem dX9_fits_69 : decode cX9_fits 69 = .ok (.ireturn, 1) := by decide +kernel
theorem dX9_fits_70 : decode cX9_fits 70 = .ok (.aload_n 0, 1) := by decide +kernel
theorem dX9_fits_71 : decode cX9_fits 71 = .ok (.invokevirtual 202, 3) := by decide +kernel
theorem dX9_fits_74 : decode cX9_fits 74 = .ok (.goto 45, 3) := by decide +kernel
theorem dX9_fits_77 : decode cX9_fits 77 = .ok (.aload_n 0, 1) := by decide +kernel
theorem dX9_fits_78 : decode cX9_fits 78 = .ok (.getfield 113, 3) := by decide +kernel
theorem dX9_fits_81 : decode cX9_fits 81 = .ok (.bipush 9, 2) := by decide +kernel
theorem dX9_fits_83 : decode cX9_fits 83 = .ok (.if_icmp .eq 14, 3) := by decide +kernel
theorem dX9_fits_86 : decode cX9_fits 86 = .ok (.aload_n 0, 1) := by decide +kernel
theorem dX9_fits_87 : decode cX9_fits 87 = .ok (.getfield 113, 3) := by decide +kernel
theorem dX9_fits_90 : decode cX9_fits 90 = .ok (.bipush 10, 2) := by decide +kernel
theorem dX9_fits_92 : decode cX9_fits 92 = .ok (.if_icmp .eq 5, 3) := by decide +kernel
theorem dX9_fits_95 : decode cX9_fits 95 = .ok (.iconst 0, 1) := by decide +kernel
theorem dX9_fits_96 : decode cX9_fits 96 = .ok (.ireturn, 1) := by decide +kernel
theorem dX9_fits_97 : decode cX9_fits 97 = .ok (.aload_n 0, 1) := by decide +kernel
theorem dX9_fits_98 : decode cX9_fits 98 = .ok (.invokevirtual 205, 3) := by decide +kernel
theorem dX9_fits_101 : decode cX9_fits 101 = .ok (.goto 18, 3) := by decide +kernel
theorem dX9_fits_104 : decode cX9_fits 104 = .ok (.aload_n 0, 1) := by decide +kernel
theorem dX9_fits_105 : decode cX9_fits 105 = .ok (.getfield 113, 3) := by decide +kernel
theorem dX9_fits_108 : decode cX9_fits 108 = .ok (.bipush 7, 2) := by decide +kernel
theorem dX9_fits_110 : decode cX9_fits 110 = .ok (.if_icmp .eq 5, 3) := by decide +kernel
theorem dX9_fits_113 : decode cX9_fits 113 = .ok (.iconst 0, 1) := by decide +kernel
theorem dX9_fits_114 : decode cX9_fits 114 = .ok (.ireturn, 1) := by decide +kernel
theorem dX9_fits_115 : decode cX9_fits 115 = .ok (.aload_n 0, 1) := by decide +kernel
theorem dX9_fits_116 : decode cX9_fits 116 = .ok (.invokevirtual 208, 3) := by decide +kernel
theorem dX9_fits_119 : decode cX9_fits 119 = .ok (.aload_n 0, 1) := by decide +kernel
theorem dX9_fits_120 : decode cX9_fits 120 = .ok (.getfield 149, 3) := by decide +kernel
theorem dX9_fits_123 : decode cX9_fits 123 = .ok (.ireturn, 1) := by decide +kernel
theorem dX9_gga_0 : decode cX9_gga 0 = .ok (.aload_n 0, 1) := by decide +kernel
theorem dX9_gga_1 : decode cX9_gga 1 = .ok (.getfield 32, 3) := by decide +kernel
theorem dX9_gga_4 : decode cX9_gga 4 = .ok (.iconst 0, 1) := by decide +kernel
theorem dX9_gga_5 : decode cX9_gga 5 = .ok (.aload_n 0, 1) := by decide +kernel
theorem dX9_gga_6 : decode cX9_gga 6 = .ok (.iconst 1, 1) := by decide +kernel
theorem dX9_gga_7 : decode cX9_gga 7 = .ok (.invokevirtual 211, 3) := by decide +kernel
theorem dX9_gga_10 : decode cX9_gga 10 = .ok (.iastore, 1) := by decide +kernel
theorem dX9_gga_11 : decode cX9_gga 11 = .ok (.aload_n 0, 1) := by decide +kernel
theorem dX9_gga_12 : decode cX9_gga 12 = .ok (.getfield 32, 3) := by decide +kernel
theorem dX9_gga_15 : decode cX9_gga 15 = .ok (.iconst 1, 1) := by decide +kernel
theorem dX9_gga_16 : decode cX9_gga 16 = .ok (.aload_n 0, 1) := by decide +kernel
theorem dX9_gga_17 : decode cX9_gga 17 = .ok (.iconst 2, 1) := by decide +kernel
theorem dX9_gga_18 : decode cX9_gga 18 = .ok (.iconst 4, 1) := by decide +kernel
theorem dX9_gga_19 : decode cX9_gga 19 = .ok (.bipush 90, 2) := by decide +kernel
theorem dX9_gga_21 : decode cX9_gga 21 = .ok (.ldc 214, 2) := by decide +kernel
theorem dX9_gga_23 : decode cX9_gga 23 = .ok (.invokevirtual 216, 3) := by decide +kernel
theorem dX9_gga_26 : decode cX9_gga 26 = .ok (.iastore, 1) := by decide +kernel
theorem dX9_gga_27 : decode cX9_gga 27 = .ok (.aload_n 0, 1) := by decide +kernel
theorem dX9_gga_28 : decode cX9_gga 28 = .ok (.getfield 32, 3) := by decide +kernel
theorem dX9_gga_31 : decode cX9_gga 31 = .ok (.iconst 2, 1) := by decide +kernel
theorem dX9_gga_32 : decode cX9_gga 32 = .ok (.aload_n 0, 1) := by decide +kernel
theorem dX9_gga_33 : decode cX9_gga 33 = .ok (.iconst 4, 1) := by decide +kernel
theorem dX9_gga_34 : decode cX9_gga 34 = .ok (.iconst 5, 1) := by decide +kernel
theorem dX9_gga_35 : decode cX9_gga 35 = .ok (.sipush 180, 3) := by decide +kernel
theorem dX9_gga_38 : decode cX9_gga 38 = .ok (.ldc 220, 2) := by decide +kernel
theorem dX9_gga_40 : decode cX9_gga 40 = .ok (.invokevirtual 216, 3) := by decide +kernel
theorem dX9_gga_43 : decode cX9_gga 43 = .ok (.iastore, 1) := by decide +kernel
theorem dX9_gga_44 : decode cX9_gga 44 = .ok (.aload_n 0, 1) := by decide +kernel
theorem dX9_gga_45 : decode cX9_gga 45 = .ok (.getfield 32, 3) := by decide +kernel
theorem dX9_gga_48 : decode cX9_gga 48 = .ok (.iconst 3, 1) := by decide +kernel
theorem dX9_gga_49 : decode cX9_gga 49 = .ok (.aload_n 0, 1) := by decide +kernel
theorem dX9_gga_50 : decode cX9_gga 50 = .ok (.bipush 6, 2) := by decide +kernel
theorem dX9_gga_52 : decode cX9_gga 52 = .ok (.iconst 1, 1) := by decide +kernel
theorem dX9_gga_53 : decode cX9_gga 53 = .ok (.invokevirtual 180, 3) := by decide +kernel
theorem dX9_gga_56 : decode cX9_gga 56 = .ok (.iastore, 1) := by decide +kernel
theorem dX9_gga_57 : decode cX9_gga 57 = .ok (.aload_n 0, 1) := by decide +kernel
theorem dX9_gga_58 : decode cX9_gga 58 = .ok (.getfield 32, 3) := by decide +kernel
theorem dX9_gga_61 : decode cX9_gga 61 = .ok (.iconst 3, 1) := by decide +kernel
theorem dX9_gga_62 : decode cX9_gga 62 = .ok (.iaload, 1) := by decide +kernel
theorem dX9_gga_63 : decode cX9_gga 63 = .ok (.ldc 73, 2) := by decide +kernel
theorem dX9_gga_65 : decode cX9_gga 65 = .ok (.if_icmp .eq 14, 3) := by decide +kernel
theorem dX9_gga_68 : decode cX9_gga 68 = .ok (.aload_n 0, 1) := by decide +kernel
theorem dX9_gga_69 : decode cX9_gga 69 = .ok (.getfield 32, 3) := by decide +kernel
theorem dX9_gga_72 : decode cX9_gga 72 = .ok (.iconst 3, 1) := by decide +kernel
theorem dX9_gga_73 : decode cX9_gga 73 = .ok (.iaload, 1) := by decide +kernel
theorem dX9_gga_74 : decode cX9_gga 74 = .ok (.bipush 8, 2) := by decide +kernel
theorem dX9_gga_76 : decode cX9_gga 76 = .ok (.if_icmp .le 8, 3) := by decide +kernel
theorem dX9_gga_79 : decode cX9_gga 79 = .ok (.aload_n 0, 1) := by decide +kernel
theorem dX9_gga_80 : decode cX9_gga 80 = .ok (.iconst 0, 1) := by decide +kernel
theorem dX9_gga_81 : decode cX9_gga 81 = .ok (.putfield 149, 3) := by decide +kernel
theorem dX9_gga_84 : decode cX9_gga 84 = .ok (.aload_n 0, 1) := by decide +kernel
theorem dX9_gga_85 : decode cX9_gga 85 = .ok (.getfield 32, 3) := by decide +kernel
theorem dX9_gga_88 : decode cX9_gga 88 = .ok (.iconst 4, 1) := by decide +kernel
theorem dX9_gga_89 : decode cX9_gga 89 = .ok (.aload_n 0, 1) := by decide +kernel
theorem dX9_gga_90 : decode cX9_gga 90 = .ok (.bipush 7, 2) := by decide +kernel
theorem dX9_gga_92 : decode cX9_gga 92 = .ok (.invokevirtual 153, 3) := by decide +kernel
theorem dX9_gga_95 : decode cX9_gga 95 = .ok (.ifCond .ne 8, 3) := by decide +kernel
theorem dX9_gga_98 : decode cX9_gga 98 = .ok (.ldc 73, 2) := by decide +kernel
theorem dX9_gga_100 : decode cX9_gga 100 = .ok (.goto 49, 3) := by decide +kernel
theorem dX9_gga_103 : decode cX9_gga 103 = .ok (.aload_n 0, 1) := by decide +kernel
theorem dX9_gga_104 : decode cX9_gga 104 = .ok (.bipush 7, 2) := by decide +kernel
theorem dX9_gga_106 : decode cX9_gga 106 = .ok (.invokevirtual 153, 3) := by decide +kernel
theorem dX9_gga_109 : decode cX9_gga 109 = .ok (.iconst 2, 1) := by decide +kernel
theorem dX9_gga_110 : decode cX9_gga 110 = .ok (.if_icmp .gt 19, 3) := by decide +kernel
theorem dX9_gga_113 : decode cX9_gga 113 = .ok (.aload_n 0, 1) := by decide +kernel
theorem dX9_gga_114 : decode cX9_gga 114 = .ok (.bipush 7, 2) := by decide +kernel
theorem dX9_gga_116 : decode cX9_gga 116 = .ok (.iconst 0, 1) := by decide +kernel
theorem dX9_gga_117 : decode cX9_gga 117 = .ok (.invokevirtual 163, 3) := by decide +kernel
theorem dX9_gga_120 : decode cX9_gga 120 = .ok (.aload_n 0, 1) := by decide +kernel
theorem dX9_gga_121 : decode cX9_gga 121 = .ok (.bipush 7, 2) := by decide +kernel
theorem dX9_gga_123 : decode cX9_gga 123 = .ok (.invokevirtual 153, 3) := by decide +kernel
theorem dX9_gga_126 : decode cX9_gga 126 = .ok (.if_icmp .eq 10, 3) := by decide +kernel
theorem dX9_gga_129 : decode cX9_gga 129 = .ok (.aload_n 0, 1) := by decide +kernel
theorem dX9_gga_130 : decode cX9_gga 130 = .ok (.invokevirtual 166, 3) := by decide +kernel
theorem dX9_gga_133 : decode cX9_gga 133 = .ok (.goto 16, 3) := by decide +kernel
theorem dX9_gga_136 : decode cX9_gga 136 = .ok (.aload_n 0, 1) := by decide +kernel
theorem dX9_gga_137 : decode cX9_gga 137 = .ok (.bipush 7, 2) := by decide +kernel
theorem dX9_gga_139 : decode cX9_gga 139 = .ok (.iconst 0, 1) := by decide +kernel
theorem dX9_gga_140 : decode cX9_gga 140 = .ok (.aload_n 0, 1) := by decide +kernel
theorem dX9_gga_141 : decode cX9_gga 141 = .ok (.bipush 7, 2) := by decide +kernel
theorem dX9_gga_143 : decode cX9_gga 143 = .ok (.invokevirtual 153, 3) := by decide +kernel
theorem dX9_gga_146 : decode cX9_gga 146 = .ok (.invokevirtual 173, 3) := by decide +kernel
theorem dX9_gga_149 : decode cX9_gga 149 = .ok (.iastore, 1) := by decide +kernel
theorem dX9_gga_150 : decode cX9_gga 150 = .ok (.aload_n 0, 1) := by decide +kernel
theorem dX9_gga_151 : decode cX9_gga 151 = .ok (.getfield 32, 3) := by decide +kernel
theorem dX9_gga_154 : decode cX9_gga 154 = .ok (.iconst 5, 1) := by decide +kernel
theorem dX9_gga_155 : decode cX9_gga 155 = .ok (.aload_n 0, 1) := by decide +kernel
theorem dX9_gga_156 : decode cX9_gga 156 = .ok (.bipush 8, 2) := by decide +kernel
theorem dX9_gga_158 : decode cX9_gga 158 = .ok (.iconst 2, 1) := by decide +kernel
theorem dX9_gga_159 : decode cX9_gga 159 = .ok (.iconst 2, 1) := by decide +kernel
theorem dX9_gga_160 : decode cX9_gga 160 = .ok (.iconst 0, 1) := by decide +kernel
theorem dX9_gga_161 : decode cX9_gga 161 = .ok (.invokevirtual 222, 3) := by decide +kernel
theorem dX9_gga_164 : decode cX9_gga 164 = .ok (.iastore, 1) := by decide +kernel
theorem dX9_gga_165 : decode cX9_gga 165 = .ok (.aload_n 0, 1) := by decide +kernel
theorem dX9_gga_166 : decode cX9_gga 166 = .ok (.getfield 32, 3) := by decide +kernel
theorem dX9_gga_169 : decode cX9_gga 169 = .ok (.bipush 6, 2) := by decide +kernel
theorem dX9_gga_171 : decode cX9_gga 171 = .ok (.aload_n 0, 1) := by decide +kernel
theorem dX9_gga_172 : decode cX9_gga 172 = .ok (.aload_n 0, 1) := by decide +kernel
theorem dX9_gga_173 : decode cX9_gga 173 = .ok (.bipush 9, 2) := by decide +kernel
theorem dX9_gga_175 : decode cX9_gga 175 = .ok (.iconst 1, 1) := by decide +kernel
theorem dX9_gga_176 : decode cX9_gga 176 = .ok (.iconst 5, 1) := by decide +kernel
theorem dX9_gga_177 : decode cX9_gga 177 = .ok (.iconst 1, 1) := by decide +kernel
theorem dX9_gga_178 : decode cX9_gga 178 = .ok (.invokevirtual 222, 3) := by decide +kernel
theorem dX9_gga_181 : decode cX9_gga 181 = .ok (.bipush 10, 2) := by decide +kernel
theorem dX9_gga_183 : decode cX9_gga 183 = .ok (.ldc 226, 2) := by decide +kernel
theorem dX9_gga_185 : decode cX9_gga 185 = .ok (.invokevirtual 228, 3) := by decide +kernel
theorem dX9_gga_188 : decode cX9_gga 188 = .ok (.iastore, 1) := by decide +kernel
theorem dX9_gga_189 : decode cX9_gga 189 = .ok (.aload_n 0, 1) := by decide +kernel
theorem dX9_gga_190 : decode cX9_gga 190 = .ok (.getfield 32, 3) := by decide +kernel
theorem dX9_gga_193 : decode cX9_gga 193 = .ok (.bipush 7, 2) := by decide +kernel
theorem dX9_gga_195 : decode cX9_gga 195 = .ok (.aload_n 0, 1) := by decide +kernel
theorem dX9_gga_196 : decode cX9_gga 196 = .ok (.aload_n 0, 1) := by decide +kernel
theorem dX9_gga_197 : decode cX9_gga 197 = .ok (.bipush 11, 2) := by decide +kernel
theorem dX9_gga_199 : decode cX9_gga 199 = .ok (.iconst 1, 1) := by decide +kernel
theorem dX9_gga_200 : decode cX9_gga 200 = .ok (.iconst 4, 1) := by decide +kernel
theorem dX9_gga_201 : decode cX9_gga 201 = .ok (.iconst 1, 1) := by decide +kernel
theorem dX9_gga_202 : decode cX9_gga 202 = .ok (.invokevirtual 222, 3) := by decide +kernel
theorem dX9_gga_205 : decode cX9_gga 205 = .ok (.bipush 12, 2) := by decide +kernel
theorem dX9_gga_207 : decode cX9_gga 207 = .ok (.ldc 226, 2) := by decide +kernel
theorem dX9_gga_209 : decode cX9_gga 209 = .ok (.invokevirtual 228, 3) := by decide +kernel
theorem dX9_gga_212 : decode cX9_gga 212 = .ok (.iastore, 1) := by decide +kernel
theorem dX9_gga_213 : decode cX9_gga 213 = .ok (.aload_n 0, 1) := by decide +kernel
theorem dX9_gga_214 : decode cX9_gga 214 = .ok (.getfield 32, 3) := by decide +kernel
theorem dX9_gga_217 : decode cX9_gga 217 = .ok (.bipush 8, 2) := by decide +kernel
theorem dX9_gga_219 : decode cX9_gga 219 = .ok (.aload_n 0, 1) := by decide +kernel
theorem dX9_gga_220 : decode cX9_gga 220 = .ok (.bipush 13, 2) := by decide +kernel
theorem dX9_gga_222 : decode cX9_gga 222 = .ok (.iconst 1, 1) := by decide +kernel
theorem dX9_gga_223 : decode cX9_gga 223 = .ok (.iconst 4, 1) := by decide +kernel
theorem dX9_gga_224 : decode cX9_gga 224 = .ok (.iconst 0, 1) := by decide +kernel
theorem dX9_gga_225 : decode cX9_gga 225 = .ok (.invokevirtual 222, 3) := by decide +kernel
theorem dX9_gga_228 : decode cX9_gga 228 = .ok (.iastore, 1) := by decide +kernel
theorem dX9_gga_229 : decode cX9_gga 229 = .ok (.aload_n 0, 1) := by decide +kernel
theorem dX9_gga_230 : decode cX9_gga 230 = .ok (.getfield 32, 3) := by decide +kernel
theorem dX9_gga_233 : decode cX9_gga 233 = .ok (.bipush 9, 2) := by decide +kernel
theorem dX9_gga_235 : decode cX9_gga 235 = .ok (.aload_n 0, 1) := by decide +kernel
theorem dX9_gga_236 : decode cX9_gga 236 = .ok (.bipush 14, 2) := by decide +kernel
theorem dX9_gga_238 : decode cX9_gga 238 = .ok (.iconst 4, 1) := by decide +kernel
theorem dX9_gga_239 : decode cX9_gga 239 = .ok (.invokevirtual 180, 3) := by decide +kernel
theorem dX9_gga_242 : decode cX9_gga 242 = .ok (.iastore, 1) := by decide +kernel
theorem dX9_gga_243 : decode cX9_gga 243 = .ok (.return_, 1) := by decide +kernel
theorem dX9_rmc_0 : decode cX9_rmc 0 = .ok (.aload_n 0, 1) := by decide +kernel
theorem dX9_rmc_1 : decode cX9_rmc 1 = .ok (.getfield 32, 3) := by decide +kernel
theorem dX9_rmc_4 : decode cX9_rmc 4 = .ok (.iconst 0, 1) := by decide +kernel
theorem dX9_rmc_5 : decode cX9_rmc 5 = .ok (.aload_n 0, 1) := by decide +kernel
theorem dX9_rmc_6 : decode cX9_rmc 6 = .ok (.iconst 1, 1) := by decide +kernel
theorem dX9_rmc_7 : decode cX9_rmc 7 = .ok (.invokevirtual 211, 3) := by decide +kernel
theorem dX9_rmc_10 : decode cX9_rmc 10 = .ok (.iastore, 1) := by decide +kernel
theorem dX9_rmc_11 : decode cX9_rmc 11 = .ok (.aload_n 0, 1) := by decide +kernel
theorem dX9_rmc_12 : decode cX9_rmc 12 = .ok (.iconst 2, 1) := by decide +kernel
theorem dX9_rmc_13 : decode cX9_rmc 13 = .ok (.ldc 231, 2) := by decide +kernel
theorem dX9_rmc_15 : decode cX9_rmc 15 = .ok (.invokevirtual 190, 3) := by decide +kernel
theorem dX9_rmc_18 : decode cX9_rmc 18 = .ok (.istore_n 1, 1) := by decide +kernel
theorem dX9_rmc_19 : decode cX9_rmc 19 = .ok (.iload_n 1, 1) := by decide +kernel
theorem dX9_rmc_20 : decode cX9_rmc 20 = .ok (.ldc 73, 2) := by decide +kernel
theorem dX9_rmc_22 : decode cX9_rmc 22 = .ok (.if_icmp .ne 8, 3) := by decide +kernel
theorem dX9_rmc_25 : decode cX9_rmc 25 = .ok (.aload_n 0, 1) := by decide +kernel
theorem dX9_rmc_26 : decode cX9_rmc 26 = .ok (.iconst 0, 1) := by decide +kernel
theorem dX9_rmc_27 : decode cX9_rmc 27 = .ok (.putfield 149, 3) := by decide +kernel
theorem dX9_rmc_30 : decode cX9_rmc 30 = .ok (.aload_n 0, 1) := by decide +kernel
theorem dX9_rmc_31 : decode cX9_rmc 31 = .ok (.getfield 32, 3) := by decide +kernel
theorem dX9_rmc_34 : decode cX9_rmc 34 = .ok (.bipush 10, 2) := by decide +kernel
theorem dX9_rmc_36 : decode cX9_rmc 36 = .ok (.iload_n 1, 1) := by decide +kernel
theorem dX9_rmc_37 : decode cX9_rmc 37 = .ok (.bipush 65, 2) := by decide +kernel
theorem dX9_rmc_39 : decode cX9_rmc 39 = .ok (.if_icmp .ne 7, 3) := by decide +kernel
theorem dX9_rmc_42 : decode cX9_rmc 42 = .ok (.iconst 1, 1) := by decide +kernel
theorem dX9_rmc_43 : decode cX9_rmc 43 = .ok (.goto 4, 3) := by decide +kernel
theorem dX9_rmc_46 : decode cX9_rmc 46 = .ok (.iconst 0, 1) := by decide +kernel
theorem dX9_rmc_47 : decode cX9_rmc 47 = .ok (.iastore, 1) := by decide +kernel
theorem dX9_rmc_48 : decode cX9_rmc 48 = .ok (.aload_n 0, 1) := by decide +kernel
theorem dX9_rmc_49 : decode cX9_rmc 49 = .ok (.getfield 32, 3) := by decide +kernel
theorem dX9_rmc_52 : decode cX9_rmc 52 = .ok (.iconst 1, 1) := by decide +kernel
theorem dX9_rmc_53 : decode cX9_rmc 53 = .ok (.aload_n 0, 1) := by decide +kernel
theorem dX9_rmc_54 : decode cX9_rmc 54 = .ok (.iconst 3, 1) := by decide +kernel
theorem dX9_rmc_55 : decode cX9_rmc 55 = .ok (.iconst 4, 1) := by decide +kernel
theorem dX9_rmc_56 : decode cX9_rmc 56 = .ok (.bipush 90, 2) := by decide +kernel
theorem dX9_rmc_58 : decode cX9_rmc 58 = .ok (.ldc 214, 2) := by decide +kernel
theorem dX9_rmc_60 : decode cX9_rmc 60 = .ok (.invokevirtual 216, 3) := by decide +kernel
theorem dX9_rmc_63 : decode cX9_rmc 63 = .ok (.iastore, 1) := by decide +kernel
theorem dX9_rmc_64 : decode cX9_rmc 64 = .ok (.aload_n 0, 1) := by decide +kernel
theorem dX9_rmc_65 : decode cX9_rmc 65 = .ok (.getfield 32, 3) := by decide +kernel
theorem dX9_rmc_68 : decode cX9_rmc 68 = .ok (.iconst 2, 1) := by decide +kernel
theorem dX9_rmc_69 : decode cX9_rmc 69 = .ok (.aload_n 0, 1) := by decide +kernel
theorem dX9_rmc_70 : decode cX9_rmc 70 = .ok (.iconst 5, 1) := by decide +kernel
theorem dX9_rmc_71 : decode cX9_rmc 71 = .ok (.iconst 5, 1) := by decide +kernel
theorem dX9_rmc_72 : decode cX9_rmc 72 = .ok (.sipush 180, 3) := by decide +kernel
theorem dX9_rmc_75 : decode cX9_rmc 75 = .ok (.ldc 220, 2) := by decide +kernel
theorem dX9_rmc_77 : decode cX9_rmc 77 = .ok (.invokevirtual 216, 3) := by decide +kernel
theorem dX9_rmc_80 : decode cX9_rmc 80 = .ok (.iastore, 1) := by decide +kernel
theorem dX9_rmc_81 : decode cX9_rmc 81 = .ok (.aload_n 0, 1) := by decide +kernel
theorem dX9_rmc_82 : decode cX9_rmc 82 = .ok (.getfield 32, 3) := by decide +kernel
theorem dX9_rmc_85 : decode cX9_rmc 85 = .ok (.bipush 11, 2) := by decide +kernel
theorem dX9_rmc_87 : decode cX9_rmc 87 = .ok (.aload_n 0, 1) := by decide +kernel
theorem dX9_rmc_88 : decode cX9_rmc 88 = .ok (.bipush 7, 2) := by decide +kernel
theorem dX9_rmc_90 : decode cX9_rmc 90 = .ok (.iconst 2, 1) := by decide +kernel
theorem dX9_rmc_91 : decode cX9_rmc 91 = .ok (.iconst 4, 1) := by decide +kernel
theorem dX9_rmc_92 : decode cX9_rmc 92 = .ok (.iconst 0, 1) := by decide +kernel
theorem dX9_rmc_93 : decode cX9_rmc 93 = .ok (.invokevirtual 222, 3) := by decide +kernel
theorem dX9_rmc_96 : decode cX9_rmc 96 = .ok (.iastore, 1) := by decide +kernel
theorem dX9_rmc_97 : decode cX9_rmc 97 = .ok (.aload_n 0, 1) := by decide +kernel
theorem dX9_rmc_98 : decode cX9_rmc 98 = .ok (.getfield 32, 3) := by decide +kernel
theorem dX9_rmc_101 : decode cX9_rmc 101 = .ok (.bipush 12, 2) := by decide +kernel
theorem dX9_rmc_103 : decode cX9_rmc 103 = .ok (.aload_n 0, 1) := by decide +kernel
theorem dX9_rmc_104 : decode cX9_rmc 104 = .ok (.aload_n 0, 1) := by decide +kernel
theorem dX9_rmc_105 : decode cX9_rmc 105 = .ok (.bipush 8, 2) := by decide +kernel
theorem dX9_rmc_107 : decode cX9_rmc 107 = .ok (.iconst 2, 1) := by decide +kernel
theorem dX9_rmc_108 : decode cX9_rmc 108 = .ok (.iconst 3, 1) := by decide +kernel
theorem dX9_rmc_109 : decode cX9_rmc 109 = .ok (.iconst 0, 1) := by decide +kernel
theorem dX9_rmc_110 : decode cX9_rmc 110 = .ok (.invokevirtual 222, 3) := by decide +kernel
theorem dX9_rmc_113 : decode cX9_rmc 113 = .ok (.ldc 233, 2) := by decide +kernel
theorem dX9_rmc_115 : decode cX9_rmc 115 = .ok (.invokevirtual 234, 3) := by decide +kernel
theorem dX9_rmc_118 : decode cX9_rmc 118 = .ok (.iastore, 1) := by decide +kernel
theorem dX9_rmc_119 : decode cX9_rmc 119 = .ok (.aload_n 0, 1) := by decide +kernel
theorem dX9_rmc_120 : decode cX9_rmc 120 = .ok (.getfield 32, 3) := by decide +kernel
theorem dX9_rmc_123 : decode cX9_rmc 123 = .ok (.bipush 13, 2) := by decide +kernel
theorem dX9_rmc_125 : decode cX9_rmc 125 = .ok (.aload_n 0, 1) := by decide +kernel
theorem dX9_rmc_126 : decode cX9_rmc 126 = .ok (.bipush 9, 2) := by decide +kernel
theorem dX9_rmc_128 : decode cX9_rmc 128 = .ok (.invokevirtual 237, 3) := by decide +kernel
theorem dX9_rmc_131 : decode cX9_rmc 131 = .ok (.iastore, 1) := by decide +kernel
theorem dX9_rmc_132 : decode cX9_rmc 132 = .ok (.aload_n 0, 1) := by decide +kernel
theorem dX9_rmc_133 : decode cX9_rmc 133 = .ok (.getfield 32, 3) := by decide +kernel
theorem dX9_rmc_136 : decode cX9_rmc 136 = .ok (.bipush 14, 2) := by decide +kernel
theorem dX9_rmc_138 : decode cX9_rmc 138 = .ok (.aload_n 0, 1) := by decide +kernel
theorem dX9_rmc_139 : decode cX9_rmc 139 = .ok (.aload_n 0, 1) := by decide +kernel
theorem dX9_rmc_140 : decode cX9_rmc 140 = .ok (.aload_n 0, 1) := by decide +kernel
theorem dX9_rmc_141 : decode cX9_rmc 141 = .ok (.bipush 10, 2) := by decide +kernel
theorem dX9_rmc_143 : decode cX9_rmc 143 = .ok (.iconst 1, 1) := by decide +kernel
theorem dX9_rmc_144 : decode cX9_rmc 144 = .ok (.iconst 3, 1) := by decide +kernel
theorem dX9_rmc_145 : decode cX9_rmc 145 = .ok (.iconst 0, 1) := by decide +kernel
theorem dX9_rmc_146 : decode cX9_rmc 146 = .ok (.invokevirtual 222, 3) := by decide +kernel
theorem dX9_rmc_149 : decode cX9_rmc 149 = .ok (.sipush 1800, 3) := by decide +kernel
theorem dX9_rmc_152 : decode cX9_rmc 152 = .ok (.invokevirtual 234, 3) := by decide +kernel
theorem dX9_rmc_155 : decode cX9_rmc 155 = .ok (.bipush 11, 2) := by decide +kernel
theorem dX9_rmc_157 : decode cX9_rmc 157 = .ok (.ldc 220, 2) := by decide +kernel
theorem dX9_rmc_159 : decode cX9_rmc 159 = .ok (.invokevirtual 195, 3) := by decide +kernel
theorem dX9_rmc_162 : decode cX9_rmc 162 = .ok (.iastore, 1) := by decide +kernel
theorem dX9_rmc_163 : decode cX9_rmc 163 = .ok (.aload_n 0, 1) := by decide +kernel
theorem dX9_rmc_164 : decode cX9_rmc 164 = .ok (.getfield 32, 3) := by decide +kernel
theorem dX9_rmc_167 : decode cX9_rmc 167 = .ok (.bipush 17, 2) := by decide +kernel
theorem dX9_rmc_169 : decode cX9_rmc 169 = .ok (.aload_n 0, 1) := by decide +kernel
theorem dX9_rmc_170 : decode cX9_rmc 170 = .ok (.getfield 113, 3) := by decide +kernel
theorem dX9_rmc_173 : decode cX9_rmc 173 = .ok (.bipush 13, 2) := by decide +kernel
theorem dX9_rmc_175 : decode cX9_rmc 175 = .ok (.if_icmp .ne 14, 3) := by decide +kernel
theorem dX9_rmc_178 : decode cX9_rmc 178 = .ok (.aload_n 0, 1) := by decide +kernel
theorem dX9_rmc_179 : decode cX9_rmc 179 = .ok (.bipush 12, 2) := by decide +kernel
theorem dX9_rmc_181 : decode cX9_rmc 181 = .ok (.ldc 240, 2) := by decide +kernel
theorem dX9_rmc_183 : decode cX9_rmc 183 = .ok (.invokevirtual 190, 3) := by decide +kernel
theorem dX9_rmc_186 : decode cX9_rmc 186 = .ok (.goto 5, 3) := by decide +kernel
theorem dX9_rmc_189 : decode cX9_rmc 189 = .ok (.ldc 73, 2) := by decide +kernel
theorem dX9_rmc_191 : decode cX9_rmc 191 = .ok (.iastore, 1) := by decide +kernel
theorem dX9_rmc_192 : decode cX9_rmc 192 = .ok (.return_, 1) := by decide +kernel
theorem dX9_vtg_0 : decode cX9_vtg 0 = .ok (.aload_n 0, 1) := by decide +kernel
theorem dX9_vtg_1 : decode cX9_vtg 1 = .ok (.getfield 32, 3) := by decide +kernel
theorem dX9_vtg_4 : decode cX9_vtg 4 = .ok (.bipush 12, 2) := by decide +kernel
theorem dX9_vtg_6 : decode cX9_vtg 6 = .ok (.aload_n 0, 1) := by decide +kernel
theorem dX9_vtg_7 : decode cX9_vtg 7 = .ok (.aload_n 0, 1) := by decide +kernel
theorem dX9_vtg_8 : decode cX9_vtg 8 = .ok (.aload_n 0, 1) := by decide +kernel
theorem dX9_vtg_9 : decode cX9_vtg 9 = .ok (.iconst 1, 1) := by decide +kernel
theorem dX9_vtg_10 : decode cX9_vtg 10 = .ok (.iconst 2, 1) := by decide +kernel
theorem dX9_vtg_11 : decode cX9_vtg 11 = .ok (.iconst 3, 1) := by decide +kernel
theorem dX9_vtg_12 : decode cX9_vtg 12 = .ok (.iconst 0, 1) := by decide +kernel
theorem dX9_vtg_13 : decode cX9_vtg 13 = .ok (.invokevirtual 222, 3) := by decide +kernel
theorem dX9_vtg_16 : decode cX9_vtg 16 = .ok (.ldc 233, 2) := by decide +kernel
theorem dX9_vtg_18 : decode cX9_vtg 18 = .ok (.invokevirtual 234, 3) := by decide +kernel
theorem dX9_vtg_21 : decode cX9_vtg 21 = .ok (.iconst 2, 1) := by decide +kernel
theorem dX9_vtg_22 : decode cX9_vtg 22 = .ok (.ldc 242, 2) := by decide +kernel
theorem dX9_vtg_24 : decode cX9_vtg 24 = .ok (.invokevirtual 228, 3) := by decide +kernel
theorem dX9_vtg_27 : decode cX9_vtg 27 = .ok (.iastore, 1) := by decide +kernel
theorem dX9_vtg_28 : decode cX9_vtg 28 = .ok (.aload_n 0, 1) := by decide +kernel
theorem dX9_vtg_29 : decode cX9_vtg 29 = .ok (.getfield 32, 3) := by decide +kernel
theorem dX9_vtg_32 : decode cX9_vtg 32 = .ok (.bipush 15, 2) := by decide +kernel
theorem dX9_vtg_34 : decode cX9_vtg 34 = .ok (.aload_n 0, 1) := by decide +kernel
theorem dX9_vtg_35 : decode cX9_vtg 35 = .ok (.aload_n 0, 1) := by decide +kernel
theorem dX9_vtg_36 : decode cX9_vtg 36 = .ok (.aload_n 0, 1) := by decide +kernel
theorem dX9_vtg_37 : decode cX9_vtg 37 = .ok (.iconst 3, 1) := by decide +kernel
theorem dX9_vtg_38 : decode cX9_vtg 38 = .ok (.iconst 2, 1) := by decide +kernel
theorem dX9_vtg_39 : decode cX9_vtg 39 = .ok (.iconst 3, 1) := by decide +kernel
theorem dX9_vtg_40 : decode cX9_vtg 40 = .ok (.iconst 0, 1) := by decide +kernel
theorem dX9_vtg_41 : decode cX9_vtg 41 = .ok (.invokevirtual 222, 3) := by decide +kernel
theorem dX9_vtg_44 : decode cX9_vtg 44 = .ok (.ldc 233, 2) := by decide +kernel
theorem dX9_vtg_46 : decode cX9_vtg 46 = .ok (.invokevirtual 234, 3) := by decide +kernel
theorem dX9_vtg_49 : decode cX9_vtg 49 = .ok (.iconst 4, 1) := by decide +kernel
theorem dX9_vtg_50 : decode cX9_vtg 50 = .ok (.ldc 226, 2) := by decide +kernel
theorem dX9_vtg_52 : decode cX9_vtg 52 = .ok (.invokevirtual 228, 3) := by decide +kernel
theorem dX9_vtg_55 : decode cX9_vtg 55 = .ok (.iastore, 1) := by decide +kernel
theorem dX9_vtg_56 : decode cX9_vtg 56 = .ok (.aload_n 0, 1) := by decide +kernel
theorem dX9_vtg_57 : decode cX9_vtg 57 = .ok (.getfield 32, 3) := by decide +kernel
theorem dX9_vtg_60 : decode cX9_vtg 60 = .ok (.bipush 11, 2) := by decide +kernel
theorem dX9_vtg_62 : decode cX9_vtg 62 = .ok (.aload_n 0, 1) := by decide +kernel
theorem dX9_vtg_63 : decode cX9_vtg 63 = .ok (.aload_n 0, 1) := by decide +kernel
theorem dX9_vtg_64 : decode cX9_vtg 64 = .ok (.iconst 5, 1) := by decide +kernel
theorem dX9_vtg_65 : decode cX9_vtg 65 = .ok (.iconst 2, 1) := by decide +kernel
theorem dX9_vtg_66 : decode cX9_vtg 66 = .ok (.iconst 4, 1) := by decide +kernel
theorem dX9_vtg_67 : decode cX9_vtg 67 = .ok (.iconst 0, 1) := by decide +kernel
theorem dX9_vtg_68 : decode cX9_vtg 68 = .ok (.invokevirtual 222, 3) := by decide +kernel
theorem dX9_vtg_71 : decode cX9_vtg 71 = .ok (.bipush 6, 2) := by decide +kernel
theorem dX9_vtg_73 : decode cX9_vtg 73 = .ok (.ldc 244, 2) := by decide +kernel
theorem dX9_vtg_75 : decode cX9_vtg 75 = .ok (.invokevirtual 228, 3) := by decide +kernel
theorem dX9_vtg_78 : decode cX9_vtg 78 = .ok (.iastore, 1) := by decide +kernel
theorem dX9_vtg_79 : decode cX9_vtg 79 = .ok (.aload_n 0, 1) := by decide +kernel
theorem dX9_vtg_80 : decode cX9_vtg 80 = .ok (.getfield 32, 3) := by decide +kernel
theorem dX9_vtg_83 : decode cX9_vtg 83 = .ok (.bipush 16, 2) := by decide +kernel
theorem dX9_vtg_85 : decode cX9_vtg 85 = .ok (.aload_n 0, 1) := by decide +kernel
theorem dX9_vtg_86 : decode cX9_vtg 86 = .ok (.aload_n 0, 1) := by decide +kernel
theorem dX9_vtg_87 : decode cX9_vtg 87 = .ok (.bipush 7, 2) := by decide +kernel
theorem dX9_vtg_89 : decode cX9_vtg 89 = .ok (.iconst 2, 1) := by decide +kernel
theorem dX9_vtg_90 : decode cX9_vtg 90 = .ok (.iconst 4, 1) := by decide +kernel
theorem dX9_vtg_91 : decode cX9_vtg 91 = .ok (.iconst 0, 1) := by decide +kernel
theorem dX9_vtg_92 : decode cX9_vtg 92 = .ok (.invokevirtual 222, 3) := by decide +kernel
theorem dX9_vtg_95 : decode cX9_vtg 95 = .ok (.bipush 8, 2) := by decide +kernel
theorem dX9_vtg_97 : decode cX9_vtg 97 = .ok (.ldc 246, 2) := by decide +kernel
theorem dX9_vtg_99 : decode cX9_vtg 99 = .ok (.invokevirtual 228, 3) := by decide +kernel
theorem dX9_vtg_102 : decode cX9_vtg 102 = .ok (.iastore, 1) := by decide +kernel
theorem dX9_vtg_103 : decode cX9_vtg 103 = .ok (.aload_n 0, 1) := by decide +kernel
theorem dX9_vtg_104 : decode cX9_vtg 104 = .ok (.getfield 32, 3) := by decide +kernel
theorem dX9_vtg_107 : decode cX9_vtg 107 = .ok (.bipush 17, 2) := by decide +kernel
theorem dX9_vtg_109 : decode cX9_vtg 109 = .ok (.aload_n 0, 1) := by decide +kernel
theorem dX9_vtg_110 : decode cX9_vtg 110 = .ok (.getfield 113, 3) := by decide +kernel
theorem dX9_vtg_113 : decode cX9_vtg 113 = .ok (.bipush 10, 2) := by decide +kernel
theorem dX9_vtg_115 : decode cX9_vtg 115 = .ok (.if_icmp .ne 14, 3) := by decide +kernel
theorem dX9_vtg_118 : decode cX9_vtg 118 = .ok (.aload_n 0, 1) := by decide +kernel
theorem dX9_vtg_119 : decode cX9_vtg 119 = .ok (.bipush 9, 2) := by decide +kernel
theorem dX9_vtg_121 : decode cX9_vtg 121 = .ok (.ldc 240, 2) := by decide +kernel
theorem dX9_vtg_123 : decode cX9_vtg 123 = .ok (.invokevirtual 190, 3) := by decide +kernel
theorem dX9_vtg_126 : decode cX9_vtg 126 = .ok (.goto 5, 3) := by decide +kernel
theorem dX9_vtg_129 : decode cX9_vtg 129 = .ok (.ldc 73, 2) := by decide +kernel
theorem dX9_vtg_131 : decode cX9_vtg 131 = .ok (.iastore, 1) := by decide +kernel
theorem dX9_vtg_132 : decode cX9_vtg 132 = .ok (.return_, 1) := by decide +kernel
theorem dX9_part_0 : decode cX9_part 0 = .ok (.aload_n 0, 1) := by decide +kernel
theorem dX9_part_1 : decode cX9_part 1 = .ok (.aload_n 0, 1) := by decide +kernel
theorem dX9_part_2 : decode cX9_part 2 = .ok (.iconst 1, 1) := by decide +kernel
theorem dX9_part_3 : decode cX9_part 3 = .ok (.iconst 1, 1) := by decide +kernel
theorem dX9_part_4 : decode cX9_part 4 = .ok (.invokevirtual 180, 3) := by decide +kernel
theorem dX9_part_7 : decode cX9_part 7 = .ok (.putfield 248, 3) := by decide +kernel
theorem dX9_part_10 : decode cX9_part 10 = .ok (.aload_n 0, 1) := by decide +kernel
theorem dX9_part_11 : decode cX9_part 11 = .ok (.aload_n 0, 1) := by decide +kernel
theorem dX9_part_12 : decode cX9_part 12 = .ok (.iconst 2, 1) := by decide +kernel
theorem dX9_part_13 : decode cX9_part 13 = .ok (.iconst 1, 1) := by decide +kernel
theorem dX9_part_14 : decode cX9_part 14 = .ok (.invokevirtual 180, 3) := by decide +kernel
theorem dX9_part_17 : decode cX9_part 17 = .ok (.putfield 251, 3) := by decide +kernel
theorem dX9_part_20 : decode cX9_part 20 = .ok (.aload_n 0, 1) := by decide +kernel
theorem dX9_part_21 : decode cX9_part 21 = .ok (.iconst 3, 1) := by decide +kernel
theorem dX9_part_22 : decode cX9_part 22 = .ok (.iconst 1, 1) := by decide +kernel
theorem dX9_part_23 : decode cX9_part 23 = .ok (.invokevirtual 180, 3) := by decide +kernel
theorem dX9_part_26 : decode cX9_part 26 = .ok (.istore_n 1, 1) := by decide +kernel
theorem dX9_part_27 : decode cX9_part 27 = .ok (.aload_n 0, 1) := by decide +kernel
theorem dX9_part_28 : decode cX9_part 28 = .ok (.iload_n 1, 1) := by decide +kernel
theorem dX9_part_29 : decode cX9_part 29 = .ok (.ldc 73, 2) := by decide +kernel
theorem dX9_part_31 : decode cX9_part 31 = .ok (.if_icmp .ne 8, 3) := by decide +kernel
theorem dX9_part_34 : decode cX9_part 34 = .ok (.bipush 10, 2) := by decide +kernel
theorem dX9_part_36 : decode cX9_part 36 = .ok (.goto 4, 3) := by decide +kernel
theorem dX9_part_39 : decode cX9_part 39 = .ok (.iload_n 1, 1) := by decide +kernel
theorem dX9_part_40 : decode cX9_part 40 = .ok (.putfield 254, 3) := by decide +kernel
theorem dX9_part_43 : decode cX9_part 43 = .ok (.aload_n 0, 1) := by decide +kernel
theorem dX9_part_44 : decode cX9_part 44 = .ok (.iconst 4, 1) := by decide +kernel
theorem dX9_part_45 : decode cX9_part 45 = .ok (.ldc_w 257, 3) := by decide +kernel
theorem dX9_part_48 : decode cX9_part 48 = .ok (.invokevirtual 190, 3) := by decide +kernel
theorem dX9_part_51 : decode cX9_part 51 = .ok (.istore_n 2, 1) := by decide +kernel
theorem dX9_part_52 : decode cX9_part 52 = .ok (.aload_n 0, 1) := by decide +kernel
theorem dX9_part_53 : decode cX9_part 53 = .ok (.aload_n 0, 1) := by decide +kernel
theorem dX9_part_54 : decode cX9_part 54 = .ok (.bipush 6, 2) := by decide +kernel
theorem dX9_part_56 : decode cX9_part 56 = .ok (.iconst 1, 1) := by decide +kernel
theorem dX9_part_57 : decode cX9_part 57 = .ok (.invokevirtual 180, 3) := by decide +kernel
theorem dX9_part_60 : decode cX9_part 60 = .ok (.putfield 259, 3) := by decide +kernel
theorem dX9_part_63 : decode cX9_part 63 = .ok (.aload_n 0, 1) := by decide +kernel
theorem dX9_part_64 : decode cX9_part 64 = .ok (.getfield 248, 3) := by decide +kernel
theorem dX9_part_67 : decode cX9_part 67 = .ok (.ldc 73, 2) := by decide +kernel
theorem dX9_part_69 : decode cX9_part 69 = .ok (.if_icmp .eq 70, 3) := by decide +kernel
theorem dX9_part_72 : decode cX9_part 72 = .ok (.aload_n 0, 1) := by decide +kernel
theorem dX9_part_73 : decode cX9_part 73 = .ok (.getfield 251, 3) := by decide +kernel
theorem dX9_part_76 : decode cX9_part 76 = .ok (.ldc 73, 2) := by decide +kernel
theorem dX9_part_78 : decode cX9_part 78 = .ok (.if_icmp .eq 61, 3) := by decide +kernel
theorem dX9_part_81 : decode cX9_part 81 = .ok (.aload_n 0, 1) := by decide +kernel
theorem dX9_part_82 : decode cX9_part 82 = .ok (.getfield 259, 3) := by decide +kernel
theorem dX9_part_85 : decode cX9_part 85 = .ok (.ldc 73, 2) := by decide +kernel
theorem dX9_part_87 : decode cX9_part 87 = .ok (.if_icmp .eq 52, 3) := by decide +kernel
theorem dX9_part_90 : decode cX9_part 90 = .ok (.aload_n 0, 1) := by decide +kernel
theorem dX9_part_91 : decode cX9_part 91 = .ok (.getfield 248, 3) := by decide +kernel
theorem dX9_part_94 : decode cX9_part 94 = .ok (.iconst 1, 1) := by decide +kernel
theorem dX9_part_95 : decode cX9_part 95 = .ok (.if_icmp .lt 44, 3) := by decide +kernel
theorem dX9_part_98 : decode cX9_part 98 = .ok (.aload_n 0, 1) := by decide +kernel
theorem dX9_part_99 : decode cX9_part 99 = .ok (.getfield 251, 3) := by decide +kernel
theorem dX9_part_102 : decode cX9_part 102 = .ok (.i2l, 1) := by decide +kernel
theorem dX9_part_103 : decode cX9_part 103 = .ok (.lconst 1, 1) := by decide +kernel
theorem dX9_part_104 : decode cX9_part 104 = .ok (.aload_n 0, 1) := by decide +kernel
theorem dX9_part_105 : decode cX9_part 105 = .ok (.getfield 248, 3) := by decide +kernel
theorem dX9_part_108 : decode cX9_part 108 = .ok (.i2l, 1) := by decide +kernel
theorem dX9_part_109 : decode cX9_part 109 = .ok (.invokestatic 74, 3) := by decide +kernel
theorem dX9_part_112 : decode cX9_part 112 = .ok (.ifCond .eq 27, 3) := by decide +kernel
theorem dX9_part_115 : decode cX9_part 115 = .ok (.aload_n 0, 1) := by decide +kernel
theorem dX9_part_116 : decode cX9_part 116 = .ok (.getfield 259, 3) := by decide +kernel
theorem dX9_part_119 : decode cX9_part 119 = .ok (.iconst 5, 1) := by decide +kernel
theorem dX9_part_120 : decode cX9_part 120 = .ok (.if_icmp .gt 19, 3) := by decide +kernel
theorem dX9_part_123 : decode cX9_part 123 = .ok (.aload_n 0, 1) := by decide +kernel
theorem dX9_part_124 : decode cX9_part 124 = .ok (.iconst 5, 1) := by decide +kernel
theorem dX9_part_125 : decode cX9_part 125 = .ok (.invokevirtual 153, 3) := by decide +kernel
theorem dX9_part_128 : decode cX9_part 128 = .ok (.i2l, 1) := by decide +kernel
theorem dX9_part_129 : decode cX9_part 129 = .ok (.lconst 1, 1) := by decide +kernel
theorem dX9_part_130 : decode cX9_part 130 = .ok (.ldc2_w 262, 3) := by decide +kernel
theorem dX9_part_133 : decode cX9_part 133 = .ok (.invokestatic 74, 3) := by decide +kernel
theorem dX9_part_136 : decode cX9_part 136 = .ok (.ifCond .ne 8, 3) := by decide +kernel
theorem dX9_part_139 : decode cX9_part 139 = .ok (.aload_n 0, 1) := by decide +kernel
theorem dX9_part_140 : decode cX9_part 140 = .ok (.iconst 0, 1) := by decide +kernel
theorem dX9_part_141 : decode cX9_part 141 = .ok (.putfield 149, 3) := by decide +kernel
theorem dX9_part_144 : decode cX9_part 144 = .ok (.iconst 0, 1) := by decide +kernel
theorem dX9_part_145 : decode cX9_part 145 = .ok (.istore_n 3, 1) := by decide +kernel
theorem dX9_part_146 : decode cX9_part 146 = .ok (.iload_n 3, 1) := by decide +kernel
theorem dX9_part_147 : decode cX9_part 147 = .ok (.aload_n 0, 1) := by decide +kernel
theorem dX9_part_148 : decode cX9_part 148 = .ok (.iconst 5, 1) := by decide +kernel
theorem dX9_part_149 : decode cX9_part 149 = .ok (.invokevirtual 153, 3) := by decide +kernel
theorem dX9_part_152 : decode cX9_part 152 = .ok (.if_icmp .ge 52, 3) := by decide +kernel
theorem dX9_part_155 : decode cX9_part 155 = .ok (.aload_n 0, 1) := by decide +kernel
theorem dX9_part_156 : decode cX9_part 156 = .ok (.iconst 5, 1) := by decide +kernel
theorem dX9_part_157 : decode cX9_part 157 = .ok (.iload_n 3, 1) := by decide +kernel
theorem dX9_part_158 : decode cX9_part 158 = .ok (.invokevirtual 156, 3) := by decide +kernel
theorem dX9_part_161 : decode cX9_part 161 = .ok (.i2l, 1) := by decide +kernel
theorem dX9_part_162 : decode cX9_part 162 = .ok (.ldc2_w 78, 3) := by decide +kernel
theorem dX9_part_165 : decode cX9_part 165 = .ok (.ldc2_w 264, 3) := by decide +kernel
theorem dX9_part_168 : decode cX9_part 168 = .ok (.invokestatic 74, 3) := by decide +kernel
theorem dX9_part_171 : decode cX9_part 171 = .ok (.ifCond .ne 27, 3) := by decide +kernel
theorem dX9_part_174 : decode cX9_part 174 = .ok (.aload_n 0, 1) := by decide +kernel
theorem dX9_part_175 : decode cX9_part 175 = .ok (.iconst 5, 1) := by decide +kernel
theorem dX9_part_176 : decode cX9_part 176 = .ok (.iload_n 3, 1) := by decide +kernel
theorem dX9_part_177 : decode cX9_part 177 = .ok (.invokevirtual 156, 3) := by decide +kernel
theorem dX9_part_180 : decode cX9_part 180 = .ok (.i2l, 1) := by decide +kernel
theorem dX9_part_181 : decode cX9_part 181 = .ok (.ldc2_w 266, 3) := by decide +kernel
theorem dX9_part_184 : decode cX9_part 184 = .ok (.ldc2_w 268, 3) := by decide +kernel
theorem dX9_part_187 : decode cX9_part 187 = .ok (.invokestatic 74, 3) := by decide +kernel
theorem dX9_part_190 : decode cX9_part 190 = .ok (.ifCond .ne 8, 3) := by decide +kernel
theorem dX9_part_193 : decode cX9_part 193 = .ok (.aload_n 0, 1) := by decide +kernel
theorem dX9_part_194 : decode cX9_part 194 = .ok (.iconst 0, 1) := by decide +kernel
theorem dX9_part_195 : decode cX9_part 195 = .ok (.putfield 149, 3) := by decide +kernel
theorem dX9_part_198 : decode cX9_part 198 = .ok (.iinc 3 1, 3) := by decide +kernel
theorem dX9_part_201 : decode cX9_part 201 = .ok (.goto (-55), 3) := by decide +kernel
theorem dX9_part_204 : decode cX9_part 204 = .ok (.return_, 1) := by decide +kernel
theorem dX9_taken_0 : decode cX9_taken 0 = .ok (.iload_n 1, 1) := by decide +kernel
theorem dX9_taken_1 : decode cX9_taken 1 = .ok (.tableswitch 81 0 2 #[27, 37, 62], 27) := by decide +kernel
theorem dX9_taken_28 : decode cX9_taken 28 = .ok (.aload_n 0, 1) := by decide +kernel
theorem dX9_taken_29 : decode cX9_taken 29 = .ok (.iconst 0, 1) := by decide +kernel
theorem dX9_taken_30 : decode cX9_taken 30 = .ok (.bipush 9, 2) := by decide +kernel
theorem dX9_taken_32 : decode cX9_taken 32 = .ok (.invokevirtual 270, 3) := by decide +kernel
theorem dX9_taken_35 : decode cX9_taken 35 = .ok (.goto 51, 3) := by decide +kernel
theorem dX9_taken_38 : decode cX9_taken 38 = .ok (.aload_n 0, 1) := by decide +kernel
theorem dX9_taken_39 : decode cX9_taken 39 = .ok (.iconst 0, 1) := by decide +kernel
theorem dX9_taken_40 : decode cX9_taken 40 = .ok (.iconst 2, 1) := by decide +kernel
theorem dX9_taken_41 : decode cX9_taken 41 = .ok (.invokevirtual 270, 3) := by decide +kernel
theorem dX9_taken_44 : decode cX9_taken 44 = .ok (.aload_n 0, 1) := by decide +kernel
theorem dX9_taken_45 : decode cX9_taken 45 = .ok (.bipush 10, 2) := by decide +kernel
theorem dX9_taken_47 : decode cX9_taken 47 = .ok (.bipush 14, 2) := by decide +kernel
theorem dX9_taken_49 : decode cX9_taken 49 = .ok (.invokevirtual 270, 3) := by decide +kernel
theorem dX9_taken_52 : decode cX9_taken 52 = .ok (.aload_n 0, 1) := by decide +kernel
theorem dX9_taken_53 : decode cX9_taken 53 = .ok (.bipush 17, 2) := by decide +kernel
theorem dX9_taken_55 : decode cX9_taken 55 = .ok (.bipush 17, 2) := by decide +kernel
theorem dX9_taken_57 : decode cX9_taken 57 = .ok (.invokevirtual 270, 3) := by decide +kernel
theorem dX9_taken_60 : decode cX9_taken 60 = .ok (.goto 26, 3) := by decide +kernel
theorem dX9_taken_63 : decode cX9_taken 63 = .ok (.aload_n 0, 1) := by decide +kernel
theorem dX9_taken_64 : decode cX9_taken 64 = .ok (.bipush 11, 2) := by decide +kernel
theorem dX9_taken_66 : decode cX9_taken 66 = .ok (.bipush 12, 2) := by decide +kernel
theorem dX9_taken_68 : decode cX9_taken 68 = .ok (.invokevirtual 270, 3) := by decide +kernel
theorem dX9_taken_71 : decode cX9_taken 71 = .ok (.aload_n 0, 1) := by decide +kernel
theorem dX9_taken_72 : decode cX9_taken 72 = .ok (.bipush 15, 2) := by decide +kernel
theorem dX9_taken_74 : decode cX9_taken 74 = .ok (.bipush 17, 2) := by decide +kernel
theorem dX9_taken_76 : decode cX9_taken 76 = .ok (.invokevirtual 270, 3) := by decide +kernel
theorem dX9_taken_79 : decode cX9_taken 79 = .ok (.goto 7, 3) := by decide +kernel
theorem dX9_taken_82 : decode cX9_taken 82 = .ok (.aload_n 0, 1) := by decide +kernel
theorem dX9_taken_83 : decode cX9_taken 83 = .ok (.invokevirtual 274, 3) := by decide +kernel
theorem dX9_taken_86 : decode cX9_taken 86 = .ok (.return_, 1) := by decide +kernel
theorem dX9_keep_0 : decode cX9_keep 0 = .ok (.iload_n 1, 1) := by decide +kernel
theorem dX9_keep_1 : decode cX9_keep 1 = .ok (.istore_n 3, 1) := by decide +kernel
theorem dX9_keep_2 : decode cX9_keep 2 = .ok (.iload_n 3, 1) := by decide +kernel
theorem dX9_keep_3 : decode cX9_keep 3 = .ok (.iload_n 2, 1) := by decide +kernel
theorem dX9_keep_4 : decode cX9_keep 4 = .ok (.if_icmp .gt 21, 3) := by decide +kernel
theorem dX9_keep_7 : decode cX9_keep 7 = .ok (.aload_n 0, 1) := by decide +kernel
theorem dX9_keep_8 : decode cX9_keep 8 = .ok (.getfield 35, 3) := by decide +kernel
theorem dX9_keep_11 : decode cX9_keep 11 = .ok (.iload_n 3, 1) := by decide +kernel
theorem dX9_keep_12 : decode cX9_keep 12 = .ok (.aload_n 0, 1) := by decide +kernel
theorem dX9_keep_13 : decode cX9_keep 13 = .ok (.getfield 32, 3) := by decide +kernel
theorem dX9_keep_16 : decode cX9_keep 16 = .ok (.iload_n 3, 1) := by decide +kernel
theorem dX9_keep_17 : decode cX9_keep 17 = .ok (.iaload, 1) := by decide +kernel
theorem dX9_keep_18 : decode cX9_keep 18 = .ok (.iastore, 1) := by decide +kernel
theorem dX9_keep_19 : decode cX9_keep 19 = .ok (.iinc 3 1, 3) := by decide +kernel
theorem dX9_keep_22 : decode cX9_keep 22 = .ok (.goto (-20), 3) := by decide +kernel
theorem dX9_keep_25 : decode cX9_keep 25 = .ok (.return_, 1) := by decide +kernel
theorem dX9_parted_0 : decode cX9_parted 0 = .ok (.aload_n 0, 1) := by decide +kernel
theorem dX9_parted_1 : decode cX9_parted 1 = .ok (.getfield 251, 3) := by decide +kernel
theorem dX9_parted_4 : decode cX9_parted 4 = .ok (.iconst 1, 1) := by decide +kernel
theorem dX9_parted_5 : decode cX9_parted 5 = .ok (.if_icmp .ne 53, 3) := by decide +kernel
theorem dX9_parted_8 : decode cX9_parted 8 = .ok (.aload_n 0, 1) := by decide +kernel
theorem dX9_parted_9 : decode cX9_parted 9 = .ok (.getfield 23, 3) := by decide +kernel
theorem dX9_parted_12 : decode cX9_parted 12 = .ok (.bipush 7, 2) := by decide +kernel
theorem dX9_parted_14 : decode cX9_parted 14 = .ok (.dup2, 1) := by decide +kernel
theorem dX9_parted_15 : decode cX9_parted 15 = .ok (.iaload, 1) := by decide +kernel
theorem dX9_parted_16 : decode cX9_parted 16 = .ok (.aload_n 0, 1) := by decide +kernel
theorem dX9_parted_17 : decode cX9_parted 17 = .ok (.getfield 41, 3) := by decide +kernel
theorem dX9_parted_20 : decode cX9_parted 20 = .ok (.aload_n 0, 1) := by decide +kernel
theorem dX9_parted_21 : decode cX9_parted 21 = .ok (.getfield 254, 3) := by decide +kernel
theorem dX9_parted_24 : decode cX9_parted 24 = .ok (.iaload, 1) := by decide +kernel
theorem dX9_parted_25 : decode cX9_parted 25 = .ok (.ifCond .le 7, 3) := by decide +kernel
theorem dX9_parted_28 : decode cX9_parted 28 = .ok (.iconst 1, 1) := by decide +kernel
theorem dX9_parted_29 : decode cX9_parted 29 = .ok (.goto 4, 3) := by decide +kernel
theorem dX9_parted_32 : decode cX9_parted 32 = .ok (.iconst 0, 1) := by decide +kernel
theorem dX9_parted_33 : decode cX9_parted 33 = .ok (.iadd, 1) := by decide +kernel
theorem dX9_parted_34 : decode cX9_parted 34 = .ok (.iastore, 1) := by decide +kernel
theorem dX9_parted_35 : decode cX9_parted 35 = .ok (.aload_n 0, 1) := by decide +kernel
theorem dX9_parted_36 : decode cX9_parted 36 = .ok (.getfield 41, 3) := by decide +kernel
theorem dX9_parted_39 : decode cX9_parted 39 = .ok (.aload_n 0, 1) := by decide +kernel
theorem dX9_parted_40 : decode cX9_parted 40 = .ok (.getfield 254, 3) := by decide +kernel
theorem dX9_parted_43 : decode cX9_parted 43 = .ok (.iconst 0, 1) := by decide +kernel
theorem dX9_parted_44 : decode cX9_parted 44 = .ok (.iastore, 1) := by decide +kernel
theorem dX9_parted_45 : decode cX9_parted 45 = .ok (.aload_n 0, 1) := by decide +kernel
theorem dX9_parted_46 : decode cX9_parted 46 = .ok (.getfield 44, 3) := by decide +kernel
theorem dX9_parted_49 : decode cX9_parted 49 = .ok (.aload_n 0, 1) := by decide +kernel
theorem dX9_parted_50 : decode cX9_parted 50 = .ok (.getfield 254, 3) := by decide +kernel
theorem dX9_parted_53 : decode cX9_parted 53 = .ok (.iconst 0, 1) := by decide +kernel
theorem dX9_parted_54 : decode cX9_parted 54 = .ok (.iastore, 1) := by decide +kernel
theorem dX9_parted_55 : decode cX9_parted 55 = .ok (.goto 59, 3) := by decide +kernel
theorem dX9_parted_58 : decode cX9_parted 58 = .ok (.aload_n 0, 1) := by decide +kernel
theorem dX9_parted_59 : decode cX9_parted 59 = .ok (.getfield 38, 3) := by decide +kernel
theorem dX9_parted_62 : decode cX9_parted 62 = .ok (.aload_n 0, 1) := by decide +kernel
theorem dX9_parted_63 : decode cX9_parted 63 = .ok (.getfield 254, 3) := by decide +kernel
theorem dX9_parted_66 : decode cX9_parted 66 = .ok (.iaload, 1) := by decide +kernel
theorem dX9_parted_67 : decode cX9_parted 67 = .ok (.aload_n 0, 1) := by decide +kernel
theorem dX9_parted_68 : decode cX9_parted 68 = .ok (.getfield 248, 3) := by decide +kernel
theorem dX9_parted_71 : decode cX9_parted 71 = .ok (.if_icmp .ne 21, 3) := by decide +kernel
theorem dX9_parted_74 : decode cX9_parted 74 = .ok (.aload_n 0, 1) := by decide +kernel
theorem dX9_parted_75 : decode cX9_parted 75 = .ok (.getfield 41, 3) := by decide +kernel
theorem dX9_parted_78 : decode cX9_parted 78 = .ok (.aload_n 0, 1) := by decide +kernel
theorem dX9_parted_79 : decode cX9_parted 79 = .ok (.getfield 254, 3) := by decide +kernel
theorem dX9_parted_82 : decode cX9_parted 82 = .ok (.iaload, 1) := by decide +kernel
theorem dX9_parted_83 : decode cX9_parted 83 = .ok (.aload_n 0, 1) := by decide +kernel
theorem dX9_parted_84 : decode cX9_parted 84 = .ok (.getfield 251, 3) := by decide +kernel
theorem dX9_parted_87 : decode cX9_parted 87 = .ok (.iconst 1, 1) := by decide +kernel
theorem dX9_parted_88 : decode cX9_parted 88 = .ok (.isub, 1) := by decide +kernel
theorem dX9_parted_89 : decode cX9_parted 89 = .ok (.if_icmp .eq 25, 3) := by decide +kernel
theorem dX9_parted_92 : decode cX9_parted 92 = .ok (.aload_n 0, 1) := by decide +kernel
theorem dX9_parted_93 : decode cX9_parted 93 = .ok (.getfield 23, 3) := by decide +kernel
theorem dX9_parted_96 : decode cX9_parted 96 = .ok (.bipush 7, 2) := by decide +kernel
theorem dX9_parted_98 : decode cX9_parted 98 = .ok (.dup2, 1) := by decide +kernel
theorem dX9_parted_99 : decode cX9_parted 99 = .ok (.iaload, 1) := by decide +kernel
theorem dX9_parted_100 : decode cX9_parted 100 = .ok (.iconst 1, 1) := by decide +kernel
theorem dX9_parted_101 : decode cX9_parted 101 = .ok (.iadd, 1) := by decide +kernel
theorem dX9_parted_102 : decode cX9_parted 102 = .ok (.iastore, 1) := by decide +kernel
theorem dX9_parted_103 : decode cX9_parted 103 = .ok (.aload_n 0, 1) := by decide +kernel
theorem dX9_parted_104 : decode cX9_parted 104 = .ok (.getfield 41, 3) := by decide +kernel
theorem dX9_parted_107 : decode cX9_parted 107 = .ok (.aload_n 0, 1) := by decide +kernel
theorem dX9_parted_108 : decode cX9_parted 108 = .ok (.getfield 254, 3) := by decide +kernel
theorem dX9_parted_111 : decode cX9_parted 111 = .ok (.iconst 0, 1) := by decide +kernel
theorem dX9_parted_112 : decode cX9_parted 112 = .ok (.iastore, 1) := by decide +kernel
theorem dX9_parted_113 : decode cX9_parted 113 = .ok (.return_, 1) := by decide +kernel
theorem dX9_parted_114 : decode cX9_parted 114 = .ok (.aload_n 0, 1) := by decide +kernel
theorem dX9_parted_115 : decode cX9_parted 115 = .ok (.getfield 38, 3) := by decide +kernel
theorem dX9_parted_118 : decode cX9_parted 118 = .ok (.aload_n 0, 1) := by decide +kernel
theorem dX9_parted_119 : decode cX9_parted 119 = .ok (.getfield 254, 3) := by decide +kernel
theorem dX9_parted_122 : decode cX9_parted 122 = .ok (.aload_n 0, 1) := by decide +kernel
theorem dX9_parted_123 : decode cX9_parted 123 = .ok (.getfield 248, 3) := by decide +kernel
theorem dX9_parted_126 : decode cX9_parted 126 = .ok (.iastore, 1) := by decide +kernel
theorem dX9_parted_127 : decode cX9_parted 127 = .ok (.aload_n 0, 1) := by decide +kernel
theorem dX9_parted_128 : decode cX9_parted 128 = .ok (.getfield 41, 3) := by decide +kernel
theorem dX9_parted_131 : decode cX9_parted 131 = .ok (.aload_n 0, 1) := by decide +kernel
theorem dX9_parted_132 : decode cX9_parted 132 = .ok (.getfield 254, 3) := by decide +kernel
theorem dX9_parted_135 : decode cX9_parted 135 = .ok (.dup2, 1) := by decide +kernel
theorem dX9_parted_136 : decode cX9_parted 136 = .ok (.iaload, 1) := by decide +kernel
theorem dX9_parted_137 : decode cX9_parted 137 = .ok (.iconst 1, 1) := by decide +kernel
theorem dX9_parted_138 : decode cX9_parted 138 = .ok (.iadd, 1) := by decide +kernel
theorem dX9_parted_139 : decode cX9_parted 139 = .ok (.iastore, 1) := by decide +kernel
theorem dX9_parted_140 : decode cX9_parted 140 = .ok (.bipush 6, 2) := by decide +kernel
theorem dX9_parted_142 : decode cX9_parted 142 = .ok (.aload_n 0, 1) := by decide +kernel
theorem dX9_parted_143 : decode cX9_parted 143 = .ok (.iconst 5, 1) := by decide +kernel
theorem dX9_parted_144 : decode cX9_parted 144 = .ok (.invokevirtual 153, 3) := by decide +kernel
theorem dX9_parted_147 : decode cX9_parted 147 = .ok (.imul, 1) := by decide +kernel
theorem dX9_parted_148 : decode cX9_parted 148 = .ok (.aload_n 0, 1) := by decide +kernel
theorem dX9_parted_149 : decode cX9_parted 149 = .ok (.getfield 259, 3) := by decide +kernel
theorem dX9_parted_152 : decode cX9_parted 152 = .ok (.isub, 1) := by decide +kernel
theorem dX9_parted_153 : decode cX9_parted 153 = .ok (.istore_n 1, 1) := by decide +kernel
theorem dX9_parted_154 : decode cX9_parted 154 = .ok (.iconst 0, 1) := by decide +kernel
theorem dX9_parted_155 : decode cX9_parted 155 = .ok (.istore_n 2, 1) := by decide +kernel
theorem dX9_parted_156 : decode cX9_parted 156 = .ok (.iload_n 2, 1) := by decide +kernel
theorem dX9_parted_157 : decode cX9_parted 157 = .ok (.iload_n 1, 1) := by decide +kernel
theorem dX9_parted_158 : decode cX9_parted 158 = .ok (.if_icmp .ge 83, 3) := by decide +kernel
theorem dX9_parted_161 : decode cX9_parted 161 = .ok (.aload_n 0, 1) := by decide +kernel
theorem dX9_parted_162 : decode cX9_parted 162 = .ok (.iconst 5, 1) := by decide +kernel
theorem dX9_parted_163 : decode cX9_parted 163 = .ok (.iload_n 2, 1) := by decide +kernel
theorem dX9_parted_164 : decode cX9_parted 164 = .ok (.bipush 6, 2) := by decide +kernel
theorem dX9_parted_166 : decode cX9_parted 166 = .ok (.idiv, 1) := by decide +kernel
theorem dX9_parted_167 : decode cX9_parted 167 = .ok (.invokevirtual 156, 3) := by decide +kernel
theorem dX9_parted_170 : decode cX9_parted 170 = .ok (.bipush 48, 2) := by decide +kernel
theorem dX9_parted_172 : decode cX9_parted 172 = .ok (.isub, 1) := by decide +kernel
theorem dX9_parted_173 : decode cX9_parted 173 = .ok (.istore_n 3, 1) := by decide +kernel
theorem dX9_parted_174 : decode cX9_parted 174 = .ok (.iload_n 3, 1) := by decide +kernel
theorem dX9_parted_175 : decode cX9_parted 175 = .ok (.bipush 40, 2) := by decide +kernel
theorem dX9_parted_177 : decode cX9_parted 177 = .ok (.if_icmp .le 10, 3) := by decide +kernel
theorem dX9_parted_180 : decode cX9_parted 180 = .ok (.iload_n 3, 1) := by decide +kernel
theorem dX9_parted_181 : decode cX9_parted 181 = .ok (.bipush 8, 2) := by decide +kernel
theorem dX9_parted_183 : decode cX9_parted 183 = .ok (.isub, 1) := by decide +kernel
theorem dX9_parted_184 : decode cX9_parted 184 = .ok (.goto 4, 3) := by decide +kernel
theorem dX9_parted_187 : decode cX9_parted 187 = .ok (.iload_n 3, 1) := by decide +kernel
theorem dX9_parted_188 : decode cX9_parted 188 = .ok (.istore 4, 2) := by decide +kernel
theorem dX9_parted_190 : decode cX9_parted 190 = .ok (.aload_n 0, 1) := by decide +kernel
theorem dX9_parted_191 : decode cX9_parted 191 = .ok (.getfield 48, 3) := by decide +kernel
theorem dX9_parted_194 : decode cX9_parted 194 = .ok (.aload_n 0, 1) := by decide +kernel
theorem dX9_parted_195 : decode cX9_parted 195 = .ok (.getfield 254, 3) := by decide +kernel
theorem dX9_parted_198 : decode cX9_parted 198 = .ok (.sipush 3240, 3) := by decide +kernel
theorem dX9_parted_201 : decode cX9_parted 201 = .ok (.imul, 1) := by decide +kernel
theorem dX9_parted_202 : decode cX9_parted 202 = .ok (.aload_n 0, 1) := by decide +kernel
theorem dX9_parted_203 : decode cX9_parted 203 = .ok (.getfield 44, 3) := by decide +kernel
theorem dX9_parted_206 : decode cX9_parted 206 = .ok (.aload_n 0, 1) := by decide +kernel
theorem dX9_parted_207 : decode cX9_parted 207 = .ok (.getfield 254, 3) := by decide +kernel
theorem dX9_parted_210 : decode cX9_parted 210 = .ok (.iaload, 1) := by decide +kernel
theorem dX9_parted_211 : decode cX9_parted 211 = .ok (.iadd, 1) := by decide +kernel
theorem dX9_parted_212 : decode cX9_parted 212 = .ok (.iload_n 2, 1) := by decide +kernel
theorem dX9_parted_213 : decode cX9_parted 213 = .ok (.iadd, 1) := by decide +kernel
theorem dX9_parted_214 : decode cX9_parted 214 = .ok (.iload 4, 2) := by decide +kernel
theorem dX9_parted_216 : decode cX9_parted 216 = .ok (.iconst 5, 1) := by decide +kernel
theorem dX9_parted_217 : decode cX9_parted 217 = .ok (.iload_n 2, 1) := by decide +kernel
theorem dX9_parted_218 : decode cX9_parted 218 = .ok (.bipush 6, 2) := by decide +kernel
theorem dX9_parted_220 : decode cX9_parted 220 = .ok (.irem, 1) := by decide +kernel
theorem dX9_parted_221 : decode cX9_parted 221 = .ok (.isub, 1) := by decide +kernel
theorem dX9_parted_222 : decode cX9_parted 222 = .ok (.ishr, 1) := by decide +kernel
theorem dX9_parted_223 : decode cX9_parted 223 = .ok (.iconst 1, 1) := by decide +kernel
theorem dX9_parted_224 : decode cX9_parted 224 = .ok (.iand, 1) := by decide +kernel
theorem dX9_parted_225 : decode cX9_parted 225 = .ok (.iconst 1, 1) := by decide +kernel
theorem dX9_parted_226 : decode cX9_parted 226 = .ok (.if_icmp .ne 7, 3) := by decide +kernel
theorem dX9_parted_229 : decode cX9_parted 229 = .ok (.iconst 1, 1) := by decide +kernel
theorem dX9_parted_230 : decode cX9_parted 230 = .ok (.goto 4, 3) := by decide +kernel
theorem dX9_parted_233 : decode cX9_parted 233 = .ok (.iconst 0, 1) := by decide +kernel
theorem dX9_parted_234 : decode cX9_parted 234 = .ok (.bastore, 1) := by decide +kernel
theorem dX9_parted_235 : decode cX9_parted 235 = .ok (.iinc 2 1, 3) := by decide +kernel
theorem dX9_parted_238 : decode cX9_parted 238 = .ok (.goto (-82), 3) := by decide +kernel
theorem dX9_parted_241 : decode cX9_parted 241 = .ok (.aload_n 0, 1) := by decide +kernel
theorem dX9_parted_242 : decode cX9_parted 242 = .ok (.getfield 44, 3) := by decide +kernel
theorem dX9_parted_245 : decode cX9_parted 245 = .ok (.aload_n 0, 1) := by decide +kernel
theorem dX9_parted_246 : decode cX9_parted 246 = .ok (.getfield 254, 3) := by decide +kernel
theorem dX9_parted_249 : decode cX9_parted 249 = .ok (.dup2, 1) := by decide +kernel
theorem dX9_parted_250 : decode cX9_parted 250 = .ok (.iaload, 1) := by decide +kernel
theorem dX9_parted_251 : decode cX9_parted 251 = .ok (.iload_n 1, 1) := by decide +kernel
theorem dX9_parted_252 : decode cX9_parted 252 = .ok (.iadd, 1) := by decide +kernel
theorem dX9_parted_253 : decode cX9_parted 253 = .ok (.iastore, 1) := by decide +kernel
theorem dX9_parted_254 : decode cX9_parted 254 = .ok (.aload_n 0, 1) := by decide +kernel
theorem dX9_parted_255 : decode cX9_parted 255 = .ok (.getfield 251, 3) := by decide +kernel
theorem dX9_parted_258 : decode cX9_parted 258 = .ok (.aload_n 0, 1) := by decide +kernel
theorem dX9_parted_259 : decode cX9_parted 259 = .ok (.getfield 248, 3) := by decide +kernel
theorem dX9_parted_262 : decode cX9_parted 262 = .ok (.if_icmp .ne 72, 3) := by decide +kernel
theorem dX9_parted_265 : decode cX9_parted 265 = .ok (.aload_n 0, 1) := by decide +kernel
theorem dX9_parted_266 : decode cX9_parted 266 = .ok (.aload_n 0, 1) := by decide +kernel
theorem dX9_parted_267 : decode cX9_parted 267 = .ok (.getfield 44, 3) := by decide +kernel
theorem dX9_parted_270 : decode cX9_parted 270 = .ok (.aload_n 0, 1) := by decide +kernel
theorem dX9_parted_271 : decode cX9_parted 271 = .ok (.getfield 254, 3) := by decide +kernel
theorem dX9_parted_274 : decode cX9_parted 274 = .ok (.iaload, 1) := by decide +kernel
theorem dX9_parted_275 : decode cX9_parted 275 = .ok (.putfield 277, 3) := by decide +kernel
theorem dX9_parted_278 : decode cX9_parted 278 = .ok (.iconst 0, 1) := by decide +kernel
theorem dX9_parted_279 : decode cX9_parted 279 = .ok (.istore_n 2, 1) := by decide +kernel
theorem dX9_parted_280 : decode cX9_parted 280 = .ok (.iload_n 2, 1) := by decide +kernel
theorem dX9_parted_281 : decode cX9_parted 281 = .ok (.aload_n 0, 1) := by decide +kernel
theorem dX9_parted_282 : decode cX9_parted 282 = .ok (.getfield 277, 3) := by decide +kernel
theorem dX9_parted_285 : decode cX9_parted 285 = .ok (.if_icmp .ge 30, 3) := by decide +kernel
theorem dX9_parted_288 : decode cX9_parted 288 = .ok (.aload_n 0, 1) := by decide +kernel
theorem dX9_parted_289 : decode cX9_parted 289 = .ok (.getfield 52, 3) := by decide +kernel
theorem dX9_parted_292 : decode cX9_parted 292 = .ok (.iload_n 2, 1) := by decide +kernel
theorem dX9_parted_293 : decode cX9_parted 293 = .ok (.aload_n 0, 1) := by decide +kernel
theorem dX9_parted_294 : decode cX9_parted 294 = .ok (.getfield 48, 3) := by decide +kernel
theorem dX9_parted_297 : decode cX9_parted 297 = .ok (.aload_n 0, 1) := by decide +kernel
theorem dX9_parted_298 : decode cX9_parted 298 = .ok (.getfield 254, 3) := by decide +kernel
theorem dX9_parted_301 : decode cX9_parted 301 = .ok (.sipush 3240, 3) := by decide +kernel
theorem dX9_parted_304 : decode cX9_parted 304 = .ok (.imul, 1) := by decide +kernel
theorem dX9_parted_305 : decode cX9_parted 305 = .ok (.iload_n 2, 1) := by decide +kernel
theorem dX9_parted_306 : decode cX9_parted 306 = .ok (.iadd, 1) := by decide +kernel
theorem dX9_parted_307 : decode cX9_parted 307 = .ok (.baload, 1) := by decide +kernel
theorem dX9_parted_308 : decode cX9_parted 308 = .ok (.bastore, 1) := by decide +kernel
theorem dX9_parted_309 : decode cX9_parted 309 = .ok (.iinc 2 1, 3) := by decide +kernel
theorem dX9_parted_312 : decode cX9_parted 312 = .ok (.goto (-32), 3) := by decide +kernel
theorem dX9_parted_315 : decode cX9_parted 315 = .ok (.aload_n 0, 1) := by decide +kernel
theorem dX9_parted_316 : decode cX9_parted 316 = .ok (.getfield 41, 3) := by decide +kernel
theorem dX9_parted_319 : decode cX9_parted 319 = .ok (.aload_n 0, 1) := by decide +kernel
theorem dX9_parted_320 : decode cX9_parted 320 = .ok (.getfield 254, 3) := by decide +kernel
theorem dX9_parted_323 : decode cX9_parted 323 = .ok (.iconst 0, 1) := by decide +kernel
theorem dX9_parted_324 : decode cX9_parted 324 = .ok (.iastore, 1) := by decide +kernel
theorem dX9_parted_325 : decode cX9_parted 325 = .ok (.aload_n 0, 1) := by decide +kernel
theorem dX9_parted_326 : decode cX9_parted 326 = .ok (.iconst 1, 1) := by decide +kernel
theorem dX9_parted_327 : decode cX9_parted 327 = .ok (.putfield 280, 3) := by decide +kernel
theorem dX9_parted_330 : decode cX9_parted 330 = .ok (.aload_n 0, 1) := by decide +kernel
theorem dX9_parted_331 : decode cX9_parted 331 = .ok (.invokevirtual 283, 3) := by decide +kernel
theorem dX9_parted_334 : decode cX9_parted 334 = .ok (.return_, 1) := by decide +kernel
theorem dX9_read_0 : decode cX9_read 0 = .ok (.iconst 0, 1) := by decide +kernel
theorem dX9_read_1 : decode cX9_read 1 = .ok (.istore_n 3, 1) := by decide +kernel
theorem dX9_read_2 : decode cX9_read 2 = .ok (.iload_n 1, 1) := by decide +kernel
theorem dX9_read_3 : decode cX9_read 3 = .ok (.istore 4, 2) := by decide +kernel
theorem dX9_read_5 : decode cX9_read 5 = .ok (.iload 4, 2) := by decide +kernel
theorem dX9_read_7 : decode cX9_read 7 = .ok (.iload_n 1, 1) := by decide +kernel
theorem dX9_read_8 : decode cX9_read 8 = .ok (.iload_n 2, 1) := by decide +kernel
theorem dX9_read_9 : decode cX9_read 9 = .ok (.iadd, 1) := by decide +kernel
theorem dX9_read_10 : decode cX9_read 10 = .ok (.if_icmp .ge 29, 3) := by decide +kernel
theorem dX9_read_13 : decode cX9_read 13 = .ok (.iload_n 3, 1) := by decide +kernel
theorem dX9_read_14 : decode cX9_read 14 = .ok (.iconst 1, 1) := by decide +kernel
theorem dX9_read_15 : decode cX9_read 15 = .ok (.ishl, 1) := by decide +kernel
theorem dX9_read_16 : decode cX9_read 16 = .ok (.aload_n 0, 1) := by decide +kernel
theorem dX9_read_17 : decode cX9_read 17 = .ok (.getfield 52, 3) := by decide +kernel
theorem dX9_read_20 : decode cX9_read 20 = .ok (.iload 4, 2) := by decide +kernel
theorem dX9_read_22 : decode cX9_read 22 = .ok (.baload, 1) := by decide +kernel
theorem dX9_read_23 : decode cX9_read 23 = .ok (.ifCond .eq 7, 3) := by decide +kernel
theorem dX9_read_26 : decode cX9_read 26 = .ok (.iconst 1, 1) := by decide +kernel
theorem dX9_read_27 : decode cX9_read 27 = .ok (.goto 4, 3) := by decide +kernel
theorem dX9_read_30 : decode cX9_read 30 = .ok (.iconst 0, 1) := by decide +kernel
theorem dX9_read_31 : decode cX9_read 31 = .ok (.ior, 1) := by decide +kernel
theorem dX9_read_32 : decode cX9_read 32 = .ok (.istore_n 3, 1) := by decide +kernel
theorem dX9_read_33 : decode cX9_read 33 = .ok (.iinc 4 1, 3) := by decide +kernel
theorem dX9_read_36 : decode cX9_read 36 = .ok (.goto (-31), 3) := by decide +kernel
theorem dX9_read_39 : decode cX9_read 39 = .ok (.iload_n 3, 1) := by decide +kernel
theorem dX9_read_40 : decode cX9_read 40 = .ok (.ireturn, 1) := by decide +kernel
theorem dX9_signed_0 : decode cX9_signed 0 = .ok (.aload_n 0, 1) := by decide +kernel
theorem dX9_signed_1 : decode cX9_signed 1 = .ok (.iload_n 1, 1) := by decide +kernel
theorem dX9_signed_2 : decode cX9_signed 2 = .ok (.iload_n 2, 1) := by decide +kernel
theorem dX9_signed_3 : decode cX9_signed 3 = .ok (.invokevirtual 286, 3) := by decide +kernel
theorem dX9_signed_6 : decode cX9_signed 6 = .ok (.bipush 32, 2) := by decide +kernel
theorem dX9_signed_8 : decode cX9_signed 8 = .ok (.iload_n 2, 1) := by decide +kernel
theorem dX9_signed_9 : decode cX9_signed 9 = .ok (.isub, 1) := by decide +kernel
theorem dX9_signed_10 : decode cX9_signed 10 = .ok (.ishl, 1) := by decide +kernel
theorem dX9_signed_11 : decode cX9_signed 11 = .ok (.bipush 32, 2) := by decide +kernel
theorem dX9_signed_13 : decode cX9_signed 13 = .ok (.iload_n 2, 1) := by decide +kernel
theorem dX9_signed_14 : decode cX9_signed 14 = .ok (.isub, 1) := by decide +kernel
theorem dX9_signed_15 : decode cX9_signed 15 = .ok (.ishr, 1) := by decide +kernel
theorem dX9_signed_16 : decode cX9_signed 16 = .ok (.ireturn, 1) := by decide +kernel
theorem dX9_found_0 : decode cX9_found 0 = .ok (.iconst 0, 1) := by decide +kernel
theorem dX9_found_1 : decode cX9_found 1 = .ok (.istore_n 2, 1) := by decide +kernel
theorem dX9_found_2 : decode cX9_found 2 = .ok (.iload_n 2, 1) := by decide +kernel
theorem dX9_found_3 : decode cX9_found 3 = .ok (.aload_n 0, 1) := by decide +kernel
theorem dX9_found_4 : decode cX9_found 4 = .ok (.getfield 289, 3) := by decide +kernel
theorem dX9_found_7 : decode cX9_found 7 = .ok (.if_icmp .ge 24, 3) := by decide +kernel
theorem dX9_found_10 : decode cX9_found 10 = .ok (.aload_n 0, 1) := by decide +kernel
theorem dX9_found_11 : decode cX9_found 11 = .ok (.getfield 55, 3) := by decide +kernel
theorem dX9_found_14 : decode cX9_found 14 = .ok (.bipush 24, 2) := by decide +kernel
theorem dX9_found_16 : decode cX9_found 16 = .ok (.iload_n 2, 1) := by decide +kernel
theorem dX9_found_17 : decode cX9_found 17 = .ok (.imul, 1) := by decide +kernel
theorem dX9_found_18 : decode cX9_found 18 = .ok (.iaload, 1) := by decide +kernel
theorem dX9_found_19 : decode cX9_found 19 = .ok (.iload_n 1, 1) := by decide +kernel
theorem dX9_found_20 : decode cX9_found 20 = .ok (.if_icmp .ne 5, 3) := by decide +kernel
theorem dX9_found_23 : decode cX9_found 23 = .ok (.iload_n 2, 1) := by decide +kernel
theorem dX9_found_24 : decode cX9_found 24 = .ok (.ireturn, 1) := by decide +kernel
theorem dX9_found_25 : decode cX9_found 25 = .ok (.iinc 2 1, 3) := by decide +kernel
theorem dX9_found_28 : decode cX9_found 28 = .ok (.goto (-26), 3) := by decide +kernel
theorem dX9_found_31 : decode cX9_found 31 = .ok (.ldc 73, 2) := by decide +kernel
theorem dX9_found_33 : decode cX9_found 33 = .ok (.ireturn, 1) := by decide +kernel
theorem dX9_message_0 : decode cX9_message 0 = .ok (.aload_n 0, 1) := by decide +kernel
theorem dX9_message_1 : decode cX9_message 1 = .ok (.getfield 277, 3) := by decide +kernel
theorem dX9_message_4 : decode cX9_message 4 = .ok (.bipush 38, 2) := by decide +kernel
theorem dX9_message_6 : decode cX9_message 6 = .ok (.if_icmp .ge 7, 3) := by decide +kernel
theorem dX9_message_9 : decode cX9_message 9 = .ok (.iconst 0, 1) := by decide +kernel
theorem dX9_message_10 : decode cX9_message 10 = .ok (.goto 10, 3) := by decide +kernel
theorem dX9_message_13 : decode cX9_message 13 = .ok (.aload_n 0, 1) := by decide +kernel
theorem dX9_message_14 : decode cX9_message 14 = .ok (.iconst 0, 1) := by decide +kernel
theorem dX9_message_15 : decode cX9_message 15 = .ok (.bipush 6, 2) := by decide +kernel
theorem dX9_message_17 : decode cX9_message 17 = .ok (.invokevirtual 286, 3) := by decide +kernel
theorem dX9_message_20 : decode cX9_message 20 = .ok (.istore_n 1, 1) := by decide +kernel
theorem dX9_message_21 : decode cX9_message 21 = .ok (.iload_n 1, 1) := by decide +kernel
theorem dX9_message_22 : decode cX9_message 22 = .ok (.i2l, 1) := by decide +kernel
theorem dX9_message_23 : decode cX9_message 23 = .ok (.lconst 1, 1) := by decide +kernel
theorem dX9_message_24 : decode cX9_message 24 = .ok (.ldc2_w 292, 3) := by decide +kernel
theorem dX9_message_27 : decode cX9_message 27 = .ok (.invokestatic 74, 3) := by decide +kernel
theorem dX9_message_30 : decode cX9_message 30 = .ok (.ifCond .ne 9, 3) := by decide +kernel
theorem dX9_message_33 : decode cX9_message 33 = .ok (.iload_n 1, 1) := by decide +kernel
theorem dX9_message_34 : decode cX9_message 34 = .ok (.bipush 18, 2) := by decide +kernel
theorem dX9_message_36 : decode cX9_message 36 = .ok (.if_icmp .ne 13, 3) := by decide +kernel
theorem dX9_message_39 : decode cX9_message 39 = .ok (.aload_n 0, 1) := by decide +kernel
theorem dX9_message_40 : decode cX9_message 40 = .ok (.getfield 277, 3) := by decide +kernel
theorem dX9_message_43 : decode cX9_message 43 = .ok (.sipush 168, 3) := by decide +kernel
theorem dX9_message_46 : decode cX9_message 46 = .ok (.if_icmp .eq 18, 3) := by decide +kernel
theorem dX9_message_49 : decode cX9_message 49 = .ok (.iload_n 1, 1) := by decide +kernel
theorem dX9_message_50 : decode cX9_message 50 = .ok (.iconst 5, 1) := by decide +kernel
theorem dX9_message_51 : decode cX9_message 51 = .ok (.if_icmp .ne 17, 3) := by decide +kernel
theorem dX9_message_54 : decode cX9_message 54 = .ok (.aload_n 0, 1) := by decide +kernel
theorem dX9_message_55 : decode cX9_message 55 = .ok (.getfield 277, 3) := by decide +kernel
theorem dX9_message_58 : decode cX9_message 58 = .ok (.sipush 424, 3) := by decide +kernel
theorem dX9_message_61 : decode cX9_message 61 = .ok (.if_icmp .ne 7, 3) := by decide +kernel
theorem dX9_message_64 : decode cX9_message 64 = .ok (.iconst 1, 1) := by decide +kernel
theorem dX9_message_65 : decode cX9_message 65 = .ok (.goto 4, 3) := by decide +kernel
theorem dX9_message_68 : decode cX9_message 68 = .ok (.iconst 0, 1) := by decide +kernel
theorem dX9_message_69 : decode cX9_message 69 = .ok (.istore_n 2, 1) := by decide +kernel
theorem dX9_message_70 : decode cX9_message 70 = .ok (.iload_n 2, 1) := by decide +kernel
theorem dX9_message_71 : decode cX9_message 71 = .ok (.ifCond .ne 15, 3) := by decide +kernel
theorem dX9_message_74 : decode cX9_message 74 = .ok (.aload_n 0, 1) := by decide +kernel
theorem dX9_message_75 : decode cX9_message 75 = .ok (.getfield 23, 3) := by decide +kernel
theorem dX9_message_78 : decode cX9_message 78 = .ok (.bipush 6, 2) := by decide +kernel
theorem dX9_message_80 : decode cX9_message 80 = .ok (.dup2, 1) := by decide +kernel
theorem dX9_message_81 : decode cX9_message 81 = .ok (.iaload, 1) := by decide +kernel
theorem dX9_message_82 : decode cX9_message 82 = .ok (.iconst 1, 1) := by decide +kernel
theorem dX9_message_83 : decode cX9_message 83 = .ok (.iadd, 1) := by decide +kernel
theorem dX9_message_84 : decode cX9_message 84 = .ok (.iastore, 1) := by decide +kernel
theorem dX9_message_85 : decode cX9_message 85 = .ok (.return_, 1) := by decide +kernel
theorem dX9_message_86 : decode cX9_message 86 = .ok (.aload_n 0, 1) := by decide +kernel
theorem dX9_message_87 : decode cX9_message 87 = .ok (.getfield 23, 3) := by decide +kernel
theorem dX9_message_90 : decode cX9_message 90 = .ok (.iconst 5, 1) := by decide +kernel
theorem dX9_message_91 : decode cX9_message 91 = .ok (.dup2, 1) := by decide +kernel
theorem dX9_message_92 : decode cX9_message 92 = .ok (.iaload, 1) := by decide +kernel
theorem dX9_message_93 : decode cX9_message 93 = .ok (.iconst 1, 1) := by decide +kernel
theorem dX9_message_94 : decode cX9_message 94 = .ok (.iadd, 1) := by decide +kernel
theorem dX9_message_95 : decode cX9_message 95 = .ok (.iastore, 1) := by decide +kernel
theorem dX9_message_96 : decode cX9_message 96 = .ok (.aload_n 0, 1) := by decide +kernel
theorem dX9_message_97 : decode cX9_message 97 = .ok (.bipush 8, 2) := by decide +kernel
theorem dX9_message_99 : decode cX9_message 99 = .ok (.bipush 30, 2) := by decide +kernel
theorem dX9_message_101 : decode cX9_message 101 = .ok (.invokevirtual 286, 3) := by decide +kernel
theorem dX9_message_104 : decode cX9_message 104 = .ok (.istore_n 3, 1) := by decide +kernel
theorem dX9_message_105 : decode cX9_message 105 = .ok (.aload_n 0, 1) := by decide +kernel
theorem dX9_message_106 : decode cX9_message 106 = .ok (.iload_n 3, 1) := by decide +kernel
theorem dX9_message_107 : decode cX9_message 107 = .ok (.invokevirtual 294, 3) := by decide +kernel
theorem dX9_message_110 : decode cX9_message 110 = .ok (.istore 4, 2) := by decide +kernel
theorem dX9_message_112 : decode cX9_message 112 = .ok (.iload 4, 2) := by decide +kernel
theorem dX9_message_114 : decode cX9_message 114 = .ok (.ifCond .ge 24, 3) := by decide +kernel
theorem dX9_message_117 : decode cX9_message 117 = .ok (.aload_n 0, 1) := by decide +kernel
theorem dX9_message_118 : decode cX9_message 118 = .ok (.getfield 289, 3) := by decide +kernel
theorem dX9_message_121 : decode cX9_message 121 = .ok (.bipush 40, 2) := by decide +kernel
theorem dX9_message_123 : decode cX9_message 123 = .ok (.if_icmp .ne 15, 3) := by decide +kernel
theorem dX9_message_126 : decode cX9_message 126 = .ok (.aload_n 0, 1) := by decide +kernel
theorem dX9_message_127 : decode cX9_message 127 = .ok (.getfield 23, 3) := by decide +kernel
theorem dX9_message_130 : decode cX9_message 130 = .ok (.bipush 8, 2) := by decide +kernel
theorem dX9_message_132 : decode cX9_message 132 = .ok (.dup2, 1) := by decide +kernel
theorem dX9_message_133 : decode cX9_message 133 = .ok (.iaload, 1) := by decide +kernel
theorem dX9_message_134 : decode cX9_message 134 = .ok (.iconst 1, 1) := by decide +kernel
theorem dX9_message_135 : decode cX9_message 135 = .ok (.iadd, 1) := by decide +kernel
theorem dX9_message_136 : decode cX9_message 136 = .ok (.iastore, 1) := by decide +kernel
theorem dX9_message_137 : decode cX9_message 137 = .ok (.return_, 1) := by decide +kernel
theorem dX9_message_138 : decode cX9_message 138 = .ok (.iload 4, 2) := by decide +kernel
theorem dX9_message_140 : decode cX9_message 140 = .ok (.ifCond .ge 103, 3) := by decide +kernel
theorem dX9_message_143 : decode cX9_message 143 = .ok (.aload_n 0, 1) := by decide +kernel
theorem dX9_message_144 : decode cX9_message 144 = .ok (.getfield 289, 3) := by decide +kernel
theorem dX9_message_147 : decode cX9_message 147 = .ok (.istore 4, 2) := by decide +kernel
theorem dX9_message_149 : decode cX9_message 149 = .ok (.aload_n 0, 1) := by decide +kernel
theorem dX9_message_150 : decode cX9_message 150 = .ok (.dup, 1) := by decide +kernel
theorem dX9_message_151 : decode cX9_message 151 = .ok (.getfield 289, 3) := by decide +kernel
theorem dX9_message_154 : decode cX9_message 154 = .ok (.iconst 1, 1) := by decide +kernel
theorem dX9_message_155 : decode cX9_message 155 = .ok (.iadd, 1) := by decide +kernel
theorem dX9_message_156 : decode cX9_message 156 = .ok (.putfield 289, 3) := by decide +kernel
theorem dX9_message_159 : decode cX9_message 159 = .ok (.iconst 0, 1) := by decide +kernel
theorem dX9_message_160 : decode cX9_message 160 = .ok (.istore 5, 2) := by decide +kernel
theorem dX9_message_162 : decode cX9_message 162 = .ok (.iload 5, 2) := by decide +kernel
theorem dX9_message_164 : decode cX9_message 164 = .ok (.bipush 24, 2) := by decide +kernel
theorem dX9_message_166 : decode cX9_message 166 = .ok (.if_icmp .ge 24, 3) := by decide +kernel
theorem dX9_message_169 : decode cX9_message 169 = .ok (.aload_n 0, 1) := by decide +kernel
theorem dX9_message_170 : decode cX9_message 170 = .ok (.getfield 55, 3) := by decide +kernel
theorem dX9_message_173 : decode cX9_message 173 = .ok (.bipush 24, 2) := by decide +kernel
theorem dX9_message_175 : decode cX9_message 175 = .ok (.iload 4, 2) := by decide +kernel
theorem dX9_message_177 : decode cX9_message 177 = .ok (.imul, 1) := by decide +kernel
theorem dX9_message_178 : decode cX9_message 178 = .ok (.iload 5, 2) := by decide +kernel
theorem dX9_message_180 : decode cX9_message 180 = .ok (.iadd, 1) := by decide +kernel
theorem dX9_message_181 : decode cX9_message 181 = .ok (.ldc 73, 2) := by decide +kernel
theorem dX9_message_183 : decode cX9_message 183 = .ok (.iastore, 1) := by decide +kernel
theorem dX9_message_184 : decode cX9_message 184 = .ok (.iinc 5 1, 3) := by decide +kernel
theorem dX9_message_187 : decode cX9_message 187 = .ok (.goto (-25), 3) := by decide +kernel
theorem dX9_message_190 : decode cX9_message 190 = .ok (.iconst 0, 1) := by decide +kernel
theorem dX9_message_191 : decode cX9_message 191 = .ok (.istore 5, 2) := by decide +kernel
theorem dX9_message_193 : decode cX9_message 193 = .ok (.iload 5, 2) := by decide +kernel
theorem dX9_message_195 : decode cX9_message 195 = .ok (.iconst 3, 1) := by decide +kernel
theorem dX9_message_196 : decode cX9_message 196 = .ok (.if_icmp .ge 22, 3) := by decide +kernel
theorem dX9_message_199 : decode cX9_message 199 = .ok (.aload_n 0, 1) := by decide +kernel
theorem dX9_message_200 : decode cX9_message 200 = .ok (.getfield 61, 3) := by decide +kernel
theorem dX9_message_203 : decode cX9_message 203 = .ok (.iconst 3, 1) := by decide +kernel
theorem dX9_message_204 : decode cX9_message 204 = .ok (.iload 4, 2) := by decide +kernel
theorem dX9_message_206 : decode cX9_message 206 = .ok (.imul, 1) := by decide +kernel
theorem dX9_message_207 : decode cX9_message 207 = .ok (.iload 5, 2) := by decide +kernel
theorem dX9_message_209 : decode cX9_message 209 = .ok (.iadd, 1) := by decide +kernel
theorem dX9_message_210 : decode cX9_message 210 = .ok (.iconst 0, 1) := by decide +kernel
theorem dX9_message_211 : decode cX9_message 211 = .ok (.iastore, 1) := by decide +kernel
theorem dX9_message_212 : decode cX9_message 212 = .ok (.iinc 5 1, 3) := by decide +kernel
theorem dX9_message_215 : decode cX9_message 215 = .ok (.goto (-22), 3) := by decide +kernel
theorem dX9_message_218 : decode cX9_message 218 = .ok (.aload_n 0, 1) := by decide +kernel
theorem dX9_message_219 : decode cX9_message 219 = .ok (.getfield 55, 3) := by decide +kernel
theorem dX9_message_222 : decode cX9_message 222 = .ok (.bipush 24, 2) := by decide +kernel
theorem dX9_message_224 : decode cX9_message 224 = .ok (.iload 4, 2) := by decide +kernel
theorem dX9_message_226 : decode cX9_message 226 = .ok (.imul, 1) := by decide +kernel
theorem dX9_message_227 : decode cX9_message 227 = .ok (.iload_n 3, 1) := by decide +kernel
theorem dX9_message_228 : decode cX9_message 228 = .ok (.iastore, 1) := by decide +kernel
theorem dX9_message_229 : decode cX9_message 229 = .ok (.aload_n 0, 1) := by decide +kernel
theorem dX9_message_230 : decode cX9_message 230 = .ok (.getfield 55, 3) := by decide +kernel
theorem dX9_message_233 : decode cX9_message 233 = .ok (.bipush 24, 2) := by decide +kernel
theorem dX9_message_235 : decode cX9_message 235 = .ok (.iload 4, 2) := by decide +kernel
theorem dX9_message_237 : decode cX9_message 237 = .ok (.imul, 1) := by decide +kernel
theorem dX9_message_238 : decode cX9_message 238 = .ok (.bipush 23, 2) := by decide +kernel
theorem dX9_message_240 : decode cX9_message 240 = .ok (.iadd, 1) := by decide +kernel
theorem dX9_message_241 : decode cX9_message 241 = .ok (.iconst 0, 1) := by decide +kernel
theorem dX9_message_242 : decode cX9_message 242 = .ok (.iastore, 1) := by decide +kernel
theorem dX9_message_243 : decode cX9_message 243 = .ok (.aload_n 0, 1) := by decide +kernel
theorem dX9_message_244 : decode cX9_message 244 = .ok (.getfield 55, 3) := by decide +kernel
theorem dX9_message_247 : decode cX9_message 247 = .ok (.bipush 24, 2) := by decide +kernel
theorem dX9_message_249 : decode cX9_message 249 = .ok (.iload 4, 2) := by decide +kernel
theorem dX9_message_251 : decode cX9_message 251 = .ok (.imul, 1) := by decide +kernel
theorem dX9_message_252 : decode cX9_message 252 = .ok (.iconst 1, 1) := by decide +kernel
theorem dX9_message_253 : decode cX9_message 253 = .ok (.iadd, 1) := by decide +kernel
theorem dX9_message_254 : decode cX9_message 254 = .ok (.iload_n 1, 1) := by decide +kernel
theorem dX9_message_255 : decode cX9_message 255 = .ok (.iastore, 1) := by decide +kernel
theorem dX9_message_256 : decode cX9_message 256 = .ok (.aload_n 0, 1) := by decide +kernel
theorem dX9_message_257 : decode cX9_message 257 = .ok (.getfield 55, 3) := by decide +kernel
theorem dX9_message_260 : decode cX9_message 260 = .ok (.bipush 24, 2) := by decide +kernel
theorem dX9_message_262 : decode cX9_message 262 = .ok (.iload 4, 2) := by decide +kernel
theorem dX9_message_264 : decode cX9_message 264 = .ok (.imul, 1) := by decide +kernel
theorem dX9_message_265 : decode cX9_message 265 = .ok (.bipush 23, 2) := by decide +kernel
theorem dX9_message_267 : decode cX9_message 267 = .ok (.iadd, 1) := by decide +kernel
theorem dX9_message_268 : decode cX9_message 268 = .ok (.dup2, 1) := by decide +kernel
theorem dX9_message_269 : decode cX9_message 269 = .ok (.iaload, 1) := by decide +kernel
theorem dX9_message_270 : decode cX9_message 270 = .ok (.iconst 1, 1) := by decide +kernel
theorem dX9_message_271 : decode cX9_message 271 = .ok (.iadd, 1) := by decide +kernel
theorem dX9_message_272 : decode cX9_message 272 = .ok (.iastore, 1) := by decide +kernel
theorem dX9_message_273 : decode cX9_message 273 = .ok (.aload_n 0, 1) := by decide +kernel
theorem dX9_message_274 : decode cX9_message 274 = .ok (.iload 4, 2) := by decide +kernel
theorem dX9_message_276 : decode cX9_message 276 = .ok (.iload_n 1, 1) := by decide +kernel
theorem dX9_message_277 : decode cX9_message 277 = .ok (.invokevirtual 297, 3) := by decide +kernel
theorem dX9_message_280 : decode cX9_message 280 = .ok (.return_, 1) := by decide +kernel
theorem dX9_go_0 : decode cX9_go 0 = .ok (.bipush 24, 2) := by decide +kernel
theorem dX9_go_2 : decode cX9_go 2 = .ok (.aload_n 0, 1) := by decide +kernel
theorem dX9_go_3 : decode cX9_go 3 = .ok (.getfield 300, 3) := by decide +kernel
theorem dX9_go_6 : decode cX9_go 6 = .ok (.imul, 1) := by decide +kernel
theorem dX9_go_7 : decode cX9_go 7 = .ok (.iload_n 1, 1) := by decide +kernel
theorem dX9_go_8 : decode cX9_go 8 = .ok (.iadd, 1) := by decide +kernel
theorem dX9_go_9 : decode cX9_go 9 = .ok (.istore 4, 2) := by decide +kernel
theorem dX9_go_11 : decode cX9_go 11 = .ok (.aload_n 0, 1) := by decide +kernel
theorem dX9_go_12 : decode cX9_go 12 = .ok (.getfield 303, 3) := by decide +kernel
theorem dX9_go_15 : decode cX9_go 15 = .ok (.ifCond .ne 38, 3) := by decide +kernel
theorem dX9_go_18 : decode cX9_go 18 = .ok (.aload_n 0, 1) := by decide +kernel
theorem dX9_go_19 : decode cX9_go 19 = .ok (.getfield 55, 3) := by decide +kernel
theorem dX9_go_22 : decode cX9_go 22 = .ok (.iload 4, 2) := by decide +kernel
theorem dX9_go_24 : decode cX9_go 24 = .ok (.iload_n 3, 1) := by decide +kernel
theorem dX9_go_25 : decode cX9_go 25 = .ok (.ifCond .eq 15, 3) := by decide +kernel
theorem dX9_go_28 : decode cX9_go 28 = .ok (.aload_n 0, 1) := by decide +kernel
theorem dX9_go_29 : decode cX9_go 29 = .ok (.aload_n 0, 1) := by decide +kernel
theorem dX9_go_30 : decode cX9_go 30 = .ok (.getfield 306, 3) := by decide +kernel
theorem dX9_go_33 : decode cX9_go 33 = .ok (.iload_n 2, 1) := by decide +kernel
theorem dX9_go_34 : decode cX9_go 34 = .ok (.invokevirtual 308, 3) := by decide +kernel
theorem dX9_go_37 : decode cX9_go 37 = .ok (.goto 12, 3) := by decide +kernel
theorem dX9_go_40 : decode cX9_go 40 = .ok (.aload_n 0, 1) := by decide +kernel
theorem dX9_go_41 : decode cX9_go 41 = .ok (.aload_n 0, 1) := by decide +kernel
theorem dX9_go_42 : decode cX9_go 42 = .ok (.getfield 306, 3) := by decide +kernel
theorem dX9_go_45 : decode cX9_go 45 = .ok (.iload_n 2, 1) := by decide +kernel
theorem dX9_go_46 : decode cX9_go 46 = .ok (.invokevirtual 286, 3) := by decide +kernel
theorem dX9_go_49 : decode cX9_go 49 = .ok (.iastore, 1) := by decide +kernel
theorem dX9_go_50 : decode cX9_go 50 = .ok (.goto 31, 3) := by decide +kernel
theorem dX9_go_53 : decode cX9_go 53 = .ok (.aload_n 0, 1) := by decide +kernel
theorem dX9_go_54 : decode cX9_go 54 = .ok (.aload_n 0, 1) := by decide +kernel
theorem dX9_go_55 : decode cX9_go 55 = .ok (.getfield 55, 3) := by decide +kernel
theorem dX9_go_58 : decode cX9_go 58 = .ok (.iload 4, 2) := by decide +kernel
theorem dX9_go_60 : decode cX9_go 60 = .ok (.iaload, 1) := by decide +kernel
theorem dX9_go_61 : decode cX9_go 61 = .ok (.ldc 73, 2) := by decide +kernel
theorem dX9_go_63 : decode cX9_go 63 = .ok (.if_icmp .ne 7, 3) := by decide +kernel
theorem dX9_go_66 : decode cX9_go 66 = .ok (.iconst 0, 1) := by decide +kernel
theorem dX9_go_67 : decode cX9_go 67 = .ok (.goto 10, 3) := by decide +kernel
theorem dX9_go_70 : decode cX9_go 70 = .ok (.aload_n 0, 1) := by decide +kernel
theorem dX9_go_71 : decode cX9_go 71 = .ok (.getfield 55, 3) := by decide +kernel
theorem dX9_go_74 : decode cX9_go 74 = .ok (.iload 4, 2) := by decide +kernel
theorem dX9_go_76 : decode cX9_go 76 = .ok (.iaload, 1) := by decide +kernel
theorem dX9_go_77 : decode cX9_go 77 = .ok (.iload_n 2, 1) := by decide +kernel
theorem dX9_go_78 : decode cX9_go 78 = .ok (.invokevirtual 311, 3) := by decide +kernel
theorem dX9_go_81 : decode cX9_go 81 = .ok (.aload_n 0, 1) := by decide +kernel
theorem dX9_go_82 : decode cX9_go 82 = .ok (.dup, 1) := by decide +kernel
theorem dX9_go_83 : decode cX9_go 83 = .ok (.getfield 306, 3) := by decide +kernel
theorem dX9_go_86 : decode cX9_go 86 = .ok (.iload_n 2, 1) := by decide +kernel
theorem dX9_go_87 : decode cX9_go 87 = .ok (.iadd, 1) := by decide +kernel
theorem dX9_go_88 : decode cX9_go 88 = .ok (.putfield 306, 3) := by decide +kernel
theorem dX9_go_91 : decode cX9_go 91 = .ok (.return_, 1) := by decide +kernel
theorem dX9_skip_0 : decode cX9_skip 0 = .ok (.aload_n 0, 1) := by decide +kernel
theorem dX9_skip_1 : decode cX9_skip 1 = .ok (.getfield 303, 3) := by decide +kernel
theorem dX9_skip_4 : decode cX9_skip 4 = .ok (.ifCond .eq 9, 3) := by decide +kernel
theorem dX9_skip_7 : decode cX9_skip 7 = .ok (.aload_n 0, 1) := by decide +kernel
theorem dX9_skip_8 : decode cX9_skip 8 = .ok (.iconst 0, 1) := by decide +kernel
theorem dX9_skip_9 : decode cX9_skip 9 = .ok (.iload_n 1, 1) := by decide +kernel
theorem dX9_skip_10 : decode cX9_skip 10 = .ok (.invokevirtual 311, 3) := by decide +kernel
theorem dX9_skip_13 : decode cX9_skip 13 = .ok (.aload_n 0, 1) := by decide +kernel
theorem dX9_skip_14 : decode cX9_skip 14 = .ok (.dup, 1) := by decide +kernel
theorem dX9_skip_15 : decode cX9_skip 15 = .ok (.getfield 306, 3) := by decide +kernel
theorem dX9_skip_18 : decode cX9_skip 18 = .ok (.iload_n 1, 1) := by decide +kernel
theorem dX9_skip_19 : decode cX9_skip 19 = .ok (.iadd, 1) := by decide +kernel
theorem dX9_skip_20 : decode cX9_skip 20 = .ok (.putfield 306, 3) := by decide +kernel
theorem dX9_skip_23 : decode cX9_skip 23 = .ok (.return_, 1) := by decide +kernel
theorem dX9_room_0 : decode cX9_room 0 = .ok (.iload_n 0, 1) := by decide +kernel
theorem dX9_room_1 : decode cX9_room 1 = .ok (.ifCond .ne 8, 3) := by decide +kernel
theorem dX9_room_4 : decode cX9_room 4 = .ok (.bipush 7, 2) := by decide +kernel
theorem dX9_room_6 : decode cX9_room 6 = .ok (.goto 5, 3) := by decide +kernel
theorem dX9_room_9 : decode cX9_room 9 = .ok (.bipush 20, 2) := by decide +kernel
theorem dX9_room_11 : decode cX9_room 11 = .ok (.ireturn, 1) := by decide +kernel
theorem dX9_words_0 : decode cX9_words 0 = .ok (.bipush 60, 2) := by decide +kernel
theorem dX9_words_2 : decode cX9_words 2 = .ok (.aload_n 0, 1) := by decide +kernel
theorem dX9_words_3 : decode cX9_words 3 = .ok (.getfield 300, 3) := by decide +kernel
theorem dX9_words_6 : decode cX9_words 6 = .ok (.imul, 1) := by decide +kernel
theorem dX9_words_7 : decode cX9_words 7 = .ok (.bipush 20, 2) := by decide +kernel
theorem dX9_words_9 : decode cX9_words 9 = .ok (.iload_n 1, 1) := by decide +kernel
theorem dX9_words_10 : decode cX9_words 10 = .ok (.imul, 1) := by decide +kernel
theorem dX9_words_11 : decode cX9_words 11 = .ok (.iadd, 1) := by decide +kernel
theorem dX9_words_12 : decode cX9_words 12 = .ok (.istore_n 2, 1) := by decide +kernel
theorem dX9_words_13 : decode cX9_words 13 = .ok (.iload_n 1, 1) := by decide +kernel
theorem dX9_words_14 : decode cX9_words 14 = .ok (.invokestatic 314, 3) := by decide +kernel
theorem dX9_words_17 : decode cX9_words 17 = .ok (.istore_n 3, 1) := by decide +kernel
theorem dX9_words_18 : decode cX9_words 18 = .ok (.aload_n 0, 1) := by decide +kernel
theorem dX9_words_19 : decode cX9_words 19 = .ok (.getfield 303, 3) := by decide +kernel
theorem dX9_words_22 : decode cX9_words 22 = .ok (.ifCond .eq 76, 3) := by decide +kernel
theorem dX9_words_25 : decode cX9_words 25 = .ok (.iconst 0, 1) := by decide +kernel
theorem dX9_words_26 : decode cX9_words 26 = .ok (.istore 4, 2) := by decide +kernel
theorem dX9_words_28 : decode cX9_words 28 = .ok (.iload 4, 2) := by decide +kernel
theorem dX9_words_30 : decode cX9_words 30 = .ok (.iload_n 3, 1) := by decide +kernel
theorem dX9_words_31 : decode cX9_words 31 = .ok (.if_icmp .ge 53, 3) := by decide +kernel
theorem dX9_words_34 : decode cX9_words 34 = .ok (.iload 4, 2) := by decide +kernel
theorem dX9_words_36 : decode cX9_words 36 = .ok (.aload_n 0, 1) := by decide +kernel
theorem dX9_words_37 : decode cX9_words 37 = .ok (.getfield 61, 3) := by decide +kernel
theorem dX9_words_40 : decode cX9_words 40 = .ok (.iconst 3, 1) := by decide +kernel
theorem dX9_words_41 : decode cX9_words 41 = .ok (.aload_n 0, 1) := by decide +kernel
theorem dX9_words_42 : decode cX9_words 42 = .ok (.getfield 300, 3) := by decide +kernel
theorem dX9_words_45 : decode cX9_words 45 = .ok (.imul, 1) := by decide +kernel
theorem dX9_words_46 : decode cX9_words 46 = .ok (.iload_n 1, 1) := by decide +kernel
theorem dX9_words_47 : decode cX9_words 47 = .ok (.iadd, 1) := by decide +kernel
theorem dX9_words_48 : decode cX9_words 48 = .ok (.iaload, 1) := by decide +kernel
theorem dX9_words_49 : decode cX9_words 49 = .ok (.if_icmp .ge 15, 3) := by decide +kernel
theorem dX9_words_52 : decode cX9_words 52 = .ok (.aload_n 0, 1) := by decide +kernel
theorem dX9_words_53 : decode cX9_words 53 = .ok (.getfield 58, 3) := by decide +kernel
theorem dX9_words_56 : decode cX9_words 56 = .ok (.iload_n 2, 1) := by decide +kernel
theorem dX9_words_57 : decode cX9_words 57 = .ok (.iload 4, 2) := by decide +kernel
theorem dX9_words_59 : decode cX9_words 59 = .ok (.iadd, 1) := by decide +kernel
theorem dX9_words_60 : decode cX9_words 60 = .ok (.iaload, 1) := by decide +kernel
theorem dX9_words_61 : decode cX9_words 61 = .ok (.goto 4, 3) := by decide +kernel
theorem dX9_words_64 : decode cX9_words 64 = .ok (.iconst 0, 1) := by decide +kernel
theorem dX9_words_65 : decode cX9_words 65 = .ok (.istore 5, 2) := by decide +kernel
theorem dX9_words_67 : decode cX9_words 67 = .ok (.aload_n 0, 1) := by decide +kernel
theorem dX9_words_68 : decode cX9_words 68 = .ok (.iload 5, 2) := by decide +kernel
theorem dX9_words_70 : decode cX9_words 70 = .ok (.bipush 63, 2) := by decide +kernel
theorem dX9_words_72 : decode cX9_words 72 = .ok (.iand, 1) := by decide +kernel
theorem dX9_words_73 : decode cX9_words 73 = .ok (.bipush 6, 2) := by decide +kernel
theorem dX9_words_75 : decode cX9_words 75 = .ok (.invokevirtual 311, 3) := by decide +kernel
theorem dX9_words_78 : decode cX9_words 78 = .ok (.iinc 4 1, 3) := by decide +kernel
theorem dX9_words_81 : decode cX9_words 81 = .ok (.goto (-53), 3) := by decide +kernel
theorem dX9_words_84 : decode cX9_words 84 = .ok (.aload_n 0, 1) := by decide +kernel
theorem dX9_words_85 : decode cX9_words 85 = .ok (.dup, 1) := by decide +kernel
theorem dX9_words_86 : decode cX9_words 86 = .ok (.getfield 306, 3) := by decide +kernel
theorem dX9_words_89 : decode cX9_words 89 = .ok (.bipush 6, 2) := by decide +kernel
theorem dX9_words_91 : decode cX9_words 91 = .ok (.iload_n 3, 1) := by decide +kernel
theorem dX9_words_92 : decode cX9_words 92 = .ok (.imul, 1) := by decide +kernel
theorem dX9_words_93 : decode cX9_words 93 = .ok (.iadd, 1) := by decide +kernel
theorem dX9_words_94 : decode cX9_words 94 = .ok (.putfield 306, 3) := by decide +kernel
theorem dX9_words_97 : decode cX9_words 97 = .ok (.return_, 1) := by decide +kernel
theorem dX9_words_98 : decode cX9_words 98 = .ok (.iconst 0, 1) := by decide +kernel
theorem dX9_words_99 : decode cX9_words 99 = .ok (.istore 4, 2) := by decide +kernel
theorem dX9_words_101 : decode cX9_words 101 = .ok (.iconst 0, 1) := by decide +kernel
theorem dX9_words_102 : decode cX9_words 102 = .ok (.istore 5, 2) := by decide +kernel
theorem dX9_words_104 : decode cX9_words 104 = .ok (.iload 5, 2) := by decide +kernel
theorem dX9_words_106 : decode cX9_words 106 = .ok (.iload_n 3, 1) := by decide +kernel
theorem dX9_words_107 : decode cX9_words 107 = .ok (.if_icmp .ge 88, 3) := by decide +kernel
theorem dX9_words_110 : decode cX9_words 110 = .ok (.aload_n 0, 1) := by decide +kernel
theorem dX9_words_111 : decode cX9_words 111 = .ok (.aload_n 0, 1) := by decide +kernel
theorem dX9_words_112 : decode cX9_words 112 = .ok (.getfield 306, 3) := by decide +kernel
theorem dX9_words_115 : decode cX9_words 115 = .ok (.bipush 6, 2) := by decide +kernel
theorem dX9_words_117 : decode cX9_words 117 = .ok (.iload 5, 2) := by decide +kernel
theorem dX9_words_119 : decode cX9_words 119 = .ok (.imul, 1) := by decide +kernel
theorem dX9_words_120 : decode cX9_words 120 = .ok (.iadd, 1) := by decide +kernel
theorem dX9_words_121 : decode cX9_words 121 = .ok (.bipush 6, 2) := by decide +kernel
theorem dX9_words_123 : decode cX9_words 123 = .ok (.invokevirtual 286, 3) := by decide +kernel
theorem dX9_words_126 : decode cX9_words 126 = .ok (.ifCond .eq 69, 3) := by decide +kernel
theorem dX9_words_129 : decode cX9_words 129 = .ok (.aload_n 0, 1) := by decide +kernel
theorem dX9_words_130 : decode cX9_words 130 = .ok (.aload_n 0, 1) := by decide +kernel
theorem dX9_words_131 : decode cX9_words 131 = .ok (.getfield 306, 3) := by decide +kernel
theorem dX9_words_134 : decode cX9_words 134 = .ok (.bipush 6, 2) := by decide +kernel
theorem dX9_words_136 : decode cX9_words 136 = .ok (.iload 5, 2) := by decide +kernel
theorem dX9_words_138 : decode cX9_words 138 = .ok (.imul, 1) := by decide +kernel
theorem dX9_words_139 : decode cX9_words 139 = .ok (.iadd, 1) := by decide +kernel
theorem dX9_words_140 : decode cX9_words 140 = .ok (.bipush 6, 2) := by decide +kernel
theorem dX9_words_142 : decode cX9_words 142 = .ok (.invokevirtual 286, 3) := by decide +kernel
theorem dX9_words_145 : decode cX9_words 145 = .ok (.istore 6, 2) := by decide +kernel
theorem dX9_words_147 : decode cX9_words 147 = .ok (.aload_n 0, 1) := by decide +kernel
theorem dX9_words_148 : decode cX9_words 148 = .ok (.getfield 58, 3) := by decide +kernel
theorem dX9_words_151 : decode cX9_words 151 = .ok (.iload_n 2, 1) := by decide +kernel
theorem dX9_words_152 : decode cX9_words 152 = .ok (.iload 5, 2) := by decide +kernel
theorem dX9_words_154 : decode cX9_words 154 = .ok (.iadd, 1) := by decide +kernel
theorem dX9_words_155 : decode cX9_words 155 = .ok (.iload 6, 2) := by decide +kernel
theorem dX9_words_157 : decode cX9_words 157 = .ok (.bipush 32, 2) := by decide +kernel
theorem dX9_words_159 : decode cX9_words 159 = .ok (.if_icmp .ge 11, 3) := by decide +kernel
theorem dX9_words_162 : decode cX9_words 162 = .ok (.iload 6, 2) := by decide +kernel
theorem dX9_words_164 : decode cX9_words 164 = .ok (.bipush 64, 2) := by decide +kernel
theorem dX9_words_166 : decode cX9_words 166 = .ok (.iadd, 1) := by decide +kernel
theorem dX9_words_167 : decode cX9_words 167 = .ok (.goto 5, 3) := by decide +kernel
theorem dX9_words_170 : decode cX9_words 170 = .ok (.iload 6, 2) := by decide +kernel
theorem dX9_words_172 : decode cX9_words 172 = .ok (.iastore, 1) := by decide +kernel
theorem dX9_words_173 : decode cX9_words 173 = .ok (.iinc 5 1, 3) := by decide +kernel
theorem dX9_words_176 : decode cX9_words 176 = .ok (.iload 6, 2) := by decide +kernel
theorem dX9_words_178 : decode cX9_words 178 = .ok (.bipush 32, 2) := by decide +kernel
theorem dX9_words_180 : decode cX9_words 180 = .ok (.if_icmp .ne 8, 3) := by decide +kernel
theorem dX9_words_183 : decode cX9_words 183 = .ok (.iload 4, 2) := by decide +kernel
theorem dX9_words_185 : decode cX9_words 185 = .ok (.goto 5, 3) := by decide +kernel
theorem dX9_words_188 : decode cX9_words 188 = .ok (.iload 5, 2) := by decide +kernel
theorem dX9_words_190 : decode cX9_words 190 = .ok (.istore 4, 2) := by decide +kernel
theorem dX9_words_192 : decode cX9_words 192 = .ok (.goto (-88), 3) := by decide +kernel
theorem dX9_words_195 : decode cX9_words 195 = .ok (.aload_n 0, 1) := by decide +kernel
theorem dX9_words_196 : decode cX9_words 196 = .ok (.getfield 61, 3) := by decide +kernel
theorem dX9_words_199 : decode cX9_words 199 = .ok (.iconst 3, 1) := by decide +kernel
theorem dX9_words_200 : decode cX9_words 200 = .ok (.aload_n 0, 1) := by decide +kernel
theorem dX9_words_201 : decode cX9_words 201 = .ok (.getfield 300, 3) := by decide +kernel
theorem dX9_words_204 : decode cX9_words 204 = .ok (.imul, 1) := by decide +kernel
theorem dX9_words_205 : decode cX9_words 205 = .ok (.iload_n 1, 1) := by decide +kernel
theorem dX9_words_206 : decode cX9_words 206 = .ok (.iadd, 1) := by decide +kernel
theorem dX9_words_207 : decode cX9_words 207 = .ok (.iload 4, 2) := by decide +kernel
theorem dX9_words_209 : decode cX9_words 209 = .ok (.iastore, 1) := by decide +kernel
theorem dX9_words_210 : decode cX9_words 210 = .ok (.aload_n 0, 1) := by decide +kernel
theorem dX9_words_211 : decode cX9_words 211 = .ok (.dup, 1) := by decide +kernel
theorem dX9_words_212 : decode cX9_words 212 = .ok (.getfield 306, 3) := by decide +kernel
theorem dX9_words_215 : decode cX9_words 215 = .ok (.bipush 6, 2) := by decide +kernel
theorem dX9_words_217 : decode cX9_words 217 = .ok (.iload_n 3, 1) := by decide +kernel
theorem dX9_words_218 : decode cX9_words 218 = .ok (.imul, 1) := by decide +kernel
theorem dX9_words_219 : decode cX9_words 219 = .ok (.iadd, 1) := by decide +kernel
theorem dX9_words_220 : decode cX9_words 220 = .ok (.putfield 306, 3) := by decide +kernel
theorem dX9_words_223 : decode cX9_words 223 = .ok (.return_, 1) := by decide +kernel
theorem dX9_where_0 : decode cX9_where 0 = .ok (.aload_n 0, 1) := by decide +kernel
theorem dX9_where_1 : decode cX9_where 1 = .ok (.iconst 5, 1) := by decide +kernel
theorem dX9_where_2 : decode cX9_where 2 = .ok (.iconst 1, 1) := by decide +kernel
theorem dX9_where_3 : decode cX9_where 3 = .ok (.iconst 0, 1) := by decide +kernel
theorem dX9_where_4 : decode cX9_where 4 = .ok (.invokevirtual 317, 3) := by decide +kernel
theorem dX9_where_7 : decode cX9_where 7 = .ok (.aload_n 0, 1) := by decide +kernel
theorem dX9_where_8 : decode cX9_where 8 = .ok (.bipush 6, 2) := by decide +kernel
theorem dX9_where_10 : decode cX9_where 10 = .ok (.bipush 28, 2) := by decide +kernel
theorem dX9_where_12 : decode cX9_where 12 = .ok (.iconst 1, 1) := by decide +kernel
theorem dX9_where_13 : decode cX9_where 13 = .ok (.invokevirtual 317, 3) := by decide +kernel
theorem dX9_where_16 : decode cX9_where 16 = .ok (.aload_n 0, 1) := by decide +kernel
theorem dX9_where_17 : decode cX9_where 17 = .ok (.bipush 7, 2) := by decide +kernel
theorem dX9_where_19 : decode cX9_where 19 = .ok (.bipush 27, 2) := by decide +kernel
theorem dX9_where_21 : decode cX9_where 21 = .ok (.iconst 1, 1) := by decide +kernel
theorem dX9_where_22 : decode cX9_where 22 = .ok (.invokevirtual 317, 3) := by decide +kernel
theorem dX9_where_25 : decode cX9_where 25 = .ok (.return_, 1) := by decide +kernel
theorem dX9_way_0 : decode cX9_way 0 = .ok (.aload_n 0, 1) := by decide +kernel
theorem dX9_way_1 : decode cX9_way 1 = .ok (.bipush 8, 2) := by decide +kernel
theorem dX9_way_3 : decode cX9_way 3 = .ok (.bipush 12, 2) := by decide +kernel
theorem dX9_way_5 : decode cX9_way 5 = .ok (.iconst 0, 1) := by decide +kernel
theorem dX9_way_6 : decode cX9_way 6 = .ok (.invokevirtual 317, 3) := by decide +kernel
theorem dX9_way_9 : decode cX9_way 9 = .ok (.aload_n 0, 1) := by decide +kernel
theorem dX9_way_10 : decode cX9_way 10 = .ok (.bipush 9, 2) := by decide +kernel
theorem dX9_way_12 : decode cX9_way 12 = .ok (.bipush 9, 2) := by decide +kernel
theorem dX9_way_14 : decode cX9_way 14 = .ok (.iconst 0, 1) := by decide +kernel
theorem dX9_way_15 : decode cX9_way 15 = .ok (.invokevirtual 317, 3) := by decide +kernel
theorem dX9_way_18 : decode cX9_way 18 = .ok (.aload_n 0, 1) := by decide +kernel
theorem dX9_way_19 : decode cX9_way 19 = .ok (.bipush 10, 2) := by decide +kernel
theorem dX9_way_21 : decode cX9_way 21 = .ok (.bipush 6, 2) := by decide +kernel
theorem dX9_way_23 : decode cX9_way 23 = .ok (.iconst 0, 1) := by decide +kernel
theorem dX9_way_24 : decode cX9_way 24 = .ok (.invokevirtual 317, 3) := by decide +kernel
theorem dX9_way_27 : decode cX9_way 27 = .ok (.return_, 1) := by decide +kernel
theorem dX9_reports_0 : decode cX9_reports 0 = .ok (.aload_n 0, 1) := by decide +kernel
theorem dX9_reports_1 : decode cX9_reports 1 = .ok (.iload_n 1, 1) := by decide +kernel
theorem dX9_reports_2 : decode cX9_reports 2 = .ok (.putfield 300, 3) := by decide +kernel
theorem dX9_reports_5 : decode cX9_reports 5 = .ok (.aload_n 0, 1) := by decide +kernel
theorem dX9_reports_6 : decode cX9_reports 6 = .ok (.bipush 38, 2) := by decide +kernel
theorem dX9_reports_8 : decode cX9_reports 8 = .ok (.putfield 306, 3) := by decide +kernel
theorem dX9_reports_11 : decode cX9_reports 11 = .ok (.iload_n 2, 1) := by decide +kernel
theorem dX9_reports_12 : decode cX9_reports 12 = .ok (.iconst 4, 1) := by decide +kernel
theorem dX9_reports_13 : decode cX9_reports 13 = .ok (.if_icmp .ge 43, 3) := by decide +kernel
theorem dX9_reports_16 : decode cX9_reports 16 = .ok (.aload_n 0, 1) := by decide +kernel
theorem dX9_reports_17 : decode cX9_reports 17 = .ok (.iconst 2, 1) := by decide +kernel
theorem dX9_reports_18 : decode cX9_reports 18 = .ok (.iconst 4, 1) := by decide +kernel
theorem dX9_reports_19 : decode cX9_reports 19 = .ok (.iconst 0, 1) := by decide +kernel
theorem dX9_reports_20 : decode cX9_reports 20 = .ok (.invokevirtual 317, 3) := by decide +kernel
theorem dX9_reports_23 : decode cX9_reports 23 = .ok (.aload_n 0, 1) := by decide +kernel
theorem dX9_reports_24 : decode cX9_reports 24 = .ok (.iconst 3, 1) := by decide +kernel
theorem dX9_reports_25 : decode cX9_reports 25 = .ok (.bipush 8, 2) := by decide +kernel
theorem dX9_reports_27 : decode cX9_reports 27 = .ok (.iconst 1, 1) := by decide +kernel
theorem dX9_reports_28 : decode cX9_reports 28 = .ok (.invokevirtual 317, 3) := by decide +kernel
theorem dX9_reports_31 : decode cX9_reports 31 = .ok (.aload_n 0, 1) := by decide +kernel
theorem dX9_reports_32 : decode cX9_reports 32 = .ok (.iconst 4, 1) := by decide +kernel
theorem dX9_reports_33 : decode cX9_reports 33 = .ok (.bipush 10, 2) := by decide +kernel
theorem dX9_reports_35 : decode cX9_reports 35 = .ok (.iconst 0, 1) := by decide +kernel
theorem dX9_reports_36 : decode cX9_reports 36 = .ok (.invokevirtual 317, 3) := by decide +kernel
theorem dX9_reports_39 : decode cX9_reports 39 = .ok (.aload_n 0, 1) := by decide +kernel
theorem dX9_reports_40 : decode cX9_reports 40 = .ok (.invokevirtual 321, 3) := by decide +kernel
theorem dX9_reports_43 : decode cX9_reports 43 = .ok (.aload_n 0, 1) := by decide +kernel
theorem dX9_reports_44 : decode cX9_reports 44 = .ok (.invokevirtual 324, 3) := by decide +kernel
theorem dX9_reports_47 : decode cX9_reports 47 = .ok (.aload_n 0, 1) := by decide +kernel
theorem dX9_reports_48 : decode cX9_reports 48 = .ok (.bipush 25, 2) := by decide +kernel
theorem dX9_reports_50 : decode cX9_reports 50 = .ok (.invokevirtual 327, 3) := by decide +kernel
theorem dX9_reports_53 : decode cX9_reports 53 = .ok (.goto 113, 3) := by decide +kernel
theorem dX9_reports_56 : decode cX9_reports 56 = .ok (.iload_n 2, 1) := by decide +kernel
theorem dX9_reports_57 : decode cX9_reports 57 = .ok (.iconst 4, 1) := by decide +kernel
theorem dX9_reports_58 : decode cX9_reports 58 = .ok (.if_icmp .ne 67, 3) := by decide +kernel
theorem dX9_reports_61 : decode cX9_reports 61 = .ok (.aload_n 0, 1) := by decide +kernel
theorem dX9_reports_62 : decode cX9_reports 62 = .ok (.bipush 11, 2) := by decide +kernel
theorem dX9_reports_64 : decode cX9_reports 64 = .ok (.bipush 14, 2) := by decide +kernel
theorem dX9_reports_66 : decode cX9_reports 66 = .ok (.iconst 0, 1) := by decide +kernel
theorem dX9_reports_67 : decode cX9_reports 67 = .ok (.invokevirtual 317, 3) := by decide +kernel
theorem dX9_reports_70 : decode cX9_reports 70 = .ok (.aload_n 0, 1) := by decide +kernel
theorem dX9_reports_71 : decode cX9_reports 71 = .ok (.bipush 12, 2) := by decide +kernel
theorem dX9_reports_73 : decode cX9_reports 73 = .ok (.iconst 4, 1) := by decide +kernel
theorem dX9_reports_74 : decode cX9_reports 74 = .ok (.iconst 0, 1) := by decide +kernel
theorem dX9_reports_75 : decode cX9_reports 75 = .ok (.invokevirtual 317, 3) := by decide +kernel
theorem dX9_reports_78 : decode cX9_reports 78 = .ok (.aload_n 0, 1) := by decide +kernel
theorem dX9_reports_79 : decode cX9_reports 79 = .ok (.bipush 13, 2) := by decide +kernel
theorem dX9_reports_81 : decode cX9_reports 81 = .ok (.iconst 5, 1) := by decide +kernel
theorem dX9_reports_82 : decode cX9_reports 82 = .ok (.iconst 0, 1) := by decide +kernel
theorem dX9_reports_83 : decode cX9_reports 83 = .ok (.invokevirtual 317, 3) := by decide +kernel
theorem dX9_reports_86 : decode cX9_reports 86 = .ok (.aload_n 0, 1) := by decide +kernel
theorem dX9_reports_87 : decode cX9_reports 87 = .ok (.bipush 14, 2) := by decide +kernel
theorem dX9_reports_89 : decode cX9_reports 89 = .ok (.iconst 5, 1) := by decide +kernel
theorem dX9_reports_90 : decode cX9_reports 90 = .ok (.iconst 0, 1) := by decide +kernel
theorem dX9_reports_91 : decode cX9_reports 91 = .ok (.invokevirtual 317, 3) := by decide +kernel
theorem dX9_reports_94 : decode cX9_reports 94 = .ok (.aload_n 0, 1) := by decide +kernel
theorem dX9_reports_95 : decode cX9_reports 95 = .ok (.bipush 15, 2) := by decide +kernel
theorem dX9_reports_97 : decode cX9_reports 97 = .ok (.bipush 6, 2) := by decide +kernel
theorem dX9_reports_99 : decode cX9_reports 99 = .ok (.iconst 0, 1) := by decide +kernel
theorem dX9_reports_100 : decode cX9_reports 100 = .ok (.invokevirtual 317, 3) := by decide +kernel
theorem dX9_reports_103 : decode cX9_reports 103 = .ok (.aload_n 0, 1) := by decide +kernel
theorem dX9_reports_104 : decode cX9_reports 104 = .ok (.bipush 10, 2) := by decide +kernel
theorem dX9_reports_106 : decode cX9_reports 106 = .ok (.bipush 6, 2) := by decide +kernel
theorem dX9_reports_108 : decode cX9_reports 108 = .ok (.iconst 0, 1) := by decide +kernel
theorem dX9_reports_109 : decode cX9_reports 109 = .ok (.invokevirtual 317, 3) := by decide +kernel
theorem dX9_reports_112 : decode cX9_reports 112 = .ok (.aload_n 0, 1) := by decide +kernel
theorem dX9_reports_113 : decode cX9_reports 113 = .ok (.invokevirtual 321, 3) := by decide +kernel
theorem dX9_reports_116 : decode cX9_reports 116 = .ok (.aload_n 0, 1) := by decide +kernel
theorem dX9_reports_117 : decode cX9_reports 117 = .ok (.bipush 34, 2) := by decide +kernel
theorem dX9_reports_119 : decode cX9_reports 119 = .ok (.invokevirtual 327, 3) := by decide +kernel
theorem dX9_reports_122 : decode cX9_reports 122 = .ok (.goto 44, 3) := by decide +kernel
theorem dX9_reports_125 : decode cX9_reports 125 = .ok (.iload_n 2, 1) := by decide +kernel
theorem dX9_reports_126 : decode cX9_reports 126 = .ok (.bipush 18, 2) := by decide +kernel
theorem dX9_reports_128 : decode cX9_reports 128 = .ok (.if_icmp .ne 34, 3) := by decide +kernel
theorem dX9_reports_131 : decode cX9_reports 131 = .ok (.aload_n 0, 1) := by decide +kernel
theorem dX9_reports_132 : decode cX9_reports 132 = .ok (.bipush 8, 2) := by decide +kernel
theorem dX9_reports_134 : decode cX9_reports 134 = .ok (.invokevirtual 327, 3) := by decide +kernel
theorem dX9_reports_137 : decode cX9_reports 137 = .ok (.aload_n 0, 1) := by decide +kernel
theorem dX9_reports_138 : decode cX9_reports 138 = .ok (.iconst 4, 1) := by decide +kernel
theorem dX9_reports_139 : decode cX9_reports 139 = .ok (.bipush 10, 2) := by decide +kernel
theorem dX9_reports_141 : decode cX9_reports 141 = .ok (.iconst 0, 1) := by decide +kernel
theorem dX9_reports_142 : decode cX9_reports 142 = .ok (.invokevirtual 317, 3) := by decide +kernel
theorem dX9_reports_145 : decode cX9_reports 145 = .ok (.aload_n 0, 1) := by decide +kernel
theorem dX9_reports_146 : decode cX9_reports 146 = .ok (.invokevirtual 321, 3) := by decide +kernel
theorem dX9_reports_149 : decode cX9_reports 149 = .ok (.aload_n 0, 1) := by decide +kernel
theorem dX9_reports_150 : decode cX9_reports 150 = .ok (.invokevirtual 324, 3) := by decide +kernel
theorem dX9_reports_153 : decode cX9_reports 153 = .ok (.aload_n 0, 1) := by decide +kernel
theorem dX9_reports_154 : decode cX9_reports 154 = .ok (.bipush 29, 2) := by decide +kernel
theorem dX9_reports_156 : decode cX9_reports 156 = .ok (.invokevirtual 327, 3) := by decide +kernel
theorem dX9_reports_159 : decode cX9_reports 159 = .ok (.goto 7, 3) := by decide +kernel
theorem dX9_reports_162 : decode cX9_reports 162 = .ok (.aload_n 0, 1) := by decide +kernel
theorem dX9_reports_163 : decode cX9_reports 163 = .ok (.invokevirtual 330, 3) := by decide +kernel
theorem dX9_reports_166 : decode cX9_reports 166 = .ok (.return_, 1) := by decide +kernel
theorem dX9_still_0 : decode cX9_still 0 = .ok (.aload_n 0, 1) := by decide +kernel
theorem dX9_still_1 : decode cX9_still 1 = .ok (.iconst 2, 1) := by decide +kernel
theorem dX9_still_2 : decode cX9_still 2 = .ok (.invokevirtual 327, 3) := by decide +kernel
theorem dX9_still_5 : decode cX9_still 5 = .ok (.aload_n 0, 1) := by decide +kernel
theorem dX9_still_6 : decode cX9_still 6 = .ok (.bipush 16, 2) := by decide +kernel
theorem dX9_still_8 : decode cX9_still 8 = .ok (.bipush 30, 2) := by decide +kernel
theorem dX9_still_10 : decode cX9_still 10 = .ok (.iconst 0, 1) := by decide +kernel
theorem dX9_still_11 : decode cX9_still 11 = .ok (.invokevirtual 317, 3) := by decide +kernel
theorem dX9_still_14 : decode cX9_still 14 = .ok (.aload_n 0, 1) := by decide +kernel
theorem dX9_still_15 : decode cX9_still 15 = .ok (.iconst 0, 1) := by decide +kernel
theorem dX9_still_16 : decode cX9_still 16 = .ok (.invokevirtual 333, 3) := by decide +kernel
theorem dX9_still_19 : decode cX9_still 19 = .ok (.aload_n 0, 1) := by decide +kernel
theorem dX9_still_20 : decode cX9_still 20 = .ok (.iconst 1, 1) := by decide +kernel
theorem dX9_still_21 : decode cX9_still 21 = .ok (.invokevirtual 333, 3) := by decide +kernel
theorem dX9_still_24 : decode cX9_still 24 = .ok (.aload_n 0, 1) := by decide +kernel
theorem dX9_still_25 : decode cX9_still 25 = .ok (.bipush 17, 2) := by decide +kernel
theorem dX9_still_27 : decode cX9_still 27 = .ok (.bipush 8, 2) := by decide +kernel
theorem dX9_still_29 : decode cX9_still 29 = .ok (.iconst 0, 1) := by decide +kernel
theorem dX9_still_30 : decode cX9_still 30 = .ok (.invokevirtual 317, 3) := by decide +kernel
theorem dX9_still_33 : decode cX9_still 33 = .ok (.aload_n 0, 1) := by decide +kernel
theorem dX9_still_34 : decode cX9_still 34 = .ok (.bipush 18, 2) := by decide +kernel
theorem dX9_still_36 : decode cX9_still 36 = .ok (.bipush 9, 2) := by decide +kernel
theorem dX9_still_38 : decode cX9_still 38 = .ok (.iconst 0, 1) := by decide +kernel
theorem dX9_still_39 : decode cX9_still 39 = .ok (.invokevirtual 317, 3) := by decide +kernel
theorem dX9_still_42 : decode cX9_still 42 = .ok (.aload_n 0, 1) := by decide +kernel
theorem dX9_still_43 : decode cX9_still 43 = .ok (.bipush 19, 2) := by decide +kernel
theorem dX9_still_45 : decode cX9_still 45 = .ok (.bipush 9, 2) := by decide +kernel
theorem dX9_still_47 : decode cX9_still 47 = .ok (.iconst 0, 1) := by decide +kernel
theorem dX9_still_48 : decode cX9_still 48 = .ok (.invokevirtual 317, 3) := by decide +kernel
theorem dX9_still_51 : decode cX9_still 51 = .ok (.aload_n 0, 1) := by decide +kernel
theorem dX9_still_52 : decode cX9_still 52 = .ok (.bipush 20, 2) := by decide +kernel
theorem dX9_still_54 : decode cX9_still 54 = .ok (.bipush 6, 2) := by decide +kernel
theorem dX9_still_56 : decode cX9_still 56 = .ok (.iconst 0, 1) := by decide +kernel
theorem dX9_still_57 : decode cX9_still 57 = .ok (.invokevirtual 317, 3) := by decide +kernel
theorem dX9_still_60 : decode cX9_still 60 = .ok (.aload_n 0, 1) := by decide +kernel
theorem dX9_still_61 : decode cX9_still 61 = .ok (.bipush 21, 2) := by decide +kernel
theorem dX9_still_63 : decode cX9_still 63 = .ok (.bipush 6, 2) := by decide +kernel
theorem dX9_still_65 : decode cX9_still 65 = .ok (.iconst 0, 1) := by decide +kernel
theorem dX9_still_66 : decode cX9_still 66 = .ok (.invokevirtual 317, 3) := by decide +kernel
theorem dX9_still_69 : decode cX9_still 69 = .ok (.aload_n 0, 1) := by decide +kernel
theorem dX9_still_70 : decode cX9_still 70 = .ok (.iconst 4, 1) := by decide +kernel
theorem dX9_still_71 : decode cX9_still 71 = .ok (.invokevirtual 327, 3) := by decide +kernel
theorem dX9_still_74 : decode cX9_still 74 = .ok (.aload_n 0, 1) := by decide +kernel
theorem dX9_still_75 : decode cX9_still 75 = .ok (.bipush 12, 2) := by decide +kernel
theorem dX9_still_77 : decode cX9_still 77 = .ok (.iconst 4, 1) := by decide +kernel
theorem dX9_still_78 : decode cX9_still 78 = .ok (.iconst 0, 1) := by decide +kernel
theorem dX9_still_79 : decode cX9_still 79 = .ok (.invokevirtual 317, 3) := by decide +kernel
theorem dX9_still_82 : decode cX9_still 82 = .ok (.aload_n 0, 1) := by decide +kernel
theorem dX9_still_83 : decode cX9_still 83 = .ok (.bipush 13, 2) := by decide +kernel
theorem dX9_still_85 : decode cX9_still 85 = .ok (.iconst 5, 1) := by decide +kernel
theorem dX9_still_86 : decode cX9_still 86 = .ok (.iconst 0, 1) := by decide +kernel
theorem dX9_still_87 : decode cX9_still 87 = .ok (.invokevirtual 317, 3) := by decide +kernel
theorem dX9_still_90 : decode cX9_still 90 = .ok (.aload_n 0, 1) := by decide +kernel
theorem dX9_still_91 : decode cX9_still 91 = .ok (.bipush 14, 2) := by decide +kernel
theorem dX9_still_93 : decode cX9_still 93 = .ok (.iconst 5, 1) := by decide +kernel
theorem dX9_still_94 : decode cX9_still 94 = .ok (.iconst 0, 1) := by decide +kernel
theorem dX9_still_95 : decode cX9_still 95 = .ok (.invokevirtual 317, 3) := by decide +kernel
theorem dX9_still_98 : decode cX9_still 98 = .ok (.aload_n 0, 1) := by decide +kernel
theorem dX9_still_99 : decode cX9_still 99 = .ok (.bipush 15, 2) := by decide +kernel
theorem dX9_still_101 : decode cX9_still 101 = .ok (.bipush 6, 2) := by decide +kernel
theorem dX9_still_103 : decode cX9_still 103 = .ok (.iconst 0, 1) := by decide +kernel
theorem dX9_still_104 : decode cX9_still 104 = .ok (.invokevirtual 317, 3) := by decide +kernel
theorem dX9_still_107 : decode cX9_still 107 = .ok (.aload_n 0, 1) := by decide +kernel
theorem dX9_still_108 : decode cX9_still 108 = .ok (.bipush 22, 2) := by decide +kernel
theorem dX9_still_110 : decode cX9_still 110 = .ok (.bipush 8, 2) := by decide +kernel
theorem dX9_still_112 : decode cX9_still 112 = .ok (.iconst 0, 1) := by decide +kernel
theorem dX9_still_113 : decode cX9_still 113 = .ok (.invokevirtual 317, 3) := by decide +kernel
theorem dX9_still_116 : decode cX9_still 116 = .ok (.aload_n 0, 1) := by decide +kernel
theorem dX9_still_117 : decode cX9_still 117 = .ok (.iconst 2, 1) := by decide +kernel
theorem dX9_still_118 : decode cX9_still 118 = .ok (.invokevirtual 333, 3) := by decide +kernel
theorem dX9_still_121 : decode cX9_still 121 = .ok (.aload_n 0, 1) := by decide +kernel
theorem dX9_still_122 : decode cX9_still 122 = .ok (.iconst 2, 1) := by decide +kernel
theorem dX9_still_123 : decode cX9_still 123 = .ok (.invokevirtual 327, 3) := by decide +kernel
theorem dX9_still_126 : decode cX9_still 126 = .ok (.return_, 1) := by decide +kernel
theorem dX9_count_0 : decode cX9_count 0 = .ok (.aload_n 0, 1) := by decide +kernel
theorem dX9_count_1 : decode cX9_count 1 = .ok (.iconst 0, 1) := by decide +kernel
theorem dX9_count_2 : decode cX9_count 2 = .ok (.putfield 1, 3) := by decide +kernel
theorem dX9_count_5 : decode cX9_count 5 = .ok (.iload_n 1, 1) := by decide +kernel
theorem dX9_count_6 : decode cX9_count 6 = .ok (.i2l, 1) := by decide +kernel
theorem dX9_count_7 : decode cX9_count 7 = .ok (.lconst 0, 1) := by decide +kernel
theorem dX9_count_8 : decode cX9_count 8 = .ok (.ldc2_w 336, 3) := by decide +kernel
theorem dX9_count_11 : decode cX9_count 11 = .ok (.invokestatic 74, 3) := by decide +kernel
theorem dX9_count_14 : decode cX9_count 14 = .ok (.ifCond .eq 10, 3) := by decide +kernel
theorem dX9_count_17 : decode cX9_count 17 = .ok (.aload_n 0, 1) := by decide +kernel
theorem dX9_count_18 : decode cX9_count 18 = .ok (.getfield 23, 3) := by decide +kernel
theorem dX9_count_21 : decode cX9_count 21 = .ok (.iload_n 1, 1) := by decide +kernel
theorem dX9_count_22 : decode cX9_count 22 = .ok (.iaload, 1) := by decide +kernel
theorem dX9_count_23 : decode cX9_count 23 = .ok (.ireturn, 1) := by decide +kernel
theorem dX9_count_24 : decode cX9_count 24 = .ok (.iconst 0, 1) := by decide +kernel
theorem dX9_count_25 : decode cX9_count 25 = .ok (.istore_n 2, 1) := by decide +kernel
theorem dX9_count_26 : decode cX9_count 26 = .ok (.iconst 0, 1) := by decide +kernel
theorem dX9_count_27 : decode cX9_count 27 = .ok (.istore_n 3, 1) := by decide +kernel
theorem dX9_count_28 : decode cX9_count 28 = .ok (.iload_n 3, 1) := by decide +kernel
theorem dX9_count_29 : decode cX9_count 29 = .ok (.bipush 11, 2) := by decide +kernel
theorem dX9_count_31 : decode cX9_count 31 = .ok (.if_icmp .ge 18, 3) := by decide +kernel
theorem dX9_count_34 : decode cX9_count 34 = .ok (.iload_n 2, 1) := by decide +kernel
theorem dX9_count_35 : decode cX9_count 35 = .ok (.aload_n 0, 1) := by decide +kernel
theorem dX9_count_36 : decode cX9_count 36 = .ok (.getfield 41, 3) := by decide +kernel
theorem dX9_count_39 : decode cX9_count 39 = .ok (.iload_n 3, 1) := by decide +kernel
theorem dX9_count_40 : decode cX9_count 40 = .ok (.iaload, 1) := by decide +kernel
theorem dX9_count_41 : decode cX9_count 41 = .ok (.iadd, 1) := by decide +kernel
theorem dX9_count_42 : decode cX9_count 42 = .ok (.istore_n 2, 1) := by decide +kernel
theorem dX9_count_43 : decode cX9_count 43 = .ok (.iinc 3 1, 3) := by decide +kernel
theorem dX9_count_46 : decode cX9_count 46 = .ok (.goto (-18), 3) := by decide +kernel
theorem dX9_count_49 : decode cX9_count 49 = .ok (.iload_n 1, 1) := by decide +kernel
theorem dX9_count_50 : decode cX9_count 50 = .ok (.tableswitch 67 9 13 #[34, 39, 44, 49, 65], 34) := by decide +kernel
theorem dX9_count_84 : decode cX9_count 84 = .ok (.aload_n 0, 1) := by decide +kernel
theorem dX9_count_85 : decode cX9_count 85 = .ok (.getfield 289, 3) := by decide +kernel
theorem dX9_count_88 : decode cX9_count 88 = .ok (.ireturn, 1) := by decide +kernel
theorem dX9_count_89 : decode cX9_count 89 = .ok (.aload_n 0, 1) := by decide +kernel
theorem dX9_count_90 : decode cX9_count 90 = .ok (.getfield 70, 3) := by decide +kernel
theorem dX9_count_93 : decode cX9_count 93 = .ok (.ireturn, 1) := by decide +kernel
theorem dX9_count_94 : decode cX9_count 94 = .ok (.aload_n 0, 1) := by decide +kernel
theorem dX9_count_95 : decode cX9_count 95 = .ok (.getfield 338, 3) := by decide +kernel
theorem dX9_count_98 : decode cX9_count 98 = .ok (.ireturn, 1) := by decide +kernel
theorem dX9_count_99 : decode cX9_count 99 = .ok (.aload_n 0, 1) := by decide +kernel
theorem dX9_count_100 : decode cX9_count 100 = .ok (.getfield 90, 3) := by decide +kernel
theorem dX9_count_103 : decode cX9_count 103 = .ok (.ifCond .ne 7, 3) := by decide +kernel
theorem dX9_count_106 : decode cX9_count 106 = .ok (.iconst 0, 1) := by decide +kernel
theorem dX9_count_107 : decode cX9_count 107 = .ok (.goto 7, 3) := by decide +kernel
theorem dX9_count_110 : decode cX9_count 110 = .ok (.aload_n 0, 1) := by decide +kernel
theorem dX9_count_111 : decode cX9_count 111 = .ok (.getfield 93, 3) := by decide +kernel
theorem dX9_count_114 : decode cX9_count 114 = .ok (.ireturn, 1) := by decide +kernel
theorem dX9_count_115 : decode cX9_count 115 = .ok (.iload_n 2, 1) := by decide +kernel
theorem dX9_count_116 : decode cX9_count 116 = .ok (.ireturn, 1) := by decide +kernel
theorem dX9_count_117 : decode cX9_count 117 = .ok (.ldc 73, 2) := by decide +kernel
theorem dX9_count_119 : decode cX9_count 119 = .ok (.ireturn, 1) := by decide +kernel
theorem dX9_fix_0 : decode cX9_fix 0 = .ok (.aload_n 0, 1) := by decide +kernel
theorem dX9_fix_1 : decode cX9_fix 1 = .ok (.iconst 0, 1) := by decide +kernel
theorem dX9_fix_2 : decode cX9_fix 2 = .ok (.putfield 1, 3) := by decide +kernel
theorem dX9_fix_5 : decode cX9_fix 5 = .ok (.iload_n 1, 1) := by decide +kernel
theorem dX9_fix_6 : decode cX9_fix 6 = .ok (.i2l, 1) := by decide +kernel
theorem dX9_fix_7 : decode cX9_fix 7 = .ok (.lconst 0, 1) := by decide +kernel
theorem dX9_fix_8 : decode cX9_fix 8 = .ok (.ldc2_w 341, 3) := by decide +kernel
theorem dX9_fix_11 : decode cX9_fix 11 = .ok (.invokestatic 74, 3) := by decide +kernel
theorem dX9_fix_14 : decode cX9_fix 14 = .ok (.ifCond .eq 12, 3) := by decide +kernel
theorem dX9_fix_17 : decode cX9_fix 17 = .ok (.aload_n 0, 1) := by decide +kernel
theorem dX9_fix_18 : decode cX9_fix 18 = .ok (.getfield 35, 3) := by decide +kernel
theorem dX9_fix_21 : decode cX9_fix 21 = .ok (.iload_n 1, 1) := by decide +kernel
theorem dX9_fix_22 : decode cX9_fix 22 = .ok (.iaload, 1) := by decide +kernel
theorem dX9_fix_23 : decode cX9_fix 23 = .ok (.goto 8, 3) := by decide +kernel
theorem dX9_fix_26 : decode cX9_fix 26 = .ok (.aload_n 0, 1) := by decide +kernel
theorem dX9_fix_27 : decode cX9_fix 27 = .ok (.iconst 1, 1) := by decide +kernel
theorem dX9_fix_28 : decode cX9_fix 28 = .ok (.invokevirtual 343, 3) := by decide +kernel
theorem dX9_fix_31 : decode cX9_fix 31 = .ok (.ireturn, 1) := by decide +kernel
theorem dX9_find_0 : decode cX9_find 0 = .ok (.aload_n 0, 1) := by decide +kernel
theorem dX9_find_1 : decode cX9_find 1 = .ok (.iconst 0, 1) := by decide +kernel
theorem dX9_find_2 : decode cX9_find 2 = .ok (.putfield 1, 3) := by decide +kernel
theorem dX9_find_5 : decode cX9_find 5 = .ok (.aload_n 0, 1) := by decide +kernel
theorem dX9_find_6 : decode cX9_find 6 = .ok (.iload_n 1, 1) := by decide +kernel
theorem dX9_find_7 : decode cX9_find 7 = .ok (.invokevirtual 294, 3) := by decide +kernel
theorem dX9_find_10 : decode cX9_find 10 = .ok (.ireturn, 1) := by decide +kernel
theorem dX9_vessel_0 : decode cX9_vessel 0 = .ok (.aload_n 0, 1) := by decide +kernel
theorem dX9_vessel_1 : decode cX9_vessel 1 = .ok (.iconst 0, 1) := by decide +kernel
theorem dX9_vessel_2 : decode cX9_vessel 2 = .ok (.putfield 1, 3) := by decide +kernel
theorem dX9_vessel_5 : decode cX9_vessel 5 = .ok (.iload_n 1, 1) := by decide +kernel
theorem dX9_vessel_6 : decode cX9_vessel 6 = .ok (.i2l, 1) := by decide +kernel
theorem dX9_vessel_7 : decode cX9_vessel 7 = .ok (.lconst 0, 1) := by decide +kernel
theorem dX9_vessel_8 : decode cX9_vessel 8 = .ok (.aload_n 0, 1) := by decide +kernel
theorem dX9_vessel_9 : decode cX9_vessel 9 = .ok (.getfield 289, 3) := by decide +kernel
theorem dX9_vessel_12 : decode cX9_vessel 12 = .ok (.iconst 1, 1) := by decide +kernel
theorem dX9_vessel_13 : decode cX9_vessel 13 = .ok (.isub, 1) := by decide +kernel
theorem dX9_vessel_14 : decode cX9_vessel 14 = .ok (.i2l, 1) := by decide +kernel
theorem dX9_vessel_15 : decode cX9_vessel 15 = .ok (.invokestatic 74, 3) := by decide +kernel
theorem dX9_vessel_18 : decode cX9_vessel 18 = .ok (.ifCond .eq 29, 3) := by decide +kernel
theorem dX9_vessel_21 : decode cX9_vessel 21 = .ok (.iload_n 2, 1) := by decide +kernel
theorem dX9_vessel_22 : decode cX9_vessel 22 = .ok (.i2l, 1) := by decide +kernel
theorem dX9_vessel_23 : decode cX9_vessel 23 = .ok (.lconst 0, 1) := by decide +kernel
theorem dX9_vessel_24 : decode cX9_vessel 24 = .ok (.ldc2_w 346, 3) := by decide +kernel
theorem dX9_vessel_27 : decode cX9_vessel 27 = .ok (.invokestatic 74, 3) := by decide +kernel
theorem dX9_vessel_30 : decode cX9_vessel 30 = .ok (.ifCond .ne 23, 3) := by decide +kernel
theorem dX9_vessel_33 : decode cX9_vessel 33 = .ok (.iload_n 2, 1) := by decide +kernel
theorem dX9_vessel_34 : decode cX9_vessel 34 = .ok (.i2l, 1) := by decide +kernel
theorem dX9_vessel_35 : decode cX9_vessel 35 = .ok (.ldc2_w 348, 3) := by decide +kernel
theorem dX9_vessel_38 : decode cX9_vessel 38 = .ok (.ldc2_w 99, 3) := by decide +kernel
theorem dX9_vessel_41 : decode cX9_vessel 41 = .ok (.invokestatic 74, 3) := by decide +kernel
theorem dX9_vessel_44 : decode cX9_vessel 44 = .ok (.ifCond .ne 9, 3) := by decide +kernel
theorem dX9_vessel_47 : decode cX9_vessel 47 = .ok (.aload_n 0, 1) := by decide +kernel
theorem dX9_vessel_48 : decode cX9_vessel 48 = .ok (.iconst 1, 1) := by decide +kernel
theorem dX9_vessel_49 : decode cX9_vessel 49 = .ok (.invokevirtual 343, 3) := by decide +kernel
theorem dX9_vessel_52 : decode cX9_vessel 52 = .ok (.ireturn, 1) := by decide +kernel
theorem dX9_vessel_53 : decode cX9_vessel 53 = .ok (.iload_n 2, 1) := by decide +kernel
theorem dX9_vessel_54 : decode cX9_vessel 54 = .ok (.bipush 24, 2) := by decide +kernel
theorem dX9_vessel_56 : decode cX9_vessel 56 = .ok (.if_icmp .ge 17, 3) := by decide +kernel
theorem dX9_vessel_59 : decode cX9_vessel 59 = .ok (.aload_n 0, 1) := by decide +kernel
theorem dX9_vessel_60 : decode cX9_vessel 60 = .ok (.getfield 55, 3) := by decide +kernel
theorem dX9_vessel_63 : decode cX9_vessel 63 = .ok (.bipush 24, 2) := by decide +kernel
theorem dX9_vessel_65 : decode cX9_vessel 65 = .ok (.iload_n 1, 1) := by decide +kernel
theorem dX9_vessel_66 : decode cX9_vessel 66 = .ok (.imul, 1) := by decide +kernel
theorem dX9_vessel_67 : decode cX9_vessel 67 = .ok (.iload_n 2, 1) := by decide +kernel
theorem dX9_vessel_68 : decode cX9_vessel 68 = .ok (.iadd, 1) := by decide +kernel
theorem dX9_vessel_69 : decode cX9_vessel 69 = .ok (.iaload, 1) := by decide +kernel
theorem dX9_vessel_70 : decode cX9_vessel 70 = .ok (.goto 16, 3) := by decide +kernel
theorem dX9_vessel_73 : decode cX9_vessel 73 = .ok (.aload_n 0, 1) := by decide +kernel
theorem dX9_vessel_74 : decode cX9_vessel 74 = .ok (.getfield 61, 3) := by decide +kernel
theorem dX9_vessel_77 : decode cX9_vessel 77 = .ok (.iconst 3, 1) := by decide +kernel
theorem dX9_vessel_78 : decode cX9_vessel 78 = .ok (.iload_n 1, 1) := by decide +kernel
theorem dX9_vessel_79 : decode cX9_vessel 79 = .ok (.imul, 1) := by decide +kernel
theorem dX9_vessel_80 : decode cX9_vessel 80 = .ok (.iload_n 2, 1) := by decide +kernel
theorem dX9_vessel_81 : decode cX9_vessel 81 = .ok (.iadd, 1) := by decide +kernel
theorem dX9_vessel_82 : decode cX9_vessel 82 = .ok (.bipush 30, 2) := by decide +kernel
theorem dX9_vessel_84 : decode cX9_vessel 84 = .ok (.isub, 1) := by decide +kernel
theorem dX9_vessel_85 : decode cX9_vessel 85 = .ok (.iaload, 1) := by decide +kernel
theorem dX9_vessel_86 : decode cX9_vessel 86 = .ok (.ireturn, 1) := by decide +kernel
theorem dX9_letter_0 : decode cX9_letter 0 = .ok (.aload_n 0, 1) := by decide +kernel
theorem dX9_letter_1 : decode cX9_letter 1 = .ok (.iconst 0, 1) := by decide +kernel
theorem dX9_letter_2 : decode cX9_letter 2 = .ok (.putfield 1, 3) := by decide +kernel
theorem dX9_letter_5 : decode cX9_letter 5 = .ok (.iload_n 1, 1) := by decide +kernel
theorem dX9_letter_6 : decode cX9_letter 6 = .ok (.i2l, 1) := by decide +kernel
theorem dX9_letter_7 : decode cX9_letter 7 = .ok (.lconst 0, 1) := by decide +kernel
theorem dX9_letter_8 : decode cX9_letter 8 = .ok (.aload_n 0, 1) := by decide +kernel
theorem dX9_letter_9 : decode cX9_letter 9 = .ok (.getfield 289, 3) := by decide +kernel
theorem dX9_letter_12 : decode cX9_letter 12 = .ok (.iconst 1, 1) := by decide +kernel
theorem dX9_letter_13 : decode cX9_letter 13 = .ok (.isub, 1) := by decide +kernel
theorem dX9_letter_14 : decode cX9_letter 14 = .ok (.i2l, 1) := by decide +kernel
theorem dX9_letter_15 : decode cX9_letter 15 = .ok (.invokestatic 74, 3) := by decide +kernel
theorem dX9_letter_18 : decode cX9_letter 18 = .ok (.ifCond .eq 37, 3) := by decide +kernel
theorem dX9_letter_21 : decode cX9_letter 21 = .ok (.iload_n 2, 1) := by decide +kernel
theorem dX9_letter_22 : decode cX9_letter 22 = .ok (.i2l, 1) := by decide +kernel
theorem dX9_letter_23 : decode cX9_letter 23 = .ok (.lconst 0, 1) := by decide +kernel
theorem dX9_letter_24 : decode cX9_letter 24 = .ok (.ldc2_w 350, 3) := by decide +kernel
theorem dX9_letter_27 : decode cX9_letter 27 = .ok (.invokestatic 74, 3) := by decide +kernel
theorem dX9_letter_30 : decode cX9_letter 30 = .ok (.ifCond .eq 25, 3) := by decide +kernel
theorem dX9_letter_33 : decode cX9_letter 33 = .ok (.iload_n 3, 1) := by decide +kernel
theorem dX9_letter_34 : decode cX9_letter 34 = .ok (.i2l, 1) := by decide +kernel
theorem dX9_letter_35 : decode cX9_letter 35 = .ok (.lconst 0, 1) := by decide +kernel
theorem dX9_letter_36 : decode cX9_letter 36 = .ok (.aload_n 0, 1) := by decide +kernel
theorem dX9_letter_37 : decode cX9_letter 37 = .ok (.getfield 61, 3) := by decide +kernel
theorem dX9_letter_40 : decode cX9_letter 40 = .ok (.iconst 3, 1) := by decide +kernel
theorem dX9_letter_41 : decode cX9_letter 41 = .ok (.iload_n 1, 1) := by decide +kernel
theorem dX9_letter_42 : decode cX9_letter 42 = .ok (.imul, 1) := by decide +kernel
theorem dX9_letter_43 : decode cX9_letter 43 = .ok (.iload_n 2, 1) := by decide +kernel
theorem dX9_letter_44 : decode cX9_letter 44 = .ok (.iadd, 1) := by decide +kernel
theorem dX9_letter_45 : decode cX9_letter 45 = .ok (.iaload, 1) := by decide +kernel
theorem dX9_letter_46 : decode cX9_letter 46 = .ok (.iconst 1, 1) := by decide +kernel
theorem dX9_letter_47 : decode cX9_letter 47 = .ok (.isub, 1) := by decide +kernel
theorem dX9_letter_48 : decode cX9_letter 48 = .ok (.i2l, 1) := by decide +kernel
theorem dX9_letter_49 : decode cX9_letter 49 = .ok (.invokestatic 74, 3) := by decide +kernel
theorem dX9_letter_52 : decode cX9_letter 52 = .ok (.ifCond .ne 6, 3) := by decide +kernel
theorem dX9_letter_55 : decode cX9_letter 55 = .ok (.ldc 73, 2) := by decide +kernel
theorem dX9_letter_57 : decode cX9_letter 57 = .ok (.ireturn, 1) := by decide +kernel
theorem dX9_letter_58 : decode cX9_letter 58 = .ok (.aload_n 0, 1) := by decide +kernel
theorem dX9_letter_59 : decode cX9_letter 59 = .ok (.getfield 58, 3) := by decide +kernel
theorem dX9_letter_62 : decode cX9_letter 62 = .ok (.bipush 60, 2) := by decide +kernel
theorem dX9_letter_64 : decode cX9_letter 64 = .ok (.iload_n 1, 1) := by decide +kernel
theorem dX9_letter_65 : decode cX9_letter 65 = .ok (.imul, 1) := by decide +kernel
theorem dX9_letter_66 : decode cX9_letter 66 = .ok (.bipush 20, 2) := by decide +kernel
theorem dX9_letter_68 : decode cX9_letter 68 = .ok (.iload_n 2, 1) := by decide +kernel
theorem dX9_letter_69 : decode cX9_letter 69 = .ok (.imul, 1) := by decide +kernel
theorem dX9_letter_70 : decode cX9_letter 70 = .ok (.iadd, 1) := by decide +kernel
theorem dX9_letter_71 : decode cX9_letter 71 = .ok (.iload_n 3, 1) := by decide +kernel
theorem dX9_letter_72 : decode cX9_letter 72 = .ok (.iadd, 1) := by decide +kernel
theorem dX9_letter_73 : decode cX9_letter 73 = .ok (.iaload, 1) := by decide +kernel
theorem dX9_letter_74 : decode cX9_letter 74 = .ok (.ireturn, 1) := by decide +kernel
theorem dX9_bits_0 : decode cX9_bits 0 = .ok (.aload_n 0, 1) := by decide +kernel
theorem dX9_bits_1 : decode cX9_bits 1 = .ok (.iconst 0, 1) := by decide +kernel
theorem dX9_bits_2 : decode cX9_bits 2 = .ok (.putfield 1, 3) := by decide +kernel
theorem dX9_bits_5 : decode cX9_bits 5 = .ok (.aload_n 0, 1) := by decide +kernel
theorem dX9_bits_6 : decode cX9_bits 6 = .ok (.getfield 280, 3) := by decide +kernel
theorem dX9_bits_9 : decode cX9_bits 9 = .ok (.ifCond .eq 33, 3) := by decide +kernel
theorem dX9_bits_12 : decode cX9_bits 12 = .ok (.iload_n 2, 1) := by decide +kernel
theorem dX9_bits_13 : decode cX9_bits 13 = .ok (.i2l, 1) := by decide +kernel
theorem dX9_bits_14 : decode cX9_bits 14 = .ok (.lconst 1, 1) := by decide +kernel
theorem dX9_bits_15 : decode cX9_bits 15 = .ok (.ldc2_w 99, 3) := by decide +kernel
theorem dX9_bits_18 : decode cX9_bits 18 = .ok (.invokestatic 74, 3) := by decide +kernel
theorem dX9_bits_21 : decode cX9_bits 21 = .ok (.ifCond .eq 21, 3) := by decide +kernel
theorem dX9_bits_24 : decode cX9_bits 24 = .ok (.iload_n 1, 1) := by decide +kernel
theorem dX9_bits_25 : decode cX9_bits 25 = .ok (.ifCond .lt 17, 3) := by decide +kernel
theorem dX9_bits_28 : decode cX9_bits 28 = .ok (.iload_n 1, 1) := by decide +kernel
theorem dX9_bits_29 : decode cX9_bits 29 = .ok (.i2l, 1) := by decide +kernel
theorem dX9_bits_30 : decode cX9_bits 30 = .ok (.iload_n 2, 1) := by decide +kernel
theorem dX9_bits_31 : decode cX9_bits 31 = .ok (.i2l, 1) := by decide +kernel
theorem dX9_bits_32 : decode cX9_bits 32 = .ok (.ladd, 1) := by decide +kernel
theorem dX9_bits_33 : decode cX9_bits 33 = .ok (.aload_n 0, 1) := by decide +kernel
theorem dX9_bits_34 : decode cX9_bits 34 = .ok (.getfield 277, 3) := by decide +kernel
theorem dX9_bits_37 : decode cX9_bits 37 = .ok (.i2l, 1) := by decide +kernel
theorem dX9_bits_38 : decode cX9_bits 38 = .ok (.lcmp, 1) := by decide +kernel
theorem dX9_bits_39 : decode cX9_bits 39 = .ok (.ifCond .le 9, 3) := by decide +kernel
theorem dX9_bits_42 : decode cX9_bits 42 = .ok (.aload_n 0, 1) := by decide +kernel
theorem dX9_bits_43 : decode cX9_bits 43 = .ok (.iconst 1, 1) := by decide +kernel
theorem dX9_bits_44 : decode cX9_bits 44 = .ok (.invokevirtual 343, 3) := by decide +kernel
theorem dX9_bits_47 : decode cX9_bits 47 = .ok (.ireturn, 1) := by decide +kernel
theorem dX9_bits_48 : decode cX9_bits 48 = .ok (.aload_n 0, 1) := by decide +kernel
theorem dX9_bits_49 : decode cX9_bits 49 = .ok (.iload_n 1, 1) := by decide +kernel
theorem dX9_bits_50 : decode cX9_bits 50 = .ok (.iload_n 2, 1) := by decide +kernel
theorem dX9_bits_51 : decode cX9_bits 51 = .ok (.invokevirtual 286, 3) := by decide +kernel
theorem dX9_bits_54 : decode cX9_bits 54 = .ok (.ireturn, 1) := by decide +kernel
theorem dX9_put_0 : decode cX9_put 0 = .ok (.iload_n 2, 1) := by decide +kernel
theorem dX9_put_1 : decode cX9_put 1 = .ok (.iconst 1, 1) := by decide +kernel
theorem dX9_put_2 : decode cX9_put 2 = .ok (.isub, 1) := by decide +kernel
theorem dX9_put_3 : decode cX9_put 3 = .ok (.istore_n 3, 1) := by decide +kernel
theorem dX9_put_4 : decode cX9_put 4 = .ok (.iload_n 3, 1) := by decide +kernel
theorem dX9_put_5 : decode cX9_put 5 = .ok (.ifCond .lt 42, 3) := by decide +kernel
theorem dX9_put_8 : decode cX9_put 8 = .ok (.aload_n 0, 1) := by decide +kernel
theorem dX9_put_9 : decode cX9_put 9 = .ok (.getfield 64, 3) := by decide +kernel
theorem dX9_put_12 : decode cX9_put 12 = .ok (.aload_n 0, 1) := by decide +kernel
theorem dX9_put_13 : decode cX9_put 13 = .ok (.getfield 352, 3) := by decide +kernel
theorem dX9_put_16 : decode cX9_put 16 = .ok (.iload_n 1, 1) := by decide +kernel
theorem dX9_put_17 : decode cX9_put 17 = .ok (.iload_n 3, 1) := by decide +kernel
theorem dX9_put_18 : decode cX9_put 18 = .ok (.ishr, 1) := by decide +kernel
theorem dX9_put_19 : decode cX9_put 19 = .ok (.iconst 1, 1) := by decide +kernel
theorem dX9_put_20 : decode cX9_put 20 = .ok (.iand, 1) := by decide +kernel
theorem dX9_put_21 : decode cX9_put 21 = .ok (.iconst 1, 1) := by decide +kernel
theorem dX9_put_22 : decode cX9_put 22 = .ok (.if_icmp .ne 7, 3) := by decide +kernel
theorem dX9_put_25 : decode cX9_put 25 = .ok (.iconst 1, 1) := by decide +kernel
theorem dX9_put_26 : decode cX9_put 26 = .ok (.goto 4, 3) := by decide +kernel
theorem dX9_put_29 : decode cX9_put 29 = .ok (.iconst 0, 1) := by decide +kernel
theorem dX9_put_30 : decode cX9_put 30 = .ok (.bastore, 1) := by decide +kernel
theorem dX9_put_31 : decode cX9_put 31 = .ok (.aload_n 0, 1) := by decide +kernel
theorem dX9_put_32 : decode cX9_put 32 = .ok (.dup, 1) := by decide +kernel
theorem dX9_put_33 : decode cX9_put 33 = .ok (.getfield 352, 3) := by decide +kernel
theorem dX9_put_36 : decode cX9_put 36 = .ok (.iconst 1, 1) := by decide +kernel
theorem dX9_put_37 : decode cX9_put 37 = .ok (.iadd, 1) := by decide +kernel
theorem dX9_put_38 : decode cX9_put 38 = .ok (.putfield 352, 3) := by decide +kernel
theorem dX9_put_41 : decode cX9_put 41 = .ok (.iinc 3 (-1), 3) := by decide +kernel
theorem dX9_put_44 : decode cX9_put 44 = .ok (.goto (-40), 3) := by decide +kernel
theorem dX9_put_47 : decode cX9_put 47 = .ok (.return_, 1) := by decide +kernel
theorem dX9_write_0 : decode cX9_write 0 = .ok (.aload_n 0, 1) := by decide +kernel
theorem dX9_write_1 : decode cX9_write 1 = .ok (.getfield 17, 3) := by decide +kernel
theorem dX9_write_4 : decode cX9_write 4 = .ok (.aload_n 0, 1) := by decide +kernel
theorem dX9_write_5 : decode cX9_write 5 = .ok (.getfield 338, 3) := by decide +kernel
theorem dX9_write_8 : decode cX9_write 8 = .ok (.iload_n 1, 1) := by decide +kernel
theorem dX9_write_9 : decode cX9_write 9 = .ok (.iastore, 1) := by decide +kernel
theorem dX9_write_10 : decode cX9_write 10 = .ok (.aload_n 0, 1) := by decide +kernel
theorem dX9_write_11 : decode cX9_write 11 = .ok (.dup, 1) := by decide +kernel
theorem dX9_write_12 : decode cX9_write 12 = .ok (.getfield 338, 3) := by decide +kernel
theorem dX9_write_15 : decode cX9_write 15 = .ok (.iconst 1, 1) := by decide +kernel
theorem dX9_write_16 : decode cX9_write 16 = .ok (.iadd, 1) := by decide +kernel
theorem dX9_write_17 : decode cX9_write 17 = .ok (.putfield 338, 3) := by decide +kernel
theorem dX9_write_20 : decode cX9_write 20 = .ok (.aload_n 0, 1) := by decide +kernel
theorem dX9_write_21 : decode cX9_write 21 = .ok (.iload_n 1, 1) := by decide +kernel
theorem dX9_write_22 : decode cX9_write 22 = .ok (.bipush 33, 2) := by decide +kernel
theorem dX9_write_24 : decode cX9_write 24 = .ok (.if_icmp .ne 7, 3) := by decide +kernel
theorem dX9_write_27 : decode cX9_write 27 = .ok (.iconst 0, 1) := by decide +kernel
theorem dX9_write_28 : decode cX9_write 28 = .ok (.goto 9, 3) := by decide +kernel
theorem dX9_write_31 : decode cX9_write 31 = .ok (.aload_n 0, 1) := by decide +kernel
theorem dX9_write_32 : decode cX9_write 32 = .ok (.getfield 355, 3) := by decide +kernel
theorem dX9_write_35 : decode cX9_write 35 = .ok (.iload_n 1, 1) := by decide +kernel
theorem dX9_write_36 : decode cX9_write 36 = .ok (.ixor, 1) := by decide +kernel
theorem dX9_write_37 : decode cX9_write 37 = .ok (.putfield 355, 3) := by decide +kernel
theorem dX9_write_40 : decode cX9_write 40 = .ok (.return_, 1) := by decide +kernel
theorem dX9_writeAll_0 : decode cX9_writeAll 0 = .ok (.iconst 0, 1) := by decide +kernel
theorem dX9_writeAll_1 : decode cX9_writeAll 1 = .ok (.istore_n 2, 1) := by decide +kernel
theorem dX9_writeAll_2 : decode cX9_writeAll 2 = .ok (.iload_n 2, 1) := by decide +kernel
theorem dX9_writeAll_3 : decode cX9_writeAll 3 = .ok (.aload_n 1, 1) := by decide +kernel
theorem dX9_writeAll_4 : decode cX9_writeAll 4 = .ok (.invokevirtual 187, 3) := by decide +kernel
theorem dX9_writeAll_7 : decode cX9_writeAll 7 = .ok (.if_icmp .ge 18, 3) := by decide +kernel
theorem dX9_writeAll_10 : decode cX9_writeAll 10 = .ok (.aload_n 0, 1) := by decide +kernel
theorem dX9_writeAll_11 : decode cX9_writeAll 11 = .ok (.aload_n 1, 1) := by decide +kernel
theorem dX9_writeAll_12 : decode cX9_writeAll 12 = .ok (.iload_n 2, 1) := by decide +kernel
theorem dX9_writeAll_13 : decode cX9_writeAll 13 = .ok (.invokevirtual 127, 3) := by decide +kernel
theorem dX9_writeAll_16 : decode cX9_writeAll 16 = .ok (.invokevirtual 358, 3) := by decide +kernel
theorem dX9_writeAll_19 : decode cX9_writeAll 19 = .ok (.iinc 2 1, 3) := by decide +kernel
theorem dX9_writeAll_22 : decode cX9_writeAll 22 = .ok (.goto (-20), 3) := by decide +kernel
theorem dX9_writeAll_25 : decode cX9_writeAll 25 = .ok (.return_, 1) := by decide +kernel
theorem dX9_hexOf_0 : decode cX9_hexOf 0 = .ok (.iload_n 0, 1) := by decide +kernel
theorem dX9_hexOf_1 : decode cX9_hexOf 1 = .ok (.bipush 10, 2) := by decide +kernel
theorem dX9_hexOf_3 : decode cX9_hexOf 3 = .ok (.if_icmp .ge 10, 3) := by decide +kernel
theorem dX9_hexOf_6 : decode cX9_hexOf 6 = .ok (.bipush 48, 2) := by decide +kernel
theorem dX9_hexOf_8 : decode cX9_hexOf 8 = .ok (.iload_n 0, 1) := by decide +kernel
theorem dX9_hexOf_9 : decode cX9_hexOf 9 = .ok (.iadd, 1) := by decide +kernel
theorem dX9_hexOf_10 : decode cX9_hexOf 10 = .ok (.goto 10, 3) := by decide +kernel
theorem dX9_hexOf_13 : decode cX9_hexOf 13 = .ok (.bipush 65, 2) := by decide +kernel
theorem dX9_hexOf_15 : decode cX9_hexOf 15 = .ok (.iload_n 0, 1) := by decide +kernel
theorem dX9_hexOf_16 : decode cX9_hexOf 16 = .ok (.iadd, 1) := by decide +kernel
theorem dX9_hexOf_17 : decode cX9_hexOf 17 = .ok (.bipush 10, 2) := by decide +kernel
theorem dX9_hexOf_19 : decode cX9_hexOf 19 = .ok (.isub, 1) := by decide +kernel
theorem dX9_hexOf_20 : decode cX9_hexOf 20 = .ok (.ireturn, 1) := by decide +kernel
theorem dX9_sentence_0 : decode cX9_sentence 0 = .ok (.aload_n 0, 1) := by decide +kernel
theorem dX9_sentence_1 : decode cX9_sentence 1 = .ok (.ldc_w 361, 3) := by decide +kernel
theorem dX9_sentence_4 : decode cX9_sentence 4 = .ok (.invokevirtual 363, 3) := by decide +kernel
theorem dX9_sentence_7 : decode cX9_sentence 7 = .ok (.aload_n 0, 1) := by decide +kernel
theorem dX9_sentence_8 : decode cX9_sentence 8 = .ok (.bipush 48, 2) := by decide +kernel
theorem dX9_sentence_10 : decode cX9_sentence 10 = .ok (.iload_n 1, 1) := by decide +kernel
theorem dX9_sentence_11 : decode cX9_sentence 11 = .ok (.iadd, 1) := by decide +kernel
theorem dX9_sentence_12 : decode cX9_sentence 12 = .ok (.invokevirtual 358, 3) := by decide +kernel
theorem dX9_sentence_15 : decode cX9_sentence 15 = .ok (.aload_n 0, 1) := by decide +kernel
theorem dX9_sentence_16 : decode cX9_sentence 16 = .ok (.bipush 44, 2) := by decide +kernel
theorem dX9_sentence_18 : decode cX9_sentence 18 = .ok (.invokevirtual 358, 3) := by decide +kernel
theorem dX9_sentence_21 : decode cX9_sentence 21 = .ok (.aload_n 0, 1) := by decide +kernel
theorem dX9_sentence_22 : decode cX9_sentence 22 = .ok (.bipush 48, 2) := by decide +kernel
theorem dX9_sentence_24 : decode cX9_sentence 24 = .ok (.iload_n 2, 1) := by decide +kernel
theorem dX9_sentence_25 : decode cX9_sentence 25 = .ok (.iadd, 1) := by decide +kernel
theorem dX9_sentence_26 : decode cX9_sentence 26 = .ok (.invokevirtual 358, 3) := by decide +kernel
theorem dX9_sentence_29 : decode cX9_sentence 29 = .ok (.aload_n 0, 1) := by decide +kernel
theorem dX9_sentence_30 : decode cX9_sentence 30 = .ok (.bipush 44, 2) := by decide +kernel
theorem dX9_sentence_32 : decode cX9_sentence 32 = .ok (.invokevirtual 358, 3) := by decide +kernel
theorem dX9_sentence_35 : decode cX9_sentence 35 = .ok (.iload_n 3, 1) := by decide +kernel
theorem dX9_sentence_36 : decode cX9_sentence 36 = .ok (.ifCond .lt 11, 3) := by decide +kernel
theorem dX9_sentence_39 : decode cX9_sentence 39 = .ok (.aload_n 0, 1) := by decide +kernel
theorem dX9_sentence_40 : decode cX9_sentence 40 = .ok (.bipush 48, 2) := by decide +kernel
theorem dX9_sentence_42 : decode cX9_sentence 42 = .ok (.iload_n 3, 1) := by decide +kernel
theorem dX9_sentence_43 : decode cX9_sentence 43 = .ok (.iadd, 1) := by decide +kernel
theorem dX9_sentence_44 : decode cX9_sentence 44 = .ok (.invokevirtual 358, 3) := by decide +kernel
theorem dX9_sentence_47 : decode cX9_sentence 47 = .ok (.aload_n 0, 1) := by decide +kernel
theorem dX9_sentence_48 : decode cX9_sentence 48 = .ok (.ldc_w 367, 3) := by decide +kernel
theorem dX9_sentence_51 : decode cX9_sentence 51 = .ok (.invokevirtual 363, 3) := by decide +kernel
theorem dX9_sentence_54 : decode cX9_sentence 54 = .ok (.iload 5, 2) := by decide +kernel
theorem dX9_sentence_56 : decode cX9_sentence 56 = .ok (.iconst 5, 1) := by decide +kernel
theorem dX9_sentence_57 : decode cX9_sentence 57 = .ok (.iadd, 1) := by decide +kernel
theorem dX9_sentence_58 : decode cX9_sentence 58 = .ok (.bipush 6, 2) := by decide +kernel
theorem dX9_sentence_60 : decode cX9_sentence 60 = .ok (.idiv, 1) := by decide +kernel
theorem dX9_sentence_61 : decode cX9_sentence 61 = .ok (.istore 6, 2) := by decide +kernel
theorem dX9_sentence_63 : decode cX9_sentence 63 = .ok (.iconst 0, 1) := by decide +kernel
theorem dX9_sentence_64 : decode cX9_sentence 64 = .ok (.istore 7, 2) := by decide +kernel
theorem dX9_sentence_66 : decode cX9_sentence 66 = .ok (.iload 7, 2) := by decide +kernel
theorem dX9_sentence_68 : decode cX9_sentence 68 = .ok (.iload 6, 2) := by decide +kernel
theorem dX9_sentence_70 : decode cX9_sentence 70 = .ok (.if_icmp .ge 94, 3) := by decide +kernel
theorem dX9_sentence_73 : decode cX9_sentence 73 = .ok (.iconst 0, 1) := by decide +kernel
theorem dX9_sentence_74 : decode cX9_sentence 74 = .ok (.istore 8, 2) := by decide +kernel
theorem dX9_sentence_76 : decode cX9_sentence 76 = .ok (.bipush 6, 2) := by decide +kernel
theorem dX9_sentence_78 : decode cX9_sentence 78 = .ok (.iload 7, 2) := by decide +kernel
theorem dX9_sentence_80 : decode cX9_sentence 80 = .ok (.imul, 1) := by decide +kernel
theorem dX9_sentence_81 : decode cX9_sentence 81 = .ok (.istore 9, 2) := by decide +kernel
theorem dX9_sentence_83 : decode cX9_sentence 83 = .ok (.iload 9, 2) := by decide +kernel
theorem dX9_sentence_85 : decode cX9_sentence 85 = .ok (.bipush 6, 2) := by decide +kernel
theorem dX9_sentence_87 : decode cX9_sentence 87 = .ok (.iload 7, 2) := by decide +kernel
theorem dX9_sentence_89 : decode cX9_sentence 89 = .ok (.imul, 1) := by decide +kernel
theorem dX9_sentence_90 : decode cX9_sentence 90 = .ok (.bipush 6, 2) := by decide +kernel
theorem dX9_sentence_92 : decode cX9_sentence 92 = .ok (.iadd, 1) := by decide +kernel
theorem dX9_sentence_93 : decode cX9_sentence 93 = .ok (.if_icmp .ge 41, 3) := by decide +kernel
theorem dX9_sentence_96 : decode cX9_sentence 96 = .ok (.iconst 2, 1) := by decide +kernel
theorem dX9_sentence_97 : decode cX9_sentence 97 = .ok (.iload 8, 2) := by decide +kernel
theorem dX9_sentence_99 : decode cX9_sentence 99 = .ok (.imul, 1) := by decide +kernel
theorem dX9_sentence_100 : decode cX9_sentence 100 = .ok (.iload 9, 2) := by decide +kernel
theorem dX9_sentence_102 : decode cX9_sentence 102 = .ok (.iload 5, 2) := by decide +kernel
theorem dX9_sentence_104 : decode cX9_sentence 104 = .ok (.if_icmp .ge 20, 3) := by decide +kernel
theorem dX9_sentence_107 : decode cX9_sentence 107 = .ok (.aload_n 0, 1) := by decide +kernel
theorem dX9_sentence_108 : decode cX9_sentence 108 = .ok (.getfield 64, 3) := by decide +kernel
theorem dX9_sentence_111 : decode cX9_sentence 111 = .ok (.iload 4, 2) := by decide +kernel
theorem dX9_sentence_113 : decode cX9_sentence 113 = .ok (.iload 9, 2) := by decide +kernel
theorem dX9_sentence_115 : decode cX9_sentence 115 = .ok (.iadd, 1) := by decide +kernel
theorem dX9_sentence_116 : decode cX9_sentence 116 = .ok (.baload, 1) := by decide +kernel
theorem dX9_sentence_117 : decode cX9_sentence 117 = .ok (.ifCond .eq 7, 3) := by decide +kernel
theorem dX9_sentence_120 : decode cX9_sentence 120 = .ok (.iconst 1, 1) := by decide +kernel
theorem dX9_sentence_121 : decode cX9_sentence 121 = .ok (.goto 4, 3) := by decide +kernel
theorem dX9_sentence_124 : decode cX9_sentence 124 = .ok (.iconst 0, 1) := by decide +kernel
theorem dX9_sentence_125 : decode cX9_sentence 125 = .ok (.iadd, 1) := by decide +kernel
theorem dX9_sentence_126 : decode cX9_sentence 126 = .ok (.istore 8, 2) := by decide +kernel
theorem dX9_sentence_128 : decode cX9_sentence 128 = .ok (.iinc 9 1, 3) := by decide +kernel
theorem dX9_sentence_131 : decode cX9_sentence 131 = .ok (.goto (-48), 3) := by decide +kernel
theorem dX9_sentence_134 : decode cX9_sentence 134 = .ok (.aload_n 0, 1) := by decide +kernel
theorem dX9_sentence_135 : decode cX9_sentence 135 = .ok (.iload 8, 2) := by decide +kernel
theorem dX9_sentence_137 : decode cX9_sentence 137 = .ok (.bipush 40, 2) := by decide +kernel
theorem dX9_sentence_139 : decode cX9_sentence 139 = .ok (.if_icmp .ge 11, 3) := by decide +kernel
theorem dX9_sentence_142 : decode cX9_sentence 142 = .ok (.iload 8, 2) := by decide +kernel
theorem dX9_sentence_144 : decode cX9_sentence 144 = .ok (.bipush 48, 2) := by decide +kernel
theorem dX9_sentence_146 : decode cX9_sentence 146 = .ok (.iadd, 1) := by decide +kernel
theorem dX9_sentence_147 : decode cX9_sentence 147 = .ok (.goto 8, 3) := by decide +kernel
theorem dX9_sentence_150 : decode cX9_sentence 150 = .ok (.iload 8, 2) := by decide +kernel
theorem dX9_sentence_152 : decode cX9_sentence 152 = .ok (.bipush 56, 2) := by decide +kernel
theorem dX9_sentence_154 : decode cX9_sentence 154 = .ok (.iadd, 1) := by decide +kernel
theorem dX9_sentence_155 : decode cX9_sentence 155 = .ok (.invokevirtual 358, 3) := by decide +kernel
theorem dX9_sentence_158 : decode cX9_sentence 158 = .ok (.iinc 7 1, 3) := by decide +kernel
theorem dX9_sentence_161 : decode cX9_sentence 161 = .ok (.goto (-95), 3) := by decide +kernel
theorem dX9_sentence_164 : decode cX9_sentence 164 = .ok (.aload_n 0, 1) := by decide +kernel
theorem dX9_sentence_165 : decode cX9_sentence 165 = .ok (.bipush 44, 2) := by decide +kernel
theorem dX9_sentence_167 : decode cX9_sentence 167 = .ok (.invokevirtual 358, 3) := by decide +kernel
theorem dX9_sentence_170 : decode cX9_sentence 170 = .ok (.aload_n 0, 1) := by decide +kernel
theorem dX9_sentence_171 : decode cX9_sentence 171 = .ok (.bipush 48, 2) := by decide +kernel
theorem dX9_sentence_173 : decode cX9_sentence 173 = .ok (.bipush 6, 2) := by decide +kernel
theorem dX9_sentence_175 : decode cX9_sentence 175 = .ok (.iload 6, 2) := by decide +kernel
theorem dX9_sentence_177 : decode cX9_sentence 177 = .ok (.imul, 1) := by decide +kernel
theorem dX9_sentence_178 : decode cX9_sentence 178 = .ok (.iadd, 1) := by decide +kernel
theorem dX9_sentence_179 : decode cX9_sentence 179 = .ok (.iload 5, 2) := by decide +kernel
theorem dX9_sentence_181 : decode cX9_sentence 181 = .ok (.isub, 1) := by decide +kernel
theorem dX9_sentence_182 : decode cX9_sentence 182 = .ok (.invokevirtual 358, 3) := by decide +kernel
theorem dX9_sentence_185 : decode cX9_sentence 185 = .ok (.aload_n 0, 1) := by decide +kernel
theorem dX9_sentence_186 : decode cX9_sentence 186 = .ok (.getfield 355, 3) := by decide +kernel
theorem dX9_sentence_189 : decode cX9_sentence 189 = .ok (.istore 7, 2) := by decide +kernel
theorem dX9_sentence_191 : decode cX9_sentence 191 = .ok (.aload_n 0, 1) := by decide +kernel
theorem dX9_sentence_192 : decode cX9_sentence 192 = .ok (.bipush 42, 2) := by decide +kernel
theorem dX9_sentence_194 : decode cX9_sentence 194 = .ok (.invokevirtual 358, 3) := by decide +kernel
theorem dX9_sentence_197 : decode cX9_sentence 197 = .ok (.aload_n 0, 1) := by decide +kernel
theorem dX9_sentence_198 : decode cX9_sentence 198 = .ok (.iload 7, 2) := by decide +kernel
theorem dX9_sentence_200 : decode cX9_sentence 200 = .ok (.iconst 4, 1) := by decide +kernel
theorem dX9_sentence_201 : decode cX9_sentence 201 = .ok (.ishr, 1) := by decide +kernel
theorem dX9_sentence_202 : decode cX9_sentence 202 = .ok (.invokestatic 369, 3) := by decide +kernel
theorem dX9_sentence_205 : decode cX9_sentence 205 = .ok (.invokevirtual 358, 3) := by decide +kernel
theorem dX9_sentence_208 : decode cX9_sentence 208 = .ok (.aload_n 0, 1) := by decide +kernel
theorem dX9_sentence_209 : decode cX9_sentence 209 = .ok (.iload 7, 2) := by decide +kernel
theorem dX9_sentence_211 : decode cX9_sentence 211 = .ok (.bipush 15, 2) := by decide +kernel
theorem dX9_sentence_213 : decode cX9_sentence 213 = .ok (.iand, 1) := by decide +kernel
theorem dX9_sentence_214 : decode cX9_sentence 214 = .ok (.invokestatic 369, 3) := by decide +kernel
theorem dX9_sentence_217 : decode cX9_sentence 217 = .ok (.invokevirtual 358, 3) := by decide +kernel
theorem dX9_sentence_220 : decode cX9_sentence 220 = .ok (.aload_n 0, 1) := by decide +kernel
theorem dX9_sentence_221 : decode cX9_sentence 221 = .ok (.bipush 13, 2) := by decide +kernel
theorem dX9_sentence_223 : decode cX9_sentence 223 = .ok (.invokevirtual 358, 3) := by decide +kernel
theorem dX9_sentence_226 : decode cX9_sentence 226 = .ok (.aload_n 0, 1) := by decide +kernel
theorem dX9_sentence_227 : decode cX9_sentence 227 = .ok (.bipush 10, 2) := by decide +kernel
theorem dX9_sentence_229 : decode cX9_sentence 229 = .ok (.invokevirtual 358, 3) := by decide +kernel
theorem dX9_sentence_232 : decode cX9_sentence 232 = .ok (.return_, 1) := by decide +kernel
theorem dX9_send_0 : decode cX9_send 0 = .ok (.aload_n 0, 1) := by decide +kernel
theorem dX9_send_1 : decode cX9_send 1 = .ok (.iconst 0, 1) := by decide +kernel
theorem dX9_send_2 : decode cX9_send 2 = .ok (.putfield 1, 3) := by decide +kernel
theorem dX9_send_5 : decode cX9_send 5 = .ok (.iload_n 1, 1) := by decide +kernel
theorem dX9_send_6 : decode cX9_send 6 = .ok (.i2l, 1) := by decide +kernel
theorem dX9_send_7 : decode cX9_send 7 = .ok (.lconst 0, 1) := by decide +kernel
theorem dX9_send_8 : decode cX9_send 8 = .ok (.aload_n 0, 1) := by decide +kernel
theorem dX9_send_9 : decode cX9_send 9 = .ok (.getfield 289, 3) := by decide +kernel
theorem dX9_send_12 : decode cX9_send 12 = .ok (.iconst 1, 1) := by decide +kernel
theorem dX9_send_13 : decode cX9_send 13 = .ok (.isub, 1) := by decide +kernel
theorem dX9_send_14 : decode cX9_send 14 = .ok (.i2l, 1) := by decide +kernel
theorem dX9_send_15 : decode cX9_send 15 = .ok (.invokestatic 74, 3) := by decide +kernel
theorem dX9_send_18 : decode cX9_send 18 = .ok (.ifCond .ne 9, 3) := by decide +kernel
theorem dX9_send_21 : decode cX9_send 21 = .ok (.aload_n 0, 1) := by decide +kernel
theorem dX9_send_22 : decode cX9_send 22 = .ok (.iconst 1, 1) := by decide +kernel
theorem dX9_send_23 : decode cX9_send 23 = .ok (.invokevirtual 343, 3) := by decide +kernel
theorem dX9_send_26 : decode cX9_send 26 = .ok (.ireturn, 1) := by decide +kernel
theorem dX9_send_27 : decode cX9_send 27 = .ok (.iload_n 2, 1) := by decide +kernel
theorem dX9_send_28 : decode cX9_send 28 = .ok (.iconst 1, 1) := by decide +kernel
theorem dX9_send_29 : decode cX9_send 29 = .ok (.if_icmp .eq 32, 3) := by decide +kernel
theorem dX9_send_32 : decode cX9_send 32 = .ok (.iload_n 2, 1) := by decide +kernel
theorem dX9_send_33 : decode cX9_send 33 = .ok (.bipush 18, 2) := by decide +kernel
theorem dX9_send_35 : decode cX9_send 35 = .ok (.if_icmp .eq 26, 3) := by decide +kernel
theorem dX9_send_38 : decode cX9_send 38 = .ok (.iload_n 2, 1) := by decide +kernel
theorem dX9_send_39 : decode cX9_send 39 = .ok (.iconst 5, 1) := by decide +kernel
theorem dX9_send_40 : decode cX9_send 40 = .ok (.if_icmp .ne 15, 3) := by decide +kernel
theorem dX9_send_43 : decode cX9_send 43 = .ok (.iload_n 3, 1) := by decide +kernel
theorem dX9_send_44 : decode cX9_send 44 = .ok (.i2l, 1) := by decide +kernel
theorem dX9_send_45 : decode cX9_send 45 = .ok (.lconst 0, 1) := by decide +kernel
theorem dX9_send_46 : decode cX9_send 46 = .ok (.ldc2_w 372, 3) := by decide +kernel
theorem dX9_send_49 : decode cX9_send 49 = .ok (.invokestatic 74, 3) := by decide +kernel
theorem dX9_send_52 : decode cX9_send 52 = .ok (.ifCond .ne 9, 3) := by decide +kernel
theorem dX9_send_55 : decode cX9_send 55 = .ok (.aload_n 0, 1) := by decide +kernel
theorem dX9_send_56 : decode cX9_send 56 = .ok (.iconst 2, 1) := by decide +kernel
theorem dX9_send_57 : decode cX9_send 57 = .ok (.invokevirtual 343, 3) := by decide +kernel
theorem dX9_send_60 : decode cX9_send 60 = .ok (.ireturn, 1) := by decide +kernel
theorem dX9_send_61 : decode cX9_send 61 = .ok (.aload_n 0, 1) := by decide +kernel
theorem dX9_send_62 : decode cX9_send 62 = .ok (.iconst 0, 1) := by decide +kernel
theorem dX9_send_63 : decode cX9_send 63 = .ok (.putfield 352, 3) := by decide +kernel
theorem dX9_send_66 : decode cX9_send 66 = .ok (.aload_n 0, 1) := by decide +kernel
theorem dX9_send_67 : decode cX9_send 67 = .ok (.iload_n 2, 1) := by decide +kernel
theorem dX9_send_68 : decode cX9_send 68 = .ok (.bipush 6, 2) := by decide +kernel
theorem dX9_send_70 : decode cX9_send 70 = .ok (.invokevirtual 311, 3) := by decide +kernel
theorem dX9_send_73 : decode cX9_send 73 = .ok (.aload_n 0, 1) := by decide +kernel
theorem dX9_send_74 : decode cX9_send 74 = .ok (.iconst 0, 1) := by decide +kernel
theorem dX9_send_75 : decode cX9_send 75 = .ok (.iconst 2, 1) := by decide +kernel
theorem dX9_send_76 : decode cX9_send 76 = .ok (.invokevirtual 311, 3) := by decide +kernel
theorem dX9_send_79 : decode cX9_send 79 = .ok (.aload_n 0, 1) := by decide +kernel
theorem dX9_send_80 : decode cX9_send 80 = .ok (.aload_n 0, 1) := by decide +kernel
theorem dX9_send_81 : decode cX9_send 81 = .ok (.getfield 55, 3) := by decide +kernel
theorem dX9_send_84 : decode cX9_send 84 = .ok (.bipush 24, 2) := by decide +kernel
theorem dX9_send_86 : decode cX9_send 86 = .ok (.iload_n 1, 1) := by decide +kernel
theorem dX9_send_87 : decode cX9_send 87 = .ok (.imul, 1) := by decide +kernel
theorem dX9_send_88 : decode cX9_send 88 = .ok (.iaload, 1) := by decide +kernel
theorem dX9_send_89 : decode cX9_send 89 = .ok (.bipush 30, 2) := by decide +kernel
theorem dX9_send_91 : decode cX9_send 91 = .ok (.invokevirtual 311, 3) := by decide +kernel
theorem dX9_send_94 : decode cX9_send 94 = .ok (.aload_n 0, 1) := by decide +kernel
theorem dX9_send_95 : decode cX9_send 95 = .ok (.iconst 1, 1) := by decide +kernel
theorem dX9_send_96 : decode cX9_send 96 = .ok (.putfield 303, 3) := by decide +kernel
theorem dX9_send_99 : decode cX9_send 99 = .ok (.aload_n 0, 1) := by decide +kernel
theorem dX9_send_100 : decode cX9_send 100 = .ok (.iload_n 1, 1) := by decide +kernel
theorem dX9_send_101 : decode cX9_send 101 = .ok (.iload_n 2, 1) := by decide +kernel
theorem dX9_send_102 : decode cX9_send 102 = .ok (.invokevirtual 297, 3) := by decide +kernel
theorem dX9_send_105 : decode cX9_send 105 = .ok (.aload_n 0, 1) := by decide +kernel
theorem dX9_send_106 : decode cX9_send 106 = .ok (.iconst 0, 1) := by decide +kernel
theorem dX9_send_107 : decode cX9_send 107 = .ok (.putfield 303, 3) := by decide +kernel
theorem dX9_send_110 : decode cX9_send 110 = .ok (.aload_n 0, 1) := by decide +kernel
theorem dX9_send_111 : decode cX9_send 111 = .ok (.iconst 0, 1) := by decide +kernel
theorem dX9_send_112 : decode cX9_send 112 = .ok (.putfield 338, 3) := by decide +kernel
theorem dX9_send_115 : decode cX9_send 115 = .ok (.iload_n 2, 1) := by decide +kernel
theorem dX9_send_116 : decode cX9_send 116 = .ok (.iconst 5, 1) := by decide +kernel
theorem dX9_send_117 : decode cX9_send 117 = .ok (.if_icmp .ne 29, 3) := by decide +kernel
theorem dX9_send_120 : decode cX9_send 120 = .ok (.aload_n 0, 1) := by decide +kernel
theorem dX9_send_121 : decode cX9_send 121 = .ok (.iconst 2, 1) := by decide +kernel
theorem dX9_send_122 : decode cX9_send 122 = .ok (.iconst 1, 1) := by decide +kernel
theorem dX9_send_123 : decode cX9_send 123 = .ok (.iload_n 3, 1) := by decide +kernel
theorem dX9_send_124 : decode cX9_send 124 = .ok (.iconst 0, 1) := by decide +kernel
theorem dX9_send_125 : decode cX9_send 125 = .ok (.sipush 360, 3) := by decide +kernel
theorem dX9_send_128 : decode cX9_send 128 = .ok (.invokevirtual 374, 3) := by decide +kernel
theorem dX9_send_131 : decode cX9_send 131 = .ok (.aload_n 0, 1) := by decide +kernel
theorem dX9_send_132 : decode cX9_send 132 = .ok (.iconst 2, 1) := by decide +kernel
theorem dX9_send_133 : decode cX9_send 133 = .ok (.iconst 2, 1) := by decide +kernel
theorem dX9_send_134 : decode cX9_send 134 = .ok (.iload_n 3, 1) := by decide +kernel
theorem dX9_send_135 : decode cX9_send 135 = .ok (.sipush 360, 3) := by decide +kernel
theorem dX9_send_138 : decode cX9_send 138 = .ok (.bipush 64, 2) := by decide +kernel
theorem dX9_send_140 : decode cX9_send 140 = .ok (.invokevirtual 374, 3) := by decide +kernel
theorem dX9_send_143 : decode cX9_send 143 = .ok (.goto 14, 3) := by decide +kernel
theorem dX9_send_146 : decode cX9_send 146 = .ok (.aload_n 0, 1) := by decide +kernel
theorem dX9_send_147 : decode cX9_send 147 = .ok (.iconst 1, 1) := by decide +kernel
theorem dX9_send_148 : decode cX9_send 148 = .ok (.iconst 1, 1) := by decide +kernel
theorem dX9_send_149 : decode cX9_send 149 = .ok (.iconst (-1), 1) := by decide +kernel
theorem dX9_send_150 : decode cX9_send 150 = .ok (.iconst 0, 1) := by decide +kernel
theorem dX9_send_151 : decode cX9_send 151 = .ok (.sipush 168, 3) := by decide +kernel
theorem dX9_send_154 : decode cX9_send 154 = .ok (.invokevirtual 374, 3) := by decide +kernel
theorem dX9_send_157 : decode cX9_send 157 = .ok (.aload_n 0, 1) := by decide +kernel
theorem dX9_send_158 : decode cX9_send 158 = .ok (.getfield 338, 3) := by decide +kernel
theorem dX9_send_161 : decode cX9_send 161 = .ok (.ireturn, 1) := by decide +kernel
theorem dX9_out_0 : decode cX9_out 0 = .ok (.aload_n 0, 1) := by decide +kernel
theorem dX9_out_1 : decode cX9_out 1 = .ok (.iconst 0, 1) := by decide +kernel
theorem dX9_out_2 : decode cX9_out 2 = .ok (.putfield 1, 3) := by decide +kernel
theorem dX9_out_5 : decode cX9_out 5 = .ok (.iload_n 1, 1) := by decide +kernel
theorem dX9_out_6 : decode cX9_out 6 = .ok (.i2l, 1) := by decide +kernel
theorem dX9_out_7 : decode cX9_out 7 = .ok (.lconst 0, 1) := by decide +kernel
theorem dX9_out_8 : decode cX9_out 8 = .ok (.aload_n 0, 1) := by decide +kernel
theorem dX9_out_9 : decode cX9_out 9 = .ok (.getfield 338, 3) := by decide +kernel
theorem dX9_out_12 : decode cX9_out 12 = .ok (.iconst 1, 1) := by decide +kernel
theorem dX9_out_13 : decode cX9_out 13 = .ok (.isub, 1) := by decide +kernel
theorem dX9_out_14 : decode cX9_out 14 = .ok (.i2l, 1) := by decide +kernel
theorem dX9_out_15 : decode cX9_out 15 = .ok (.invokestatic 74, 3) := by decide +kernel
theorem dX9_out_18 : decode cX9_out 18 = .ok (.ifCond .eq 12, 3) := by decide +kernel
theorem dX9_out_21 : decode cX9_out 21 = .ok (.aload_n 0, 1) := by decide +kernel
theorem dX9_out_22 : decode cX9_out 22 = .ok (.getfield 17, 3) := by decide +kernel
theorem dX9_out_25 : decode cX9_out 25 = .ok (.iload_n 1, 1) := by decide +kernel
theorem dX9_out_26 : decode cX9_out 26 = .ok (.iaload, 1) := by decide +kernel
theorem dX9_out_27 : decode cX9_out 27 = .ok (.goto 5, 3) := by decide +kernel
theorem dX9_out_30 : decode cX9_out 30 = .ok (.ldc 73, 2) := by decide +kernel
theorem dX9_out_32 : decode cX9_out 32 = .ok (.ireturn, 1) := by decide +kernel
theorem dX9_again_0 : decode cX9_again 0 = .ok (.aload_n 0, 1) := by decide +kernel
theorem dX9_again_1 : decode cX9_again 1 = .ok (.iconst 0, 1) := by decide +kernel
theorem dX9_again_2 : decode cX9_again 2 = .ok (.putfield 1, 3) := by decide +kernel
theorem dX9_again_5 : decode cX9_again 5 = .ok (.aload_n 0, 1) := by decide +kernel
theorem dX9_again_6 : decode cX9_again 6 = .ok (.getfield 70, 3) := by decide +kernel
theorem dX9_again_9 : decode cX9_again 9 = .ok (.aload_n 0, 1) := by decide +kernel
theorem dX9_again_10 : decode cX9_again 10 = .ok (.getfield 338, 3) := by decide +kernel
theorem dX9_again_13 : decode cX9_again 13 = .ok (.iadd, 1) := by decide +kernel
theorem dX9_again_14 : decode cX9_again 14 = .ok (.sipush 2000, 3) := by decide +kernel
theorem dX9_again_17 : decode cX9_again 17 = .ok (.if_icmp .le 6, 3) := by decide +kernel
theorem dX9_again_20 : decode cX9_again 20 = .ok (.ldc 73, 2) := by decide +kernel
theorem dX9_again_22 : decode cX9_again 22 = .ok (.ireturn, 1) := by decide +kernel
theorem dX9_again_23 : decode cX9_again 23 = .ok (.iconst 0, 1) := by decide +kernel
theorem dX9_again_24 : decode cX9_again 24 = .ok (.istore_n 1, 1) := by decide +kernel
theorem dX9_again_25 : decode cX9_again 25 = .ok (.iload_n 1, 1) := by decide +kernel
theorem dX9_again_26 : decode cX9_again 26 = .ok (.aload_n 0, 1) := by decide +kernel
theorem dX9_again_27 : decode cX9_again 27 = .ok (.getfield 338, 3) := by decide +kernel
theorem dX9_again_30 : decode cX9_again 30 = .ok (.if_icmp .ge 34, 3) := by decide +kernel
theorem dX9_again_33 : decode cX9_again 33 = .ok (.aload_n 0, 1) := by decide +kernel
theorem dX9_again_34 : decode cX9_again 34 = .ok (.getfield 13, 3) := by decide +kernel
theorem dX9_again_37 : decode cX9_again 37 = .ok (.aload_n 0, 1) := by decide +kernel
theorem dX9_again_38 : decode cX9_again 38 = .ok (.getfield 70, 3) := by decide +kernel
theorem dX9_again_41 : decode cX9_again 41 = .ok (.aload_n 0, 1) := by decide +kernel
theorem dX9_again_42 : decode cX9_again 42 = .ok (.getfield 17, 3) := by decide +kernel
theorem dX9_again_45 : decode cX9_again 45 = .ok (.iload_n 1, 1) := by decide +kernel
theorem dX9_again_46 : decode cX9_again 46 = .ok (.iaload, 1) := by decide +kernel
theorem dX9_again_47 : decode cX9_again 47 = .ok (.iastore, 1) := by decide +kernel
theorem dX9_again_48 : decode cX9_again 48 = .ok (.aload_n 0, 1) := by decide +kernel
theorem dX9_again_49 : decode cX9_again 49 = .ok (.dup, 1) := by decide +kernel
theorem dX9_again_50 : decode cX9_again 50 = .ok (.getfield 70, 3) := by decide +kernel
theorem dX9_again_53 : decode cX9_again 53 = .ok (.iconst 1, 1) := by decide +kernel
theorem dX9_again_54 : decode cX9_again 54 = .ok (.iadd, 1) := by decide +kernel
theorem dX9_again_55 : decode cX9_again 55 = .ok (.putfield 70, 3) := by decide +kernel
theorem dX9_again_58 : decode cX9_again 58 = .ok (.iinc 1 1, 3) := by decide +kernel
theorem dX9_again_61 : decode cX9_again 61 = .ok (.goto (-36), 3) := by decide +kernel
theorem dX9_again_64 : decode cX9_again 64 = .ok (.aload_n 0, 1) := by decide +kernel
theorem dX9_again_65 : decode cX9_again 65 = .ok (.getfield 70, 3) := by decide +kernel
theorem dX9_again_68 : decode cX9_again 68 = .ok (.ireturn, 1) := by decide +kernel
theorem dX9_forget_0 : decode cX9_forget 0 = .ok (.aload_n 0, 1) := by decide +kernel
theorem dX9_forget_1 : decode cX9_forget 1 = .ok (.iconst 0, 1) := by decide +kernel
theorem dX9_forget_2 : decode cX9_forget 2 = .ok (.putfield 90, 3) := by decide +kernel
theorem dX9_forget_5 : decode cX9_forget 5 = .ok (.aload_n 0, 1) := by decide +kernel
theorem dX9_forget_6 : decode cX9_forget 6 = .ok (.iconst 0, 1) := by decide +kernel
theorem dX9_forget_7 : decode cX9_forget 7 = .ok (.putfield 93, 3) := by decide +kernel
theorem dX9_forget_10 : decode cX9_forget 10 = .ok (.aload_n 0, 1) := by decide +kernel
theorem dX9_forget_11 : decode cX9_forget 11 = .ok (.iconst 0, 1) := by decide +kernel
theorem dX9_forget_12 : decode cX9_forget 12 = .ok (.putfield 289, 3) := by decide +kernel
theorem dX9_forget_15 : decode cX9_forget 15 = .ok (.aload_n 0, 1) := by decide +kernel
theorem dX9_forget_16 : decode cX9_forget 16 = .ok (.iconst 0, 1) := by decide +kernel
theorem dX9_forget_17 : decode cX9_forget 17 = .ok (.putfield 280, 3) := by decide +kernel
theorem dX9_forget_20 : decode cX9_forget 20 = .ok (.iconst 0, 1) := by decide +kernel
theorem dX9_forget_21 : decode cX9_forget 21 = .ok (.istore_n 1, 1) := by decide +kernel
theorem dX9_forget_22 : decode cX9_forget 22 = .ok (.iload_n 1, 1) := by decide +kernel
theorem dX9_forget_23 : decode cX9_forget 23 = .ok (.bipush 9, 2) := by decide +kernel
theorem dX9_forget_25 : decode cX9_forget 25 = .ok (.if_icmp .ge 16, 3) := by decide +kernel
theorem dX9_forget_28 : decode cX9_forget 28 = .ok (.aload_n 0, 1) := by decide +kernel
theorem dX9_forget_29 : decode cX9_forget 29 = .ok (.getfield 23, 3) := by decide +kernel
theorem dX9_forget_32 : decode cX9_forget 32 = .ok (.iload_n 1, 1) := by decide +kernel
theorem dX9_forget_33 : decode cX9_forget 33 = .ok (.iconst 0, 1) := by decide +kernel
theorem dX9_forget_34 : decode cX9_forget 34 = .ok (.iastore, 1) := by decide +kernel
theorem dX9_forget_35 : decode cX9_forget 35 = .ok (.iinc 1 1, 3) := by decide +kernel
theorem dX9_forget_38 : decode cX9_forget 38 = .ok (.goto (-16), 3) := by decide +kernel
theorem dX9_forget_41 : decode cX9_forget 41 = .ok (.iconst 0, 1) := by decide +kernel
theorem dX9_forget_42 : decode cX9_forget 42 = .ok (.istore_n 1, 1) := by decide +kernel
theorem dX9_forget_43 : decode cX9_forget 43 = .ok (.iload_n 1, 1) := by decide +kernel
theorem dX9_forget_44 : decode cX9_forget 44 = .ok (.bipush 18, 2) := by decide +kernel
theorem dX9_forget_46 : decode cX9_forget 46 = .ok (.if_icmp .ge 17, 3) := by decide +kernel
theorem dX9_forget_49 : decode cX9_forget 49 = .ok (.aload_n 0, 1) := by decide +kernel
theorem dX9_forget_50 : decode cX9_forget 50 = .ok (.getfield 35, 3) := by decide +kernel
theorem dX9_forget_53 : decode cX9_forget 53 = .ok (.iload_n 1, 1) := by decide +kernel
theorem dX9_forget_54 : decode cX9_forget 54 = .ok (.ldc 73, 2) := by decide +kernel
theorem dX9_forget_56 : decode cX9_forget 56 = .ok (.iastore, 1) := by decide +kernel
theorem dX9_forget_57 : decode cX9_forget 57 = .ok (.iinc 1 1, 3) := by decide +kernel
theorem dX9_forget_60 : decode cX9_forget 60 = .ok (.goto (-17), 3) := by decide +kernel
theorem dX9_forget_63 : decode cX9_forget 63 = .ok (.iconst 0, 1) := by decide +kernel
theorem dX9_forget_64 : decode cX9_forget 64 = .ok (.istore_n 1, 1) := by decide +kernel
theorem dX9_forget_65 : decode cX9_forget 65 = .ok (.iload_n 1, 1) := by decide +kernel
theorem dX9_forget_66 : decode cX9_forget 66 = .ok (.bipush 11, 2) := by decide +kernel
theorem dX9_forget_68 : decode cX9_forget 68 = .ok (.if_icmp .ge 23, 3) := by decide +kernel
theorem dX9_forget_71 : decode cX9_forget 71 = .ok (.aload_n 0, 1) := by decide +kernel
theorem dX9_forget_72 : decode cX9_forget 72 = .ok (.getfield 41, 3) := by decide +kernel
theorem dX9_forget_75 : decode cX9_forget 75 = .ok (.iload_n 1, 1) := by decide +kernel
theorem dX9_forget_76 : decode cX9_forget 76 = .ok (.iconst 0, 1) := by decide +kernel
theorem dX9_forget_77 : decode cX9_forget 77 = .ok (.iastore, 1) := by decide +kernel
theorem dX9_forget_78 : decode cX9_forget 78 = .ok (.aload_n 0, 1) := by decide +kernel
theorem dX9_forget_79 : decode cX9_forget 79 = .ok (.getfield 44, 3) := by decide +kernel
theorem dX9_forget_82 : decode cX9_forget 82 = .ok (.iload_n 1, 1) := by decide +kernel
theorem dX9_forget_83 : decode cX9_forget 83 = .ok (.iconst 0, 1) := by decide +kernel
theorem dX9_forget_84 : decode cX9_forget 84 = .ok (.iastore, 1) := by decide +kernel
theorem dX9_forget_85 : decode cX9_forget 85 = .ok (.iinc 1 1, 3) := by decide +kernel
theorem dX9_forget_88 : decode cX9_forget 88 = .ok (.goto (-23), 3) := by decide +kernel
theorem dX9_forget_91 : decode cX9_forget 91 = .ok (.return_, 1) := by decide +kernel
theorem dX9_clear_0 : decode cX9_clear 0 = .ok (.aload_n 0, 1) := by decide +kernel
theorem dX9_clear_1 : decode cX9_clear 1 = .ok (.iconst 0, 1) := by decide +kernel
theorem dX9_clear_2 : decode cX9_clear 2 = .ok (.putfield 1, 3) := by decide +kernel
theorem dX9_clear_5 : decode cX9_clear 5 = .ok (.aload_n 0, 1) := by decide +kernel
theorem dX9_clear_6 : decode cX9_clear 6 = .ok (.invokevirtual 67, 3) := by decide +kernel
theorem dX9_clear_9 : decode cX9_clear 9 = .ok (.return_, 1) := by decide +kernel
