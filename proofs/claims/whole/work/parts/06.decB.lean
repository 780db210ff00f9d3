theorem dX0_init_0 : decode cX0_init 0 = .ok (.aload_n 0, 1) := by decide +kernel
theorem dX0_init_1 : decode cX0_init 1 = .ok (.invokespecial 1, 3) := by decide +kernel
theorem dX0_init_4 : decode cX0_init 4 = .ok (.aload_n 0, 1) := by decide +kernel
theorem dX0_init_5 : decode cX0_init 5 = .ok (.iload_n 1, 1) := by decide +kernel
theorem dX0_init_6 : decode cX0_init 6 = .ok (.ifCond .ge 7, 3) := by decide +kernel
theorem dX0_init_9 : decode cX0_init 9 = .ok (.iconst 0, 1) := by decide +kernel
theorem dX0_init_10 : decode cX0_init 10 = .ok (.goto 4, 3) := by decide +kernel
theorem dX0_init_13 : decode cX0_init 13 = .ok (.iload_n 1, 1) := by decide +kernel
theorem dX0_init_14 : decode cX0_init 14 = .ok (.putfield 7, 3) := by decide +kernel
theorem dX0_init_17 : decode cX0_init 17 = .ok (.aload_n 0, 1) := by decide +kernel
theorem dX0_init_18 : decode cX0_init 18 = .ok (.aload_n 0, 1) := by decide +kernel
theorem dX0_init_19 : decode cX0_init 19 = .ok (.getfield 7, 3) := by decide +kernel
theorem dX0_init_22 : decode cX0_init 22 = .ok (.bipush 32, 2) := by decide +kernel
theorem dX0_init_24 : decode cX0_init 24 = .ok (.idiv, 1) := by decide +kernel
theorem dX0_init_25 : decode cX0_init 25 = .ok (.iconst 2, 1) := by decide +kernel
theorem dX0_init_26 : decode cX0_init 26 = .ok (.iadd, 1) := by decide +kernel
theorem dX0_init_27 : decode cX0_init 27 = .ok (.newarray .int, 2) := by decide +kernel
theorem dX0_init_29 : decode cX0_init 29 = .ok (.putfield 13, 3) := by decide +kernel
theorem dX0_init_32 : decode cX0_init 32 = .ok (.return_, 1) := by decide +kernel
theorem dX0_empty_0 : decode cX0_empty 0 = .ok (.aload_n 0, 1) := by decide +kernel
theorem dX0_empty_1 : decode cX0_empty 1 = .ok (.getfield 13, 3) := by decide +kernel
theorem dX0_empty_4 : decode cX0_empty 4 = .ok (.iconst 0, 1) := by decide +kernel
theorem dX0_empty_5 : decode cX0_empty 5 = .ok (.invokestatic 17, 3) := by decide +kernel
theorem dX0_empty_8 : decode cX0_empty 8 = .ok (.aload_n 0, 1) := by decide +kernel
theorem dX0_empty_9 : decode cX0_empty 9 = .ok (.iconst 0, 1) := by decide +kernel
theorem dX0_empty_10 : decode cX0_empty 10 = .ok (.putfield 23, 3) := by decide +kernel
theorem dX0_empty_13 : decode cX0_empty 13 = .ok (.return_, 1) := by decide +kernel
theorem dX0_copy_0 : decode cX0_copy 0 = .ok (.iconst 0, 1) := by decide +kernel
theorem dX0_copy_1 : decode cX0_copy 1 = .ok (.istore_n 2, 1) := by decide +kernel
theorem dX0_copy_2 : decode cX0_copy 2 = .ok (.iload_n 2, 1) := by decide +kernel
theorem dX0_copy_3 : decode cX0_copy 3 = .ok (.aload_n 0, 1) := by decide +kernel
theorem dX0_copy_4 : decode cX0_copy 4 = .ok (.getfield 13, 3) := by decide +kernel
theorem dX0_copy_7 : decode cX0_copy 7 = .ok (.arraylength, 1) := by decide +kernel
theorem dX0_copy_8 : decode cX0_copy 8 = .ok (.if_icmp .ge 34, 3) := by decide +kernel
theorem dX0_copy_11 : decode cX0_copy 11 = .ok (.aload_n 0, 1) := by decide +kernel
theorem dX0_copy_12 : decode cX0_copy 12 = .ok (.getfield 13, 3) := by decide +kernel
theorem dX0_copy_15 : decode cX0_copy 15 = .ok (.iload_n 2, 1) := by decide +kernel
theorem dX0_copy_16 : decode cX0_copy 16 = .ok (.iload_n 2, 1) := by decide +kernel
theorem dX0_copy_17 : decode cX0_copy 17 = .ok (.aload_n 1, 1) := by decide +kernel
theorem dX0_copy_18 : decode cX0_copy 18 = .ok (.getfield 13, 3) := by decide +kernel
theorem dX0_copy_21 : decode cX0_copy 21 = .ok (.arraylength, 1) := by decide +kernel
theorem dX0_copy_22 : decode cX0_copy 22 = .ok (.if_icmp .ge 12, 3) := by decide +kernel
theorem dX0_copy_25 : decode cX0_copy 25 = .ok (.aload_n 1, 1) := by decide +kernel
theorem dX0_copy_26 : decode cX0_copy 26 = .ok (.getfield 13, 3) := by decide +kernel
theorem dX0_copy_29 : decode cX0_copy 29 = .ok (.iload_n 2, 1) := by decide +kernel
theorem dX0_copy_30 : decode cX0_copy 30 = .ok (.iaload, 1) := by decide +kernel
theorem dX0_copy_31 : decode cX0_copy 31 = .ok (.goto 4, 3) := by decide +kernel
theorem dX0_copy_34 : decode cX0_copy 34 = .ok (.iconst 0, 1) := by decide +kernel
theorem dX0_copy_35 : decode cX0_copy 35 = .ok (.iastore, 1) := by decide +kernel
theorem dX0_copy_36 : decode cX0_copy 36 = .ok (.iinc 2 1, 3) := by decide +kernel
theorem dX0_copy_39 : decode cX0_copy 39 = .ok (.goto (-37), 3) := by decide +kernel
theorem dX0_copy_42 : decode cX0_copy 42 = .ok (.aload_n 0, 1) := by decide +kernel
theorem dX0_copy_43 : decode cX0_copy 43 = .ok (.aload_n 1, 1) := by decide +kernel
theorem dX0_copy_44 : decode cX0_copy 44 = .ok (.getfield 23, 3) := by decide +kernel
theorem dX0_copy_47 : decode cX0_copy 47 = .ok (.putfield 23, 3) := by decide +kernel
theorem dX0_copy_50 : decode cX0_copy 50 = .ok (.return_, 1) := by decide +kernel
theorem dX0_append_0 : decode cX0_append 0 = .ok (.iload_n 2, 1) := by decide +kernel
theorem dX0_append_1 : decode cX0_append 1 = .ok (.iconst 1, 1) := by decide +kernel
theorem dX0_append_2 : decode cX0_append 2 = .ok (.if_icmp .lt 29, 3) := by decide +kernel
theorem dX0_append_5 : decode cX0_append 5 = .ok (.iload_n 2, 1) := by decide +kernel
theorem dX0_append_6 : decode cX0_append 6 = .ok (.bipush 32, 2) := by decide +kernel
theorem dX0_append_8 : decode cX0_append 8 = .ok (.if_icmp .gt 23, 3) := by decide +kernel
theorem dX0_append_11 : decode cX0_append 11 = .ok (.aload_n 0, 1) := by decide +kernel
theorem dX0_append_12 : decode cX0_append 12 = .ok (.getfield 23, 3) := by decide +kernel
theorem dX0_append_15 : decode cX0_append 15 = .ok (.ifCond .lt 16, 3) := by decide +kernel
theorem dX0_append_18 : decode cX0_append 18 = .ok (.aload_n 0, 1) := by decide +kernel
theorem dX0_append_19 : decode cX0_append 19 = .ok (.getfield 23, 3) := by decide +kernel
theorem dX0_append_22 : decode cX0_append 22 = .ok (.aload_n 0, 1) := by decide +kernel
theorem dX0_append_23 : decode cX0_append 23 = .ok (.getfield 7, 3) := by decide +kernel
theorem dX0_append_26 : decode cX0_append 26 = .ok (.iload_n 2, 1) := by decide +kernel
theorem dX0_append_27 : decode cX0_append 27 = .ok (.isub, 1) := by decide +kernel
theorem dX0_append_28 : decode cX0_append 28 = .ok (.if_icmp .le 4, 3) := by decide +kernel
theorem dX0_append_31 : decode cX0_append 31 = .ok (.return_, 1) := by decide +kernel
theorem dX0_append_32 : decode cX0_append 32 = .ok (.aload_n 0, 1) := by decide +kernel
theorem dX0_append_33 : decode cX0_append 33 = .ok (.getfield 23, 3) := by decide +kernel
theorem dX0_append_36 : decode cX0_append 36 = .ok (.iconst 5, 1) := by decide +kernel
theorem dX0_append_37 : decode cX0_append 37 = .ok (.ishr, 1) := by decide +kernel
theorem dX0_append_38 : decode cX0_append 38 = .ok (.istore_n 3, 1) := by decide +kernel
theorem dX0_append_39 : decode cX0_append 39 = .ok (.iload_n 1, 1) := by decide +kernel
theorem dX0_append_40 : decode cX0_append 40 = .ok (.i2l, 1) := by decide +kernel
theorem dX0_append_41 : decode cX0_append 41 = .ok (.lconst 1, 1) := by decide +kernel
theorem dX0_append_42 : decode cX0_append 42 = .ok (.iload_n 2, 1) := by decide +kernel
theorem dX0_append_43 : decode cX0_append 43 = .ok (.lshl, 1) := by decide +kernel
theorem dX0_append_44 : decode cX0_append 44 = .ok (.lconst 1, 1) := by decide +kernel
theorem dX0_append_45 : decode cX0_append 45 = .ok (.lsub, 1) := by decide +kernel
theorem dX0_append_46 : decode cX0_append 46 = .ok (.land, 1) := by decide +kernel
theorem dX0_append_47 : decode cX0_append 47 = .ok (.lstore 4, 2) := by decide +kernel
theorem dX0_append_49 : decode cX0_append 49 = .ok (.lload 4, 2) := by decide +kernel
theorem dX0_append_51 : decode cX0_append 51 = .ok (.bipush 64, 2) := by decide +kernel
theorem dX0_append_53 : decode cX0_append 53 = .ok (.iload_n 2, 1) := by decide +kernel
theorem dX0_append_54 : decode cX0_append 54 = .ok (.isub, 1) := by decide +kernel
theorem dX0_append_55 : decode cX0_append 55 = .ok (.aload_n 0, 1) := by decide +kernel
theorem dX0_append_56 : decode cX0_append 56 = .ok (.getfield 23, 3) := by decide +kernel
theorem dX0_append_59 : decode cX0_append 59 = .ok (.bipush 31, 2) := by decide +kernel
theorem dX0_append_61 : decode cX0_append 61 = .ok (.iand, 1) := by decide +kernel
theorem dX0_append_62 : decode cX0_append 62 = .ok (.isub, 1) := by decide +kernel
theorem dX0_append_63 : decode cX0_append 63 = .ok (.lshl, 1) := by decide +kernel
theorem dX0_append_64 : decode cX0_append 64 = .ok (.lstore 6, 2) := by decide +kernel
theorem dX0_append_66 : decode cX0_append 66 = .ok (.aload_n 0, 1) := by decide +kernel
theorem dX0_append_67 : decode cX0_append 67 = .ok (.getfield 13, 3) := by decide +kernel
theorem dX0_append_70 : decode cX0_append 70 = .ok (.iload_n 3, 1) := by decide +kernel
theorem dX0_append_71 : decode cX0_append 71 = .ok (.dup2, 1) := by decide +kernel
theorem dX0_append_72 : decode cX0_append 72 = .ok (.iaload, 1) := by decide +kernel
theorem dX0_append_73 : decode cX0_append 73 = .ok (.lload 6, 2) := by decide +kernel
theorem dX0_append_75 : decode cX0_append 75 = .ok (.bipush 32, 2) := by decide +kernel
theorem dX0_append_77 : decode cX0_append 77 = .ok (.lushr, 1) := by decide +kernel
theorem dX0_append_78 : decode cX0_append 78 = .ok (.l2i, 1) := by decide +kernel
theorem dX0_append_79 : decode cX0_append 79 = .ok (.ior, 1) := by decide +kernel
theorem dX0_append_80 : decode cX0_append 80 = .ok (.iastore, 1) := by decide +kernel
theorem dX0_append_81 : decode cX0_append 81 = .ok (.aload_n 0, 1) := by decide +kernel
theorem dX0_append_82 : decode cX0_append 82 = .ok (.getfield 13, 3) := by decide +kernel
theorem dX0_append_85 : decode cX0_append 85 = .ok (.iload_n 3, 1) := by decide +kernel
theorem dX0_append_86 : decode cX0_append 86 = .ok (.iconst 1, 1) := by decide +kernel
theorem dX0_append_87 : decode cX0_append 87 = .ok (.iadd, 1) := by decide +kernel
theorem dX0_append_88 : decode cX0_append 88 = .ok (.dup2, 1) := by decide +kernel
theorem dX0_append_89 : decode cX0_append 89 = .ok (.iaload, 1) := by decide +kernel
theorem dX0_append_90 : decode cX0_append 90 = .ok (.lload 6, 2) := by decide +kernel
theorem dX0_append_92 : decode cX0_append 92 = .ok (.l2i, 1) := by decide +kernel
theorem dX0_append_93 : decode cX0_append 93 = .ok (.ior, 1) := by decide +kernel
theorem dX0_append_94 : decode cX0_append 94 = .ok (.iastore, 1) := by decide +kernel
theorem dX0_append_95 : decode cX0_append 95 = .ok (.aload_n 0, 1) := by decide +kernel
theorem dX0_append_96 : decode cX0_append 96 = .ok (.dup, 1) := by decide +kernel
theorem dX0_append_97 : decode cX0_append 97 = .ok (.getfield 23, 3) := by decide +kernel
theorem dX0_append_100 : decode cX0_append 100 = .ok (.iload_n 2, 1) := by decide +kernel
theorem dX0_append_101 : decode cX0_append 101 = .ok (.iadd, 1) := by decide +kernel
theorem dX0_append_102 : decode cX0_append 102 = .ok (.putfield 23, 3) := by decide +kernel
theorem dX0_append_105 : decode cX0_append 105 = .ok (.return_, 1) := by decide +kernel
theorem dX0_read_0 : decode cX0_read 0 = .ok (.iload_n 1, 1) := by decide +kernel
theorem dX0_read_1 : decode cX0_read 1 = .ok (.iconst 5, 1) := by decide +kernel
theorem dX0_read_2 : decode cX0_read 2 = .ok (.ishr, 1) := by decide +kernel
theorem dX0_read_3 : decode cX0_read 3 = .ok (.istore_n 3, 1) := by decide +kernel
theorem dX0_read_4 : decode cX0_read 4 = .ok (.iload_n 2, 1) := by decide +kernel
theorem dX0_read_5 : decode cX0_read 5 = .ok (.iconst 1, 1) := by decide +kernel
theorem dX0_read_6 : decode cX0_read 6 = .ok (.if_icmp .lt 24, 3) := by decide +kernel
theorem dX0_read_9 : decode cX0_read 9 = .ok (.iload_n 2, 1) := by decide +kernel
theorem dX0_read_10 : decode cX0_read 10 = .ok (.bipush 32, 2) := by decide +kernel
theorem dX0_read_12 : decode cX0_read 12 = .ok (.if_icmp .gt 18, 3) := by decide +kernel
theorem dX0_read_15 : decode cX0_read 15 = .ok (.iload_n 3, 1) := by decide +kernel
theorem dX0_read_16 : decode cX0_read 16 = .ok (.ifCond .lt 14, 3) := by decide +kernel
theorem dX0_read_19 : decode cX0_read 19 = .ok (.iload_n 3, 1) := by decide +kernel
theorem dX0_read_20 : decode cX0_read 20 = .ok (.aload_n 0, 1) := by decide +kernel
theorem dX0_read_21 : decode cX0_read 21 = .ok (.getfield 13, 3) := by decide +kernel
theorem dX0_read_24 : decode cX0_read 24 = .ok (.arraylength, 1) := by decide +kernel
theorem dX0_read_25 : decode cX0_read 25 = .ok (.iconst 1, 1) := by decide +kernel
theorem dX0_read_26 : decode cX0_read 26 = .ok (.isub, 1) := by decide +kernel
theorem dX0_read_27 : decode cX0_read 27 = .ok (.if_icmp .lt 5, 3) := by decide +kernel
theorem dX0_read_30 : decode cX0_read 30 = .ok (.iconst 0, 1) := by decide +kernel
theorem dX0_read_31 : decode cX0_read 31 = .ok (.ireturn, 1) := by decide +kernel
theorem dX0_read_32 : decode cX0_read 32 = .ok (.aload_n 0, 1) := by decide +kernel
theorem dX0_read_33 : decode cX0_read 33 = .ok (.getfield 13, 3) := by decide +kernel
theorem dX0_read_36 : decode cX0_read 36 = .ok (.iload_n 3, 1) := by decide +kernel
theorem dX0_read_37 : decode cX0_read 37 = .ok (.iaload, 1) := by decide +kernel
theorem dX0_read_38 : decode cX0_read 38 = .ok (.i2l, 1) := by decide +kernel
theorem dX0_read_39 : decode cX0_read 39 = .ok (.bipush 32, 2) := by decide +kernel
theorem dX0_read_41 : decode cX0_read 41 = .ok (.lshl, 1) := by decide +kernel
theorem dX0_read_42 : decode cX0_read 42 = .ok (.aload_n 0, 1) := by decide +kernel
theorem dX0_read_43 : decode cX0_read 43 = .ok (.getfield 13, 3) := by decide +kernel
theorem dX0_read_46 : decode cX0_read 46 = .ok (.iload_n 3, 1) := by decide +kernel
theorem dX0_read_47 : decode cX0_read 47 = .ok (.iconst 1, 1) := by decide +kernel
theorem dX0_read_48 : decode cX0_read 48 = .ok (.iadd, 1) := by decide +kernel
theorem dX0_read_49 : decode cX0_read 49 = .ok (.iaload, 1) := by decide +kernel
theorem dX0_read_50 : decode cX0_read 50 = .ok (.i2l, 1) := by decide +kernel
theorem dX0_read_51 : decode cX0_read 51 = .ok (.ldc2_w 26, 3) := by decide +kernel
theorem dX0_read_54 : decode cX0_read 54 = .ok (.land, 1) := by decide +kernel
theorem dX0_read_55 : decode cX0_read 55 = .ok (.lor, 1) := by decide +kernel
theorem dX0_read_56 : decode cX0_read 56 = .ok (.lstore 4, 2) := by decide +kernel
theorem dX0_read_58 : decode cX0_read 58 = .ok (.lload 4, 2) := by decide +kernel
theorem dX0_read_60 : decode cX0_read 60 = .ok (.iload_n 1, 1) := by decide +kernel
theorem dX0_read_61 : decode cX0_read 61 = .ok (.bipush 31, 2) := by decide +kernel
theorem dX0_read_63 : decode cX0_read 63 = .ok (.iand, 1) := by decide +kernel
theorem dX0_read_64 : decode cX0_read 64 = .ok (.lshl, 1) := by decide +kernel
theorem dX0_read_65 : decode cX0_read 65 = .ok (.bipush 64, 2) := by decide +kernel
theorem dX0_read_67 : decode cX0_read 67 = .ok (.iload_n 2, 1) := by decide +kernel
theorem dX0_read_68 : decode cX0_read 68 = .ok (.isub, 1) := by decide +kernel
theorem dX0_read_69 : decode cX0_read 69 = .ok (.lushr, 1) := by decide +kernel
theorem dX0_read_70 : decode cX0_read 70 = .ok (.l2i, 1) := by decide +kernel
theorem dX0_read_71 : decode cX0_read 71 = .ok (.ireturn, 1) := by decide +kernel
theorem dX1_init_0 : decode cX1_init 0 = .ok (.aload_n 0, 1) := by decide +kernel
theorem dX1_init_1 : decode cX1_init 1 = .ok (.invokespecial 3, 3) := by decide +kernel
theorem dX1_init_4 : decode cX1_init 4 = .ok (.aload_n 0, 1) := by decide +kernel
theorem dX1_init_5 : decode cX1_init 5 = .ok (.bipush 78, 2) := by decide +kernel
theorem dX1_init_7 : decode cX1_init 7 = .ok (.newarray .byte, 2) := by decide +kernel
theorem dX1_init_9 : decode cX1_init 9 = .ok (.putfield 11, 3) := by decide +kernel
theorem dX1_init_12 : decode cX1_init 12 = .ok (.aload_n 0, 1) := by decide +kernel
theorem dX1_init_13 : decode cX1_init 13 = .ok (.bipush 80, 2) := by decide +kernel
theorem dX1_init_15 : decode cX1_init 15 = .ok (.newarray .int, 2) := by decide +kernel
theorem dX1_init_17 : decode cX1_init 17 = .ok (.putfield 17, 3) := by decide +kernel
theorem dX1_init_20 : decode cX1_init 20 = .ok (.return_, 1) := by decide +kernel
theorem dX1_split_0 : decode cX1_split 0 = .ok (.aload_n 0, 1) := by decide +kernel
theorem dX1_split_1 : decode cX1_split 1 = .ok (.iconst 1, 1) := by decide +kernel
theorem dX1_split_2 : decode cX1_split 2 = .ok (.putfield 21, 3) := by decide +kernel
theorem dX1_split_5 : decode cX1_split 5 = .ok (.aload_n 0, 1) := by decide +kernel
theorem dX1_split_6 : decode cX1_split 6 = .ok (.iconst 1, 1) := by decide +kernel
theorem dX1_split_7 : decode cX1_split 7 = .ok (.putfield 25, 3) := by decide +kernel
theorem dX1_split_10 : decode cX1_split 10 = .ok (.aload_n 0, 1) := by decide +kernel
theorem dX1_split_11 : decode cX1_split 11 = .ok (.getfield 17, 3) := by decide +kernel
theorem dX1_split_14 : decode cX1_split 14 = .ok (.iconst 0, 1) := by decide +kernel
theorem dX1_split_15 : decode cX1_split 15 = .ok (.iconst 0, 1) := by decide +kernel
theorem dX1_split_16 : decode cX1_split 16 = .ok (.iastore, 1) := by decide +kernel
theorem dX1_split_17 : decode cX1_split 17 = .ok (.aload_n 1, 1) := by decide +kernel
theorem dX1_split_18 : decode cX1_split 18 = .ok (.getfield 29, 3) := by decide +kernel
theorem dX1_split_21 : decode cX1_split 21 = .ok (.bipush 78, 2) := by decide +kernel
theorem dX1_split_23 : decode cX1_split 23 = .ok (.if_icmp .gt 10, 3) := by decide +kernel
theorem dX1_split_26 : decode cX1_split 26 = .ok (.aload_n 1, 1) := by decide +kernel
theorem dX1_split_27 : decode cX1_split 27 = .ok (.getfield 29, 3) := by decide +kernel
theorem dX1_split_30 : decode cX1_split 30 = .ok (.goto 5, 3) := by decide +kernel
theorem dX1_split_33 : decode cX1_split 33 = .ok (.bipush 78, 2) := by decide +kernel
theorem dX1_split_35 : decode cX1_split 35 = .ok (.istore_n 2, 1) := by decide +kernel
theorem dX1_split_36 : decode cX1_split 36 = .ok (.iconst 0, 1) := by decide +kernel
theorem dX1_split_37 : decode cX1_split 37 = .ok (.istore_n 3, 1) := by decide +kernel
theorem dX1_split_38 : decode cX1_split 38 = .ok (.iload_n 3, 1) := by decide +kernel
theorem dX1_split_39 : decode cX1_split 39 = .ok (.iload_n 2, 1) := by decide +kernel
theorem dX1_split_40 : decode cX1_split 40 = .ok (.if_icmp .ge 68, 3) := by decide +kernel
theorem dX1_split_43 : decode cX1_split 43 = .ok (.aload_n 1, 1) := by decide +kernel
theorem dX1_split_44 : decode cX1_split 44 = .ok (.iload_n 3, 1) := by decide +kernel
theorem dX1_split_45 : decode cX1_split 45 = .ok (.invokevirtual 32, 3) := by decide +kernel
theorem dX1_split_48 : decode cX1_split 48 = .ok (.istore 4, 2) := by decide +kernel
theorem dX1_split_50 : decode cX1_split 50 = .ok (.aload_n 0, 1) := by decide +kernel
theorem dX1_split_51 : decode cX1_split 51 = .ok (.getfield 11, 3) := by decide +kernel
theorem dX1_split_54 : decode cX1_split 54 = .ok (.iload_n 3, 1) := by decide +kernel
theorem dX1_split_55 : decode cX1_split 55 = .ok (.iload 4, 2) := by decide +kernel
theorem dX1_split_57 : decode cX1_split 57 = .ok (.i2b, 1) := by decide +kernel
theorem dX1_split_58 : decode cX1_split 58 = .ok (.bastore, 1) := by decide +kernel
theorem dX1_split_59 : decode cX1_split 59 = .ok (.iload 4, 2) := by decide +kernel
theorem dX1_split_61 : decode cX1_split 61 = .ok (.bipush 44, 2) := by decide +kernel
theorem dX1_split_63 : decode cX1_split 63 = .ok (.if_icmp .ne 39, 3) := by decide +kernel
theorem dX1_split_66 : decode cX1_split 66 = .ok (.aload_n 0, 1) := by decide +kernel
theorem dX1_split_67 : decode cX1_split 67 = .ok (.getfield 25, 3) := by decide +kernel
theorem dX1_split_70 : decode cX1_split 70 = .ok (.aload_n 0, 1) := by decide +kernel
theorem dX1_split_71 : decode cX1_split 71 = .ok (.getfield 17, 3) := by decide +kernel
theorem dX1_split_74 : decode cX1_split 74 = .ok (.arraylength, 1) := by decide +kernel
theorem dX1_split_75 : decode cX1_split 75 = .ok (.iconst 1, 1) := by decide +kernel
theorem dX1_split_76 : decode cX1_split 76 = .ok (.isub, 1) := by decide +kernel
theorem dX1_split_77 : decode cX1_split 77 = .ok (.if_icmp .ge 25, 3) := by decide +kernel
theorem dX1_split_80 : decode cX1_split 80 = .ok (.aload_n 0, 1) := by decide +kernel
theorem dX1_split_81 : decode cX1_split 81 = .ok (.getfield 17, 3) := by decide +kernel
theorem dX1_split_84 : decode cX1_split 84 = .ok (.aload_n 0, 1) := by decide +kernel
theorem dX1_split_85 : decode cX1_split 85 = .ok (.getfield 25, 3) := by decide +kernel
theorem dX1_split_88 : decode cX1_split 88 = .ok (.iload_n 3, 1) := by decide +kernel
theorem dX1_split_89 : decode cX1_split 89 = .ok (.iconst 1, 1) := by decide +kernel
theorem dX1_split_90 : decode cX1_split 90 = .ok (.iadd, 1) := by decide +kernel
theorem dX1_split_91 : decode cX1_split 91 = .ok (.iastore, 1) := by decide +kernel
theorem dX1_split_92 : decode cX1_split 92 = .ok (.aload_n 0, 1) := by decide +kernel
theorem dX1_split_93 : decode cX1_split 93 = .ok (.dup, 1) := by decide +kernel
theorem dX1_split_94 : decode cX1_split 94 = .ok (.getfield 25, 3) := by decide +kernel
theorem dX1_split_97 : decode cX1_split 97 = .ok (.iconst 1, 1) := by decide +kernel
theorem dX1_split_98 : decode cX1_split 98 = .ok (.iadd, 1) := by decide +kernel
theorem dX1_split_99 : decode cX1_split 99 = .ok (.putfield 25, 3) := by decide +kernel
theorem dX1_split_102 : decode cX1_split 102 = .ok (.iinc 3 1, 3) := by decide +kernel
theorem dX1_split_105 : decode cX1_split 105 = .ok (.goto (-67), 3) := by decide +kernel
theorem dX1_split_108 : decode cX1_split 108 = .ok (.aload_n 0, 1) := by decide +kernel
theorem dX1_split_109 : decode cX1_split 109 = .ok (.getfield 17, 3) := by decide +kernel
theorem dX1_split_112 : decode cX1_split 112 = .ok (.aload_n 0, 1) := by decide +kernel
theorem dX1_split_113 : decode cX1_split 113 = .ok (.getfield 25, 3) := by decide +kernel
theorem dX1_split_116 : decode cX1_split 116 = .ok (.iload_n 2, 1) := by decide +kernel
theorem dX1_split_117 : decode cX1_split 117 = .ok (.iconst 1, 1) := by decide +kernel
theorem dX1_split_118 : decode cX1_split 118 = .ok (.iadd, 1) := by decide +kernel
theorem dX1_split_119 : decode cX1_split 119 = .ok (.iastore, 1) := by decide +kernel
theorem dX1_split_120 : decode cX1_split 120 = .ok (.return_, 1) := by decide +kernel
theorem dX1_form_0 : decode cX1_form 0 = .ok (.aload_n 0, 1) := by decide +kernel
theorem dX1_form_1 : decode cX1_form 1 = .ok (.iconst 0, 1) := by decide +kernel
theorem dX1_form_2 : decode cX1_form 2 = .ok (.invokevirtual 36, 3) := by decide +kernel
theorem dX1_form_5 : decode cX1_form 5 = .ok (.iconst 5, 1) := by decide +kernel
theorem dX1_form_6 : decode cX1_form 6 = .ok (.if_icmp .eq 5, 3) := by decide +kernel
theorem dX1_form_9 : decode cX1_form 9 = .ok (.iconst 0, 1) := by decide +kernel
theorem dX1_form_10 : decode cX1_form 10 = .ok (.ireturn, 1) := by decide +kernel
theorem dX1_form_11 : decode cX1_form 11 = .ok (.iconst 0, 1) := by decide +kernel
theorem dX1_form_12 : decode cX1_form 12 = .ok (.istore_n 2, 1) := by decide +kernel
theorem dX1_form_13 : decode cX1_form 13 = .ok (.iload_n 2, 1) := by decide +kernel
theorem dX1_form_14 : decode cX1_form 14 = .ok (.iconst 5, 1) := by decide +kernel
theorem dX1_form_15 : decode cX1_form 15 = .ok (.if_icmp .ge 65, 3) := by decide +kernel
theorem dX1_form_18 : decode cX1_form 18 = .ok (.aload_n 0, 1) := by decide +kernel
theorem dX1_form_19 : decode cX1_form 19 = .ok (.getfield 11, 3) := by decide +kernel
theorem dX1_form_22 : decode cX1_form 22 = .ok (.iload_n 2, 1) := by decide +kernel
theorem dX1_form_23 : decode cX1_form 23 = .ok (.baload, 1) := by decide +kernel
theorem dX1_form_24 : decode cX1_form 24 = .ok (.bipush 65, 2) := by decide +kernel
theorem dX1_form_26 : decode cX1_form 26 = .ok (.if_icmp .lt 14, 3) := by decide +kernel
theorem dX1_form_29 : decode cX1_form 29 = .ok (.aload_n 0, 1) := by decide +kernel
theorem dX1_form_30 : decode cX1_form 30 = .ok (.getfield 11, 3) := by decide +kernel
theorem dX1_form_33 : decode cX1_form 33 = .ok (.iload_n 2, 1) := by decide +kernel
theorem dX1_form_34 : decode cX1_form 34 = .ok (.baload, 1) := by decide +kernel
theorem dX1_form_35 : decode cX1_form 35 = .ok (.bipush 90, 2) := by decide +kernel
theorem dX1_form_37 : decode cX1_form 37 = .ok (.if_icmp .le 25, 3) := by decide +kernel
theorem dX1_form_40 : decode cX1_form 40 = .ok (.aload_n 0, 1) := by decide +kernel
theorem dX1_form_41 : decode cX1_form 41 = .ok (.getfield 11, 3) := by decide +kernel
theorem dX1_form_44 : decode cX1_form 44 = .ok (.iload_n 2, 1) := by decide +kernel
theorem dX1_form_45 : decode cX1_form 45 = .ok (.baload, 1) := by decide +kernel
theorem dX1_form_46 : decode cX1_form 46 = .ok (.bipush 48, 2) := by decide +kernel
theorem dX1_form_48 : decode cX1_form 48 = .ok (.if_icmp .lt 18, 3) := by decide +kernel
theorem dX1_form_51 : decode cX1_form 51 = .ok (.aload_n 0, 1) := by decide +kernel
theorem dX1_form_52 : decode cX1_form 52 = .ok (.getfield 11, 3) := by decide +kernel
theorem dX1_form_55 : decode cX1_form 55 = .ok (.iload_n 2, 1) := by decide +kernel
theorem dX1_form_56 : decode cX1_form 56 = .ok (.baload, 1) := by decide +kernel
theorem dX1_form_57 : decode cX1_form 57 = .ok (.bipush 57, 2) := by decide +kernel
theorem dX1_form_59 : decode cX1_form 59 = .ok (.if_icmp .gt 7, 3) := by decide +kernel
theorem dX1_form_62 : decode cX1_form 62 = .ok (.iconst 1, 1) := by decide +kernel
theorem dX1_form_63 : decode cX1_form 63 = .ok (.goto 4, 3) := by decide +kernel
theorem dX1_form_66 : decode cX1_form 66 = .ok (.iconst 0, 1) := by decide +kernel
theorem dX1_form_67 : decode cX1_form 67 = .ok (.istore_n 3, 1) := by decide +kernel
theorem dX1_form_68 : decode cX1_form 68 = .ok (.iload_n 3, 1) := by decide +kernel
theorem dX1_form_69 : decode cX1_form 69 = .ok (.ifCond .ne 5, 3) := by decide +kernel
theorem dX1_form_72 : decode cX1_form 72 = .ok (.iconst 0, 1) := by decide +kernel
theorem dX1_form_73 : decode cX1_form 73 = .ok (.ireturn, 1) := by decide +kernel
theorem dX1_form_74 : decode cX1_form 74 = .ok (.iinc 2 1, 3) := by decide +kernel
theorem dX1_form_77 : decode cX1_form 77 = .ok (.goto (-64), 3) := by decide +kernel
theorem dX1_form_80 : decode cX1_form 80 = .ok (.iload_n 1, 1) := by decide +kernel
theorem dX1_form_81 : decode cX1_form 81 = .ok (.bipush 33, 2) := by decide +kernel
theorem dX1_form_83 : decode cX1_form 83 = .ok (.if_icmp .ne 27, 3) := by decide +kernel
theorem dX1_form_86 : decode cX1_form 86 = .ok (.aload_n 0, 1) := by decide +kernel
theorem dX1_form_87 : decode cX1_form 87 = .ok (.ldc 39, 2) := by decide +kernel
theorem dX1_form_89 : decode cX1_form 89 = .ok (.invokevirtual 41, 3) := by decide +kernel
theorem dX1_form_92 : decode cX1_form 92 = .ok (.ifCond .ne 12, 3) := by decide +kernel
theorem dX1_form_95 : decode cX1_form 95 = .ok (.aload_n 0, 1) := by decide +kernel
theorem dX1_form_96 : decode cX1_form 96 = .ok (.ldc 45, 2) := by decide +kernel
theorem dX1_form_98 : decode cX1_form 98 = .ok (.invokevirtual 41, 3) := by decide +kernel
theorem dX1_form_101 : decode cX1_form 101 = .ok (.ifCond .eq 7, 3) := by decide +kernel
theorem dX1_form_104 : decode cX1_form 104 = .ok (.iconst 4, 1) := by decide +kernel
theorem dX1_form_105 : decode cX1_form 105 = .ok (.goto 4, 3) := by decide +kernel
theorem dX1_form_108 : decode cX1_form 108 = .ok (.iconst 0, 1) := by decide +kernel
theorem dX1_form_109 : decode cX1_form 109 = .ok (.ireturn, 1) := by decide +kernel
theorem dX1_form_110 : decode cX1_form 110 = .ok (.aload_n 0, 1) := by decide +kernel
theorem dX1_form_111 : decode cX1_form 111 = .ok (.ldc 47, 2) := by decide +kernel
theorem dX1_form_113 : decode cX1_form 113 = .ok (.invokevirtual 41, 3) := by decide +kernel
theorem dX1_form_116 : decode cX1_form 116 = .ok (.ifCond .eq 5, 3) := by decide +kernel
theorem dX1_form_119 : decode cX1_form 119 = .ok (.iconst 1, 1) := by decide +kernel
theorem dX1_form_120 : decode cX1_form 120 = .ok (.ireturn, 1) := by decide +kernel
theorem dX1_form_121 : decode cX1_form 121 = .ok (.aload_n 0, 1) := by decide +kernel
theorem dX1_form_122 : decode cX1_form 122 = .ok (.ldc 49, 2) := by decide +kernel
theorem dX1_form_124 : decode cX1_form 124 = .ok (.invokevirtual 41, 3) := by decide +kernel
theorem dX1_form_127 : decode cX1_form 127 = .ok (.ifCond .eq 5, 3) := by decide +kernel
theorem dX1_form_130 : decode cX1_form 130 = .ok (.iconst 2, 1) := by decide +kernel
theorem dX1_form_131 : decode cX1_form 131 = .ok (.ireturn, 1) := by decide +kernel
theorem dX1_form_132 : decode cX1_form 132 = .ok (.aload_n 0, 1) := by decide +kernel
theorem dX1_form_133 : decode cX1_form 133 = .ok (.ldc 51, 2) := by decide +kernel
theorem dX1_form_135 : decode cX1_form 135 = .ok (.invokevirtual 41, 3) := by decide +kernel
theorem dX1_form_138 : decode cX1_form 138 = .ok (.ifCond .eq 7, 3) := by decide +kernel
theorem dX1_form_141 : decode cX1_form 141 = .ok (.iconst 3, 1) := by decide +kernel
theorem dX1_form_142 : decode cX1_form 142 = .ok (.goto 4, 3) := by decide +kernel
theorem dX1_form_145 : decode cX1_form 145 = .ok (.iconst 0, 1) := by decide +kernel
theorem dX1_form_146 : decode cX1_form 146 = .ok (.ireturn, 1) := by decide +kernel
theorem dX1_isForm_0 : decode cX1_isForm 0 = .ok (.aload_n 0, 1) := by decide +kernel
theorem dX1_isForm_1 : decode cX1_isForm 1 = .ok (.getfield 11, 3) := by decide +kernel
theorem dX1_isForm_4 : decode cX1_isForm 4 = .ok (.iconst 2, 1) := by decide +kernel
theorem dX1_isForm_5 : decode cX1_isForm 5 = .ok (.baload, 1) := by decide +kernel
theorem dX1_isForm_6 : decode cX1_isForm 6 = .ok (.aload_n 1, 1) := by decide +kernel
theorem dX1_isForm_7 : decode cX1_isForm 7 = .ok (.iconst 0, 1) := by decide +kernel
theorem dX1_isForm_8 : decode cX1_isForm 8 = .ok (.invokevirtual 53, 3) := by decide +kernel
theorem dX1_isForm_11 : decode cX1_isForm 11 = .ok (.if_icmp .ne 35, 3) := by decide +kernel
theorem dX1_isForm_14 : decode cX1_isForm 14 = .ok (.aload_n 0, 1) := by decide +kernel
theorem dX1_isForm_15 : decode cX1_isForm 15 = .ok (.getfield 11, 3) := by decide +kernel
theorem dX1_isForm_18 : decode cX1_isForm 18 = .ok (.iconst 3, 1) := by decide +kernel
theorem dX1_isForm_19 : decode cX1_isForm 19 = .ok (.baload, 1) := by decide +kernel
theorem dX1_isForm_20 : decode cX1_isForm 20 = .ok (.aload_n 1, 1) := by decide +kernel
theorem dX1_isForm_21 : decode cX1_isForm 21 = .ok (.iconst 1, 1) := by decide +kernel
theorem dX1_isForm_22 : decode cX1_isForm 22 = .ok (.invokevirtual 53, 3) := by decide +kernel
theorem dX1_isForm_25 : decode cX1_isForm 25 = .ok (.if_icmp .ne 21, 3) := by decide +kernel
theorem dX1_isForm_28 : decode cX1_isForm 28 = .ok (.aload_n 0, 1) := by decide +kernel
theorem dX1_isForm_29 : decode cX1_isForm 29 = .ok (.getfield 11, 3) := by decide +kernel
theorem dX1_isForm_32 : decode cX1_isForm 32 = .ok (.iconst 4, 1) := by decide +kernel
theorem dX1_isForm_33 : decode cX1_isForm 33 = .ok (.baload, 1) := by decide +kernel
theorem dX1_isForm_34 : decode cX1_isForm 34 = .ok (.aload_n 1, 1) := by decide +kernel
theorem dX1_isForm_35 : decode cX1_isForm 35 = .ok (.iconst 2, 1) := by decide +kernel
theorem dX1_isForm_36 : decode cX1_isForm 36 = .ok (.invokevirtual 53, 3) := by decide +kernel
theorem dX1_isForm_39 : decode cX1_isForm 39 = .ok (.if_icmp .ne 7, 3) := by decide +kernel
theorem dX1_isForm_42 : decode cX1_isForm 42 = .ok (.iconst 1, 1) := by decide +kernel
theorem dX1_isForm_43 : decode cX1_isForm 43 = .ok (.goto 4, 3) := by decide +kernel
theorem dX1_isForm_46 : decode cX1_isForm 46 = .ok (.iconst 0, 1) := by decide +kernel
theorem dX1_isForm_47 : decode cX1_isForm 47 = .ok (.ireturn, 1) := by decide +kernel
theorem dX1_isEmpty_0 : decode cX1_isEmpty 0 = .ok (.aload_n 0, 1) := by decide +kernel
theorem dX1_isEmpty_1 : decode cX1_isEmpty 1 = .ok (.iload_n 1, 1) := by decide +kernel
theorem dX1_isEmpty_2 : decode cX1_isEmpty 2 = .ok (.invokevirtual 59, 3) := by decide +kernel
theorem dX1_isEmpty_5 : decode cX1_isEmpty 5 = .ok (.aload_n 0, 1) := by decide +kernel
theorem dX1_isEmpty_6 : decode cX1_isEmpty 6 = .ok (.iload_n 1, 1) := by decide +kernel
theorem dX1_isEmpty_7 : decode cX1_isEmpty 7 = .ok (.invokevirtual 36, 3) := by decide +kernel
theorem dX1_isEmpty_10 : decode cX1_isEmpty 10 = .ok (.if_icmp .lt 7, 3) := by decide +kernel
theorem dX1_isEmpty_13 : decode cX1_isEmpty 13 = .ok (.iconst 1, 1) := by decide +kernel
theorem dX1_isEmpty_14 : decode cX1_isEmpty 14 = .ok (.goto 4, 3) := by decide +kernel
theorem dX1_isEmpty_17 : decode cX1_isEmpty 17 = .ok (.iconst 0, 1) := by decide +kernel
theorem dX1_isEmpty_18 : decode cX1_isEmpty 18 = .ok (.ireturn, 1) := by decide +kernel
theorem dX1_from_0 : decode cX1_from 0 = .ok (.iload_n 1, 1) := by decide +kernel
theorem dX1_from_1 : decode cX1_from 1 = .ok (.ifCond .lt 20, 3) := by decide +kernel
theorem dX1_from_4 : decode cX1_from 4 = .ok (.iload_n 1, 1) := by decide +kernel
theorem dX1_from_5 : decode cX1_from 5 = .ok (.aload_n 0, 1) := by decide +kernel
theorem dX1_from_6 : decode cX1_from 6 = .ok (.getfield 25, 3) := by decide +kernel
theorem dX1_from_9 : decode cX1_from 9 = .ok (.if_icmp .ge 12, 3) := by decide +kernel
theorem dX1_from_12 : decode cX1_from 12 = .ok (.aload_n 0, 1) := by decide +kernel
theorem dX1_from_13 : decode cX1_from 13 = .ok (.getfield 17, 3) := by decide +kernel
theorem dX1_from_16 : decode cX1_from 16 = .ok (.iload_n 1, 1) := by decide +kernel
theorem dX1_from_17 : decode cX1_from 17 = .ok (.iaload, 1) := by decide +kernel
theorem dX1_from_18 : decode cX1_from 18 = .ok (.goto 4, 3) := by decide +kernel
theorem dX1_from_21 : decode cX1_from 21 = .ok (.iconst 0, 1) := by decide +kernel
theorem dX1_from_22 : decode cX1_from 22 = .ok (.ireturn, 1) := by decide +kernel
theorem dX1_to_0 : decode cX1_to 0 = .ok (.iload_n 1, 1) := by decide +kernel
theorem dX1_to_1 : decode cX1_to 1 = .ok (.ifCond .lt 24, 3) := by decide +kernel
theorem dX1_to_4 : decode cX1_to 4 = .ok (.iload_n 1, 1) := by decide +kernel
theorem dX1_to_5 : decode cX1_to 5 = .ok (.aload_n 0, 1) := by decide +kernel
theorem dX1_to_6 : decode cX1_to 6 = .ok (.getfield 25, 3) := by decide +kernel
theorem dX1_to_9 : decode cX1_to 9 = .ok (.if_icmp .ge 16, 3) := by decide +kernel
theorem dX1_to_12 : decode cX1_to 12 = .ok (.aload_n 0, 1) := by decide +kernel
theorem dX1_to_13 : decode cX1_to 13 = .ok (.getfield 17, 3) := by decide +kernel
theorem dX1_to_16 : decode cX1_to 16 = .ok (.iload_n 1, 1) := by decide +kernel
theorem dX1_to_17 : decode cX1_to 17 = .ok (.iconst 1, 1) := by decide +kernel
theorem dX1_to_18 : decode cX1_to 18 = .ok (.iadd, 1) := by decide +kernel
theorem dX1_to_19 : decode cX1_to 19 = .ok (.iaload, 1) := by decide +kernel
theorem dX1_to_20 : decode cX1_to 20 = .ok (.iconst 1, 1) := by decide +kernel
theorem dX1_to_21 : decode cX1_to 21 = .ok (.isub, 1) := by decide +kernel
theorem dX1_to_22 : decode cX1_to 22 = .ok (.goto 4, 3) := by decide +kernel
theorem dX1_to_25 : decode cX1_to 25 = .ok (.iconst 0, 1) := by decide +kernel
theorem dX1_to_26 : decode cX1_to 26 = .ok (.ireturn, 1) := by decide +kernel
theorem dX1_at_0 : decode cX1_at 0 = .ok (.iload_n 1, 1) := by decide +kernel
theorem dX1_at_1 : decode cX1_at 1 = .ok (.ifCond .lt 21, 3) := by decide +kernel
theorem dX1_at_4 : decode cX1_at 4 = .ok (.iload_n 1, 1) := by decide +kernel
theorem dX1_at_5 : decode cX1_at 5 = .ok (.aload_n 0, 1) := by decide +kernel
theorem dX1_at_6 : decode cX1_at 6 = .ok (.getfield 11, 3) := by decide +kernel
theorem dX1_at_9 : decode cX1_at 9 = .ok (.arraylength, 1) := by decide +kernel
theorem dX1_at_10 : decode cX1_at 10 = .ok (.if_icmp .ge 12, 3) := by decide +kernel
theorem dX1_at_13 : decode cX1_at 13 = .ok (.aload_n 0, 1) := by decide +kernel
theorem dX1_at_14 : decode cX1_at 14 = .ok (.getfield 11, 3) := by decide +kernel
theorem dX1_at_17 : decode cX1_at 17 = .ok (.iload_n 1, 1) := by decide +kernel
theorem dX1_at_18 : decode cX1_at 18 = .ok (.baload, 1) := by decide +kernel
theorem dX1_at_19 : decode cX1_at 19 = .ok (.goto 5, 3) := by decide +kernel
theorem dX1_at_22 : decode cX1_at 22 = .ok (.ldc 62, 2) := by decide +kernel
theorem dX1_at_24 : decode cX1_at 24 = .ok (.ireturn, 1) := by decide +kernel
theorem dX1_wrong_0 : decode cX1_wrong 0 = .ok (.aload_n 0, 1) := by decide +kernel
theorem dX1_wrong_1 : decode cX1_wrong 1 = .ok (.iconst 0, 1) := by decide +kernel
theorem dX1_wrong_2 : decode cX1_wrong 2 = .ok (.putfield 21, 3) := by decide +kernel
theorem dX1_wrong_5 : decode cX1_wrong 5 = .ok (.ldc 62, 2) := by decide +kernel
theorem dX1_wrong_7 : decode cX1_wrong 7 = .ok (.ireturn, 1) := by decide +kernel
theorem dX1_digit_0 : decode cX1_digit 0 = .ok (.aload_n 0, 1) := by decide +kernel
theorem dX1_digit_1 : decode cX1_digit 1 = .ok (.aload_n 0, 1) := by decide +kernel
theorem dX1_digit_2 : decode cX1_digit 2 = .ok (.iload_n 1, 1) := by decide +kernel
theorem dX1_digit_3 : decode cX1_digit 3 = .ok (.invokevirtual 59, 3) := by decide +kernel
theorem dX1_digit_6 : decode cX1_digit 6 = .ok (.invokevirtual 63, 3) := by decide +kernel
theorem dX1_digit_9 : decode cX1_digit 9 = .ok (.istore 4, 2) := by decide +kernel
theorem dX1_digit_11 : decode cX1_digit 11 = .ok (.aload_n 0, 1) := by decide +kernel
theorem dX1_digit_12 : decode cX1_digit 12 = .ok (.iload_n 1, 1) := by decide +kernel
theorem dX1_digit_13 : decode cX1_digit 13 = .ok (.invokevirtual 36, 3) := by decide +kernel
theorem dX1_digit_16 : decode cX1_digit 16 = .ok (.aload_n 0, 1) := by decide +kernel
theorem dX1_digit_17 : decode cX1_digit 17 = .ok (.iload_n 1, 1) := by decide +kernel
theorem dX1_digit_18 : decode cX1_digit 18 = .ok (.invokevirtual 59, 3) := by decide +kernel
theorem dX1_digit_21 : decode cX1_digit 21 = .ok (.isub, 1) := by decide +kernel
theorem dX1_digit_22 : decode cX1_digit 22 = .ok (.iconst 1, 1) := by decide +kernel
theorem dX1_digit_23 : decode cX1_digit 23 = .ok (.if_icmp .ne 19, 3) := by decide +kernel
theorem dX1_digit_26 : decode cX1_digit 26 = .ok (.iload 4, 2) := by decide +kernel
theorem dX1_digit_28 : decode cX1_digit 28 = .ok (.iload_n 2, 1) := by decide +kernel
theorem dX1_digit_29 : decode cX1_digit 29 = .ok (.if_icmp .lt 13, 3) := by decide +kernel
theorem dX1_digit_32 : decode cX1_digit 32 = .ok (.iload 4, 2) := by decide +kernel
theorem dX1_digit_34 : decode cX1_digit 34 = .ok (.iload_n 3, 1) := by decide +kernel
theorem dX1_digit_35 : decode cX1_digit 35 = .ok (.if_icmp .gt 7, 3) := by decide +kernel
theorem dX1_digit_38 : decode cX1_digit 38 = .ok (.iconst 1, 1) := by decide +kernel
theorem dX1_digit_39 : decode cX1_digit 39 = .ok (.goto 4, 3) := by decide +kernel
theorem dX1_digit_42 : decode cX1_digit 42 = .ok (.iconst 0, 1) := by decide +kernel
theorem dX1_digit_43 : decode cX1_digit 43 = .ok (.istore 5, 2) := by decide +kernel
theorem dX1_digit_45 : decode cX1_digit 45 = .ok (.iload 5, 2) := by decide +kernel
theorem dX1_digit_47 : decode cX1_digit 47 = .ok (.ifCond .eq 8, 3) := by decide +kernel
theorem dX1_digit_50 : decode cX1_digit 50 = .ok (.iload 4, 2) := by decide +kernel
theorem dX1_digit_52 : decode cX1_digit 52 = .ok (.goto 7, 3) := by decide +kernel
theorem dX1_digit_55 : decode cX1_digit 55 = .ok (.aload_n 0, 1) := by decide +kernel
theorem dX1_digit_56 : decode cX1_digit 56 = .ok (.invokevirtual 66, 3) := by decide +kernel
theorem dX1_digit_59 : decode cX1_digit 59 = .ok (.ireturn, 1) := by decide +kernel
theorem dX1_oneOf_0 : decode cX1_oneOf 0 = .ok (.aload_n 0, 1) := by decide +kernel
theorem dX1_oneOf_1 : decode cX1_oneOf 1 = .ok (.iload_n 1, 1) := by decide +kernel
theorem dX1_oneOf_2 : decode cX1_oneOf 2 = .ok (.invokevirtual 70, 3) := by decide +kernel
theorem dX1_oneOf_5 : decode cX1_oneOf 5 = .ok (.ifCond .eq 6, 3) := by decide +kernel
theorem dX1_oneOf_8 : decode cX1_oneOf 8 = .ok (.ldc 62, 2) := by decide +kernel
theorem dX1_oneOf_10 : decode cX1_oneOf 10 = .ok (.ireturn, 1) := by decide +kernel
theorem dX1_oneOf_11 : decode cX1_oneOf 11 = .ok (.aload_n 0, 1) := by decide +kernel
theorem dX1_oneOf_12 : decode cX1_oneOf 12 = .ok (.aload_n 0, 1) := by decide +kernel
theorem dX1_oneOf_13 : decode cX1_oneOf 13 = .ok (.iload_n 1, 1) := by decide +kernel
theorem dX1_oneOf_14 : decode cX1_oneOf 14 = .ok (.invokevirtual 59, 3) := by decide +kernel
theorem dX1_oneOf_17 : decode cX1_oneOf 17 = .ok (.invokevirtual 74, 3) := by decide +kernel
theorem dX1_oneOf_20 : decode cX1_oneOf 20 = .ok (.istore_n 3, 1) := by decide +kernel
theorem dX1_oneOf_21 : decode cX1_oneOf 21 = .ok (.aload_n 0, 1) := by decide +kernel
theorem dX1_oneOf_22 : decode cX1_oneOf 22 = .ok (.iload_n 1, 1) := by decide +kernel
theorem dX1_oneOf_23 : decode cX1_oneOf 23 = .ok (.invokevirtual 36, 3) := by decide +kernel
theorem dX1_oneOf_26 : decode cX1_oneOf 26 = .ok (.aload_n 0, 1) := by decide +kernel
theorem dX1_oneOf_27 : decode cX1_oneOf 27 = .ok (.iload_n 1, 1) := by decide +kernel
theorem dX1_oneOf_28 : decode cX1_oneOf 28 = .ok (.invokevirtual 59, 3) := by decide +kernel
theorem dX1_oneOf_31 : decode cX1_oneOf 31 = .ok (.isub, 1) := by decide +kernel
theorem dX1_oneOf_32 : decode cX1_oneOf 32 = .ok (.iconst 1, 1) := by decide +kernel
theorem dX1_oneOf_33 : decode cX1_oneOf 33 = .ok (.if_icmp .ne 16, 3) := by decide +kernel
theorem dX1_oneOf_36 : decode cX1_oneOf 36 = .ok (.aload_n 2, 1) := by decide +kernel
theorem dX1_oneOf_37 : decode cX1_oneOf 37 = .ok (.iload_n 3, 1) := by decide +kernel
theorem dX1_oneOf_38 : decode cX1_oneOf 38 = .ok (.i2c, 1) := by decide +kernel
theorem dX1_oneOf_39 : decode cX1_oneOf 39 = .ok (.invokevirtual 75, 3) := by decide +kernel
theorem dX1_oneOf_42 : decode cX1_oneOf 42 = .ok (.ifCond .lt 7, 3) := by decide +kernel
theorem dX1_oneOf_45 : decode cX1_oneOf 45 = .ok (.iconst 1, 1) := by decide +kernel
theorem dX1_oneOf_46 : decode cX1_oneOf 46 = .ok (.goto 4, 3) := by decide +kernel
theorem dX1_oneOf_49 : decode cX1_oneOf 49 = .ok (.iconst 0, 1) := by decide +kernel
theorem dX1_oneOf_50 : decode cX1_oneOf 50 = .ok (.istore 4, 2) := by decide +kernel
theorem dX1_oneOf_52 : decode cX1_oneOf 52 = .ok (.iload 4, 2) := by decide +kernel
theorem dX1_oneOf_54 : decode cX1_oneOf 54 = .ok (.ifCond .eq 7, 3) := by decide +kernel
theorem dX1_oneOf_57 : decode cX1_oneOf 57 = .ok (.iload_n 3, 1) := by decide +kernel
theorem dX1_oneOf_58 : decode cX1_oneOf 58 = .ok (.goto 7, 3) := by decide +kernel
theorem dX1_oneOf_61 : decode cX1_oneOf 61 = .ok (.aload_n 0, 1) := by decide +kernel
theorem dX1_oneOf_62 : decode cX1_oneOf 62 = .ok (.invokevirtual 66, 3) := by decide +kernel
theorem dX1_oneOf_65 : decode cX1_oneOf 65 = .ok (.ireturn, 1) := by decide +kernel
theorem dX1_whole_0 : decode cX1_whole 0 = .ok (.aload_n 0, 1) := by decide +kernel
theorem dX1_whole_1 : decode cX1_whole 1 = .ok (.iload_n 1, 1) := by decide +kernel
theorem dX1_whole_2 : decode cX1_whole 2 = .ok (.invokevirtual 70, 3) := by decide +kernel
theorem dX1_whole_5 : decode cX1_whole 5 = .ok (.ifCond .eq 8, 3) := by decide +kernel
theorem dX1_whole_8 : decode cX1_whole 8 = .ok (.ldc 62, 2) := by decide +kernel
theorem dX1_whole_10 : decode cX1_whole 10 = .ok (.goto 21, 3) := by decide +kernel
theorem dX1_whole_13 : decode cX1_whole 13 = .ok (.aload_n 0, 1) := by decide +kernel
theorem dX1_whole_14 : decode cX1_whole 14 = .ok (.aload_n 0, 1) := by decide +kernel
theorem dX1_whole_15 : decode cX1_whole 15 = .ok (.iload_n 1, 1) := by decide +kernel
theorem dX1_whole_16 : decode cX1_whole 16 = .ok (.invokevirtual 59, 3) := by decide +kernel
theorem dX1_whole_19 : decode cX1_whole 19 = .ok (.aload_n 0, 1) := by decide +kernel
theorem dX1_whole_20 : decode cX1_whole 20 = .ok (.iload_n 1, 1) := by decide +kernel
theorem dX1_whole_21 : decode cX1_whole 21 = .ok (.invokevirtual 36, 3) := by decide +kernel
theorem dX1_whole_24 : decode cX1_whole 24 = .ok (.iload_n 2, 1) := by decide +kernel
theorem dX1_whole_25 : decode cX1_whole 25 = .ok (.iload_n 3, 1) := by decide +kernel
theorem dX1_whole_26 : decode cX1_whole 26 = .ok (.iconst 0, 1) := by decide +kernel
theorem dX1_whole_27 : decode cX1_whole 27 = .ok (.iconst 0, 1) := by decide +kernel
theorem dX1_whole_28 : decode cX1_whole 28 = .ok (.invokevirtual 78, 3) := by decide +kernel
theorem dX1_whole_31 : decode cX1_whole 31 = .ok (.ireturn, 1) := by decide +kernel
theorem dX1_decimal_0 : decode cX1_decimal 0 = .ok (.aload_n 0, 1) := by decide +kernel
theorem dX1_decimal_1 : decode cX1_decimal 1 = .ok (.iload_n 1, 1) := by decide +kernel
theorem dX1_decimal_2 : decode cX1_decimal 2 = .ok (.invokevirtual 70, 3) := by decide +kernel
theorem dX1_decimal_5 : decode cX1_decimal 5 = .ok (.ifCond .eq 8, 3) := by decide +kernel
theorem dX1_decimal_8 : decode cX1_decimal 8 = .ok (.ldc 62, 2) := by decide +kernel
theorem dX1_decimal_10 : decode cX1_decimal 10 = .ok (.goto 22, 3) := by decide +kernel
theorem dX1_decimal_13 : decode cX1_decimal 13 = .ok (.aload_n 0, 1) := by decide +kernel
theorem dX1_decimal_14 : decode cX1_decimal 14 = .ok (.aload_n 0, 1) := by decide +kernel
theorem dX1_decimal_15 : decode cX1_decimal 15 = .ok (.iload_n 1, 1) := by decide +kernel
theorem dX1_decimal_16 : decode cX1_decimal 16 = .ok (.invokevirtual 59, 3) := by decide +kernel
theorem dX1_decimal_19 : decode cX1_decimal 19 = .ok (.aload_n 0, 1) := by decide +kernel
theorem dX1_decimal_20 : decode cX1_decimal 20 = .ok (.iload_n 1, 1) := by decide +kernel
theorem dX1_decimal_21 : decode cX1_decimal 21 = .ok (.invokevirtual 36, 3) := by decide +kernel
theorem dX1_decimal_24 : decode cX1_decimal 24 = .ok (.iconst 1, 1) := by decide +kernel
theorem dX1_decimal_25 : decode cX1_decimal 25 = .ok (.iload_n 3, 1) := by decide +kernel
theorem dX1_decimal_26 : decode cX1_decimal 26 = .ok (.bipush 6, 2) := by decide +kernel
theorem dX1_decimal_28 : decode cX1_decimal 28 = .ok (.iload_n 2, 1) := by decide +kernel
theorem dX1_decimal_29 : decode cX1_decimal 29 = .ok (.invokevirtual 78, 3) := by decide +kernel
theorem dX1_decimal_32 : decode cX1_decimal 32 = .ok (.ireturn, 1) := by decide +kernel
theorem dX1_signed_0 : decode cX1_signed 0 = .ok (.aload_n 0, 1) := by decide +kernel
theorem dX1_signed_1 : decode cX1_signed 1 = .ok (.aload_n 0, 1) := by decide +kernel
theorem dX1_signed_2 : decode cX1_signed 2 = .ok (.iload_n 1, 1) := by decide +kernel
theorem dX1_signed_3 : decode cX1_signed 3 = .ok (.invokevirtual 59, 3) := by decide +kernel
theorem dX1_signed_6 : decode cX1_signed 6 = .ok (.invokevirtual 74, 3) := by decide +kernel
theorem dX1_signed_9 : decode cX1_signed 9 = .ok (.bipush 45, 2) := by decide +kernel
theorem dX1_signed_11 : decode cX1_signed 11 = .ok (.if_icmp .eq 11, 3) := by decide +kernel
theorem dX1_signed_14 : decode cX1_signed 14 = .ok (.aload_n 0, 1) := by decide +kernel
theorem dX1_signed_15 : decode cX1_signed 15 = .ok (.iload_n 1, 1) := by decide +kernel
theorem dX1_signed_16 : decode cX1_signed 16 = .ok (.iload_n 2, 1) := by decide +kernel
theorem dX1_signed_17 : decode cX1_signed 17 = .ok (.iload_n 3, 1) := by decide +kernel
theorem dX1_signed_18 : decode cX1_signed 18 = .ok (.invokevirtual 82, 3) := by decide +kernel
theorem dX1_signed_21 : decode cX1_signed 21 = .ok (.ireturn, 1) := by decide +kernel
theorem dX1_signed_22 : decode cX1_signed 22 = .ok (.aload_n 0, 1) := by decide +kernel
theorem dX1_signed_23 : decode cX1_signed 23 = .ok (.aload_n 0, 1) := by decide +kernel
theorem dX1_signed_24 : decode cX1_signed 24 = .ok (.iload_n 1, 1) := by decide +kernel
theorem dX1_signed_25 : decode cX1_signed 25 = .ok (.invokevirtual 59, 3) := by decide +kernel
theorem dX1_signed_28 : decode cX1_signed 28 = .ok (.iconst 1, 1) := by decide +kernel
theorem dX1_signed_29 : decode cX1_signed 29 = .ok (.iadd, 1) := by decide +kernel
theorem dX1_signed_30 : decode cX1_signed 30 = .ok (.aload_n 0, 1) := by decide +kernel
theorem dX1_signed_31 : decode cX1_signed 31 = .ok (.iload_n 1, 1) := by decide +kernel
theorem dX1_signed_32 : decode cX1_signed 32 = .ok (.invokevirtual 36, 3) := by decide +kernel
theorem dX1_signed_35 : decode cX1_signed 35 = .ok (.iconst 1, 1) := by decide +kernel
theorem dX1_signed_36 : decode cX1_signed 36 = .ok (.iload_n 3, 1) := by decide +kernel
theorem dX1_signed_37 : decode cX1_signed 37 = .ok (.bipush 6, 2) := by decide +kernel
theorem dX1_signed_39 : decode cX1_signed 39 = .ok (.iload_n 2, 1) := by decide +kernel
theorem dX1_signed_40 : decode cX1_signed 40 = .ok (.invokevirtual 78, 3) := by decide +kernel
theorem dX1_signed_43 : decode cX1_signed 43 = .ok (.istore 4, 2) := by decide +kernel
theorem dX1_signed_45 : decode cX1_signed 45 = .ok (.iload 4, 2) := by decide +kernel
theorem dX1_signed_47 : decode cX1_signed 47 = .ok (.ldc 62, 2) := by decide +kernel
theorem dX1_signed_49 : decode cX1_signed 49 = .ok (.if_icmp .ne 8, 3) := by decide +kernel
theorem dX1_signed_52 : decode cX1_signed 52 = .ok (.ldc 62, 2) := by decide +kernel
theorem dX1_signed_54 : decode cX1_signed 54 = .ok (.goto 6, 3) := by decide +kernel
theorem dX1_signed_57 : decode cX1_signed 57 = .ok (.iload 4, 2) := by decide +kernel
theorem dX1_signed_59 : decode cX1_signed 59 = .ok (.ineg, 1) := by decide +kernel
theorem dX1_signed_60 : decode cX1_signed 60 = .ok (.ireturn, 1) := by decide +kernel
theorem dX1_course_0 : decode cX1_course 0 = .ok (.aload_n 0, 1) := by decide +kernel
theorem dX1_course_1 : decode cX1_course 1 = .ok (.iload_n 1, 1) := by decide +kernel
theorem dX1_course_2 : decode cX1_course 2 = .ok (.iconst 2, 1) := by decide +kernel
theorem dX1_course_3 : decode cX1_course 3 = .ok (.iconst 3, 1) := by decide +kernel
theorem dX1_course_4 : decode cX1_course 4 = .ok (.invokevirtual 82, 3) := by decide +kernel
theorem dX1_course_7 : decode cX1_course 7 = .ok (.istore_n 2, 1) := by decide +kernel
theorem dX1_course_8 : decode cX1_course 8 = .ok (.iload_n 2, 1) := by decide +kernel
theorem dX1_course_9 : decode cX1_course 9 = .ok (.ldc 86, 2) := by decide +kernel
theorem dX1_course_11 : decode cX1_course 11 = .ok (.if_icmp .ge 7, 3) := by decide +kernel
theorem dX1_course_14 : decode cX1_course 14 = .ok (.iload_n 2, 1) := by decide +kernel
theorem dX1_course_15 : decode cX1_course 15 = .ok (.goto 7, 3) := by decide +kernel
theorem dX1_course_18 : decode cX1_course 18 = .ok (.aload_n 0, 1) := by decide +kernel
theorem dX1_course_19 : decode cX1_course 19 = .ok (.invokevirtual 66, 3) := by decide +kernel
theorem dX1_course_22 : decode cX1_course 22 = .ok (.ireturn, 1) := by decide +kernel
theorem dX1_variation_0 : decode cX1_variation 0 = .ok (.aload_n 0, 1) := by decide +kernel
theorem dX1_variation_1 : decode cX1_variation 1 = .ok (.iload_n 1, 1) := by decide +kernel
theorem dX1_variation_2 : decode cX1_variation 2 = .ok (.iconst 1, 1) := by decide +kernel
theorem dX1_variation_3 : decode cX1_variation 3 = .ok (.iconst 3, 1) := by decide +kernel
theorem dX1_variation_4 : decode cX1_variation 4 = .ok (.invokevirtual 82, 3) := by decide +kernel
theorem dX1_variation_7 : decode cX1_variation 7 = .ok (.istore_n 2, 1) := by decide +kernel
theorem dX1_variation_8 : decode cX1_variation 8 = .ok (.iload_n 2, 1) := by decide +kernel
theorem dX1_variation_9 : decode cX1_variation 9 = .ok (.sipush 1800, 3) := by decide +kernel
theorem dX1_variation_12 : decode cX1_variation 12 = .ok (.if_icmp .gt 18, 3) := by decide +kernel
theorem dX1_variation_15 : decode cX1_variation 15 = .ok (.aload_n 0, 1) := by decide +kernel
theorem dX1_variation_16 : decode cX1_variation 16 = .ok (.iload_n 2, 1) := by decide +kernel
theorem dX1_variation_17 : decode cX1_variation 17 = .ok (.iload_n 1, 1) := by decide +kernel
theorem dX1_variation_18 : decode cX1_variation 18 = .ok (.iconst 1, 1) := by decide +kernel
theorem dX1_variation_19 : decode cX1_variation 19 = .ok (.iadd, 1) := by decide +kernel
theorem dX1_variation_20 : decode cX1_variation 20 = .ok (.bipush 69, 2) := by decide +kernel
theorem dX1_variation_22 : decode cX1_variation 22 = .ok (.bipush 87, 2) := by decide +kernel
theorem dX1_variation_24 : decode cX1_variation 24 = .ok (.invokevirtual 87, 3) := by decide +kernel
theorem dX1_variation_27 : decode cX1_variation 27 = .ok (.goto 7, 3) := by decide +kernel
theorem dX1_variation_30 : decode cX1_variation 30 = .ok (.aload_n 0, 1) := by decide +kernel
theorem dX1_variation_31 : decode cX1_variation 31 = .ok (.invokevirtual 66, 3) := by decide +kernel
theorem dX1_variation_34 : decode cX1_variation 34 = .ok (.ireturn, 1) := by decide +kernel
theorem dX1_time_0 : decode cX1_time 0 = .ok (.aload_n 0, 1) := by decide +kernel
theorem dX1_time_1 : decode cX1_time 1 = .ok (.iload_n 1, 1) := by decide +kernel
theorem dX1_time_2 : decode cX1_time 2 = .ok (.invokevirtual 70, 3) := by decide +kernel
theorem dX1_time_5 : decode cX1_time 5 = .ok (.ifCond .eq 8, 3) := by decide +kernel
theorem dX1_time_8 : decode cX1_time 8 = .ok (.ldc 62, 2) := by decide +kernel
theorem dX1_time_10 : decode cX1_time 10 = .ok (.goto 23, 3) := by decide +kernel
theorem dX1_time_13 : decode cX1_time 13 = .ok (.aload_n 0, 1) := by decide +kernel
theorem dX1_time_14 : decode cX1_time 14 = .ok (.aload_n 0, 1) := by decide +kernel
theorem dX1_time_15 : decode cX1_time 15 = .ok (.iload_n 1, 1) := by decide +kernel
theorem dX1_time_16 : decode cX1_time 16 = .ok (.invokevirtual 59, 3) := by decide +kernel
theorem dX1_time_19 : decode cX1_time 19 = .ok (.aload_n 0, 1) := by decide +kernel
theorem dX1_time_20 : decode cX1_time 20 = .ok (.iload_n 1, 1) := by decide +kernel
theorem dX1_time_21 : decode cX1_time 21 = .ok (.invokevirtual 36, 3) := by decide +kernel
theorem dX1_time_24 : decode cX1_time 24 = .ok (.bipush 6, 2) := by decide +kernel
theorem dX1_time_26 : decode cX1_time 26 = .ok (.bipush 6, 2) := by decide +kernel
theorem dX1_time_28 : decode cX1_time 28 = .ok (.iconst 3, 1) := by decide +kernel
theorem dX1_time_29 : decode cX1_time 29 = .ok (.iconst 3, 1) := by decide +kernel
theorem dX1_time_30 : decode cX1_time 30 = .ok (.invokevirtual 78, 3) := by decide +kernel
theorem dX1_time_33 : decode cX1_time 33 = .ok (.istore_n 2, 1) := by decide +kernel
theorem dX1_time_34 : decode cX1_time 34 = .ok (.iload_n 2, 1) := by decide +kernel
theorem dX1_time_35 : decode cX1_time 35 = .ok (.ldc 62, 2) := by decide +kernel
theorem dX1_time_37 : decode cX1_time 37 = .ok (.if_icmp .ne 6, 3) := by decide +kernel
theorem dX1_time_40 : decode cX1_time 40 = .ok (.ldc 62, 2) := by decide +kernel
theorem dX1_time_42 : decode cX1_time 42 = .ok (.ireturn, 1) := by decide +kernel
theorem dX1_time_43 : decode cX1_time 43 = .ok (.iload_n 2, 1) := by decide +kernel
theorem dX1_time_44 : decode cX1_time 44 = .ok (.ldc 91, 2) := by decide +kernel
theorem dX1_time_46 : decode cX1_time 46 = .ok (.idiv, 1) := by decide +kernel
theorem dX1_time_47 : decode cX1_time 47 = .ok (.istore_n 3, 1) := by decide +kernel
theorem dX1_time_48 : decode cX1_time 48 = .ok (.iload_n 2, 1) := by decide +kernel
theorem dX1_time_49 : decode cX1_time 49 = .ok (.ldc 92, 2) := by decide +kernel
theorem dX1_time_51 : decode cX1_time 51 = .ok (.idiv, 1) := by decide +kernel
theorem dX1_time_52 : decode cX1_time 52 = .ok (.bipush 100, 2) := by decide +kernel
theorem dX1_time_54 : decode cX1_time 54 = .ok (.irem, 1) := by decide +kernel
theorem dX1_time_55 : decode cX1_time 55 = .ok (.istore 4, 2) := by decide +kernel
theorem dX1_time_57 : decode cX1_time 57 = .ok (.iload_n 2, 1) := by decide +kernel
theorem dX1_time_58 : decode cX1_time 58 = .ok (.ldc 92, 2) := by decide +kernel
theorem dX1_time_60 : decode cX1_time 60 = .ok (.irem, 1) := by decide +kernel
theorem dX1_time_61 : decode cX1_time 61 = .ok (.istore 5, 2) := by decide +kernel
theorem dX1_time_63 : decode cX1_time 63 = .ok (.iload_n 3, 1) := by decide +kernel
theorem dX1_time_64 : decode cX1_time 64 = .ok (.bipush 23, 2) := by decide +kernel
theorem dX1_time_66 : decode cX1_time 66 = .ok (.if_icmp .gt 17, 3) := by decide +kernel
theorem dX1_time_69 : decode cX1_time 69 = .ok (.iload 4, 2) := by decide +kernel
theorem dX1_time_71 : decode cX1_time 71 = .ok (.bipush 59, 2) := by decide +kernel
theorem dX1_time_73 : decode cX1_time 73 = .ok (.if_icmp .gt 10, 3) := by decide +kernel
theorem dX1_time_76 : decode cX1_time 76 = .ok (.iload 5, 2) := by decide +kernel
theorem dX1_time_78 : decode cX1_time 78 = .ok (.ldc 93, 2) := by decide +kernel
theorem dX1_time_80 : decode cX1_time 80 = .ok (.if_icmp .le 8, 3) := by decide +kernel
theorem dX1_time_83 : decode cX1_time 83 = .ok (.aload_n 0, 1) := by decide +kernel
theorem dX1_time_84 : decode cX1_time 84 = .ok (.invokevirtual 66, 3) := by decide +kernel
theorem dX1_time_87 : decode cX1_time 87 = .ok (.ireturn, 1) := by decide +kernel
theorem dX1_time_88 : decode cX1_time 88 = .ok (.iload_n 3, 1) := by decide +kernel
theorem dX1_time_89 : decode cX1_time 89 = .ok (.bipush 60, 2) := by decide +kernel
theorem dX1_time_91 : decode cX1_time 91 = .ok (.imul, 1) := by decide +kernel
theorem dX1_time_92 : decode cX1_time 92 = .ok (.iload 4, 2) := by decide +kernel
theorem dX1_time_94 : decode cX1_time 94 = .ok (.iadd, 1) := by decide +kernel
theorem dX1_time_95 : decode cX1_time 95 = .ok (.ldc 94, 2) := by decide +kernel
theorem dX1_time_97 : decode cX1_time 97 = .ok (.imul, 1) := by decide +kernel
theorem dX1_time_98 : decode cX1_time 98 = .ok (.iload 5, 2) := by decide +kernel
theorem dX1_time_100 : decode cX1_time 100 = .ok (.iadd, 1) := by decide +kernel
theorem dX1_time_101 : decode cX1_time 101 = .ok (.ireturn, 1) := by decide +kernel
theorem dX1_date_0 : decode cX1_date 0 = .ok (.aload_n 0, 1) := by decide +kernel
theorem dX1_date_1 : decode cX1_date 1 = .ok (.iload_n 1, 1) := by decide +kernel
theorem dX1_date_2 : decode cX1_date 2 = .ok (.bipush 6, 2) := by decide +kernel
theorem dX1_date_4 : decode cX1_date 4 = .ok (.bipush 6, 2) := by decide +kernel
theorem dX1_date_6 : decode cX1_date 6 = .ok (.invokevirtual 95, 3) := by decide +kernel
theorem dX1_date_9 : decode cX1_date 9 = .ok (.istore_n 2, 1) := by decide +kernel
theorem dX1_date_10 : decode cX1_date 10 = .ok (.iload_n 2, 1) := by decide +kernel
theorem dX1_date_11 : decode cX1_date 11 = .ok (.ldc 62, 2) := by decide +kernel
theorem dX1_date_13 : decode cX1_date 13 = .ok (.if_icmp .ne 6, 3) := by decide +kernel
theorem dX1_date_16 : decode cX1_date 16 = .ok (.ldc 62, 2) := by decide +kernel
theorem dX1_date_18 : decode cX1_date 18 = .ok (.ireturn, 1) := by decide +kernel
theorem dX1_date_19 : decode cX1_date 19 = .ok (.iload_n 2, 1) := by decide +kernel
theorem dX1_date_20 : decode cX1_date 20 = .ok (.sipush 10000, 3) := by decide +kernel
theorem dX1_date_23 : decode cX1_date 23 = .ok (.idiv, 1) := by decide +kernel
theorem dX1_date_24 : decode cX1_date 24 = .ok (.istore_n 3, 1) := by decide +kernel
theorem dX1_date_25 : decode cX1_date 25 = .ok (.iload_n 2, 1) := by decide +kernel
theorem dX1_date_26 : decode cX1_date 26 = .ok (.bipush 100, 2) := by decide +kernel
theorem dX1_date_28 : decode cX1_date 28 = .ok (.idiv, 1) := by decide +kernel
theorem dX1_date_29 : decode cX1_date 29 = .ok (.bipush 100, 2) := by decide +kernel
theorem dX1_date_31 : decode cX1_date 31 = .ok (.irem, 1) := by decide +kernel
theorem dX1_date_32 : decode cX1_date 32 = .ok (.istore 4, 2) := by decide +kernel
theorem dX1_date_34 : decode cX1_date 34 = .ok (.iload_n 2, 1) := by decide +kernel
theorem dX1_date_35 : decode cX1_date 35 = .ok (.bipush 100, 2) := by decide +kernel
theorem dX1_date_37 : decode cX1_date 37 = .ok (.irem, 1) := by decide +kernel
theorem dX1_date_38 : decode cX1_date 38 = .ok (.istore 5, 2) := by decide +kernel
theorem dX1_date_40 : decode cX1_date 40 = .ok (.iload_n 3, 1) := by decide +kernel
theorem dX1_date_41 : decode cX1_date 41 = .ok (.iconst 1, 1) := by decide +kernel
theorem dX1_date_42 : decode cX1_date 42 = .ok (.if_icmp .lt 22, 3) := by decide +kernel
theorem dX1_date_45 : decode cX1_date 45 = .ok (.iload_n 3, 1) := by decide +kernel
theorem dX1_date_46 : decode cX1_date 46 = .ok (.bipush 31, 2) := by decide +kernel
theorem dX1_date_48 : decode cX1_date 48 = .ok (.if_icmp .gt 16, 3) := by decide +kernel
theorem dX1_date_51 : decode cX1_date 51 = .ok (.iload 4, 2) := by decide +kernel
theorem dX1_date_53 : decode cX1_date 53 = .ok (.iconst 1, 1) := by decide +kernel
theorem dX1_date_54 : decode cX1_date 54 = .ok (.if_icmp .lt 10, 3) := by decide +kernel
theorem dX1_date_57 : decode cX1_date 57 = .ok (.iload 4, 2) := by decide +kernel
theorem dX1_date_59 : decode cX1_date 59 = .ok (.bipush 12, 2) := by decide +kernel
theorem dX1_date_61 : decode cX1_date 61 = .ok (.if_icmp .le 8, 3) := by decide +kernel
theorem dX1_date_64 : decode cX1_date 64 = .ok (.aload_n 0, 1) := by decide +kernel
theorem dX1_date_65 : decode cX1_date 65 = .ok (.invokevirtual 66, 3) := by decide +kernel
theorem dX1_date_68 : decode cX1_date 68 = .ok (.ireturn, 1) := by decide +kernel
theorem dX1_date_69 : decode cX1_date 69 = .ok (.iload_n 3, 1) := by decide +kernel
theorem dX1_date_70 : decode cX1_date 70 = .ok (.bipush 100, 2) := by decide +kernel
theorem dX1_date_72 : decode cX1_date 72 = .ok (.iload 4, 2) := by decide +kernel
theorem dX1_date_74 : decode cX1_date 74 = .ok (.imul, 1) := by decide +kernel
theorem dX1_date_75 : decode cX1_date 75 = .ok (.iadd, 1) := by decide +kernel
theorem dX1_date_76 : decode cX1_date 76 = .ok (.sipush 10000, 3) := by decide +kernel
theorem dX1_date_79 : decode cX1_date 79 = .ok (.iload 5, 2) := by decide +kernel
theorem dX1_date_81 : decode cX1_date 81 = .ok (.imul, 1) := by decide +kernel
theorem dX1_date_82 : decode cX1_date 82 = .ok (.iadd, 1) := by decide +kernel
theorem dX1_date_83 : decode cX1_date 83 = .ok (.ireturn, 1) := by decide +kernel
theorem dX1_latitude_0 : decode cX1_latitude 0 = .ok (.aload_n 0, 1) := by decide +kernel
theorem dX1_latitude_1 : decode cX1_latitude 1 = .ok (.aload_n 0, 1) := by decide +kernel
theorem dX1_latitude_2 : decode cX1_latitude 2 = .ok (.iload_n 1, 1) := by decide +kernel
theorem dX1_latitude_3 : decode cX1_latitude 3 = .ok (.iconst 4, 1) := by decide +kernel
theorem dX1_latitude_4 : decode cX1_latitude 4 = .ok (.ldc 98, 2) := by decide +kernel
theorem dX1_latitude_6 : decode cX1_latitude 6 = .ok (.invokevirtual 99, 3) := by decide +kernel
theorem dX1_latitude_9 : decode cX1_latitude 9 = .ok (.iload_n 1, 1) := by decide +kernel
theorem dX1_latitude_10 : decode cX1_latitude 10 = .ok (.iconst 1, 1) := by decide +kernel
theorem dX1_latitude_11 : decode cX1_latitude 11 = .ok (.iadd, 1) := by decide +kernel
theorem dX1_latitude_12 : decode cX1_latitude 12 = .ok (.bipush 78, 2) := by decide +kernel
theorem dX1_latitude_14 : decode cX1_latitude 14 = .ok (.bipush 83, 2) := by decide +kernel
theorem dX1_latitude_16 : decode cX1_latitude 16 = .ok (.invokevirtual 87, 3) := by decide +kernel
theorem dX1_latitude_19 : decode cX1_latitude 19 = .ok (.ireturn, 1) := by decide +kernel
theorem dX1_longitude_0 : decode cX1_longitude 0 = .ok (.aload_n 0, 1) := by decide +kernel
theorem dX1_longitude_1 : decode cX1_longitude 1 = .ok (.aload_n 0, 1) := by decide +kernel
theorem dX1_longitude_2 : decode cX1_longitude 2 = .ok (.iload_n 1, 1) := by decide +kernel
theorem dX1_longitude_3 : decode cX1_longitude 3 = .ok (.iconst 5, 1) := by decide +kernel
theorem dX1_longitude_4 : decode cX1_longitude 4 = .ok (.ldc 102, 2) := by decide +kernel
theorem dX1_longitude_6 : decode cX1_longitude 6 = .ok (.invokevirtual 99, 3) := by decide +kernel
theorem dX1_longitude_9 : decode cX1_longitude 9 = .ok (.iload_n 1, 1) := by decide +kernel
theorem dX1_longitude_10 : decode cX1_longitude 10 = .ok (.iconst 1, 1) := by decide +kernel
theorem dX1_longitude_11 : decode cX1_longitude 11 = .ok (.iadd, 1) := by decide +kernel
theorem dX1_longitude_12 : decode cX1_longitude 12 = .ok (.bipush 69, 2) := by decide +kernel
theorem dX1_longitude_14 : decode cX1_longitude 14 = .ok (.bipush 87, 2) := by decide +kernel
theorem dX1_longitude_16 : decode cX1_longitude 16 = .ok (.invokevirtual 87, 3) := by decide +kernel
theorem dX1_longitude_19 : decode cX1_longitude 19 = .ok (.ireturn, 1) := by decide +kernel
theorem dX1_angle_0 : decode cX1_angle 0 = .ok (.aload_n 0, 1) := by decide +kernel
theorem dX1_angle_1 : decode cX1_angle 1 = .ok (.iload_n 1, 1) := by decide +kernel
theorem dX1_angle_2 : decode cX1_angle 2 = .ok (.invokevirtual 70, 3) := by decide +kernel
theorem dX1_angle_5 : decode cX1_angle 5 = .ok (.ifCond .eq 8, 3) := by decide +kernel
theorem dX1_angle_8 : decode cX1_angle 8 = .ok (.ldc 62, 2) := by decide +kernel
theorem dX1_angle_10 : decode cX1_angle 10 = .ok (.goto 22, 3) := by decide +kernel
theorem dX1_angle_13 : decode cX1_angle 13 = .ok (.aload_n 0, 1) := by decide +kernel
theorem dX1_angle_14 : decode cX1_angle 14 = .ok (.aload_n 0, 1) := by decide +kernel
theorem dX1_angle_15 : decode cX1_angle 15 = .ok (.iload_n 1, 1) := by decide +kernel
theorem dX1_angle_16 : decode cX1_angle 16 = .ok (.invokevirtual 59, 3) := by decide +kernel
theorem dX1_angle_19 : decode cX1_angle 19 = .ok (.aload_n 0, 1) := by decide +kernel
theorem dX1_angle_20 : decode cX1_angle 20 = .ok (.iload_n 1, 1) := by decide +kernel
theorem dX1_angle_21 : decode cX1_angle 21 = .ok (.invokevirtual 36, 3) := by decide +kernel
theorem dX1_angle_24 : decode cX1_angle 24 = .ok (.iload_n 2, 1) := by decide +kernel
theorem dX1_angle_25 : decode cX1_angle 25 = .ok (.iload_n 2, 1) := by decide +kernel
theorem dX1_angle_26 : decode cX1_angle 26 = .ok (.bipush 6, 2) := by decide +kernel
theorem dX1_angle_28 : decode cX1_angle 28 = .ok (.iconst 4, 1) := by decide +kernel
theorem dX1_angle_29 : decode cX1_angle 29 = .ok (.invokevirtual 78, 3) := by decide +kernel
theorem dX1_angle_32 : decode cX1_angle 32 = .ok (.istore 4, 2) := by decide +kernel
theorem dX1_angle_34 : decode cX1_angle 34 = .ok (.iload 4, 2) := by decide +kernel
theorem dX1_angle_36 : decode cX1_angle 36 = .ok (.ldc 62, 2) := by decide +kernel
theorem dX1_angle_38 : decode cX1_angle 38 = .ok (.if_icmp .ne 6, 3) := by decide +kernel
theorem dX1_angle_41 : decode cX1_angle 41 = .ok (.ldc 62, 2) := by decide +kernel
theorem dX1_angle_43 : decode cX1_angle 43 = .ok (.ireturn, 1) := by decide +kernel
theorem dX1_angle_44 : decode cX1_angle 44 = .ok (.iload 4, 2) := by decide +kernel
theorem dX1_angle_46 : decode cX1_angle 46 = .ok (.ldc 103, 2) := by decide +kernel
theorem dX1_angle_48 : decode cX1_angle 48 = .ok (.irem, 1) := by decide +kernel
theorem dX1_angle_49 : decode cX1_angle 49 = .ok (.istore 5, 2) := by decide +kernel
theorem dX1_angle_51 : decode cX1_angle 51 = .ok (.iload 4, 2) := by decide +kernel
theorem dX1_angle_53 : decode cX1_angle 53 = .ok (.ldc 103, 2) := by decide +kernel
theorem dX1_angle_55 : decode cX1_angle 55 = .ok (.idiv, 1) := by decide +kernel
theorem dX1_angle_56 : decode cX1_angle 56 = .ok (.ldc 104, 2) := by decide +kernel
theorem dX1_angle_58 : decode cX1_angle 58 = .ok (.imul, 1) := by decide +kernel
theorem dX1_angle_59 : decode cX1_angle 59 = .ok (.iload 5, 2) := by decide +kernel
theorem dX1_angle_61 : decode cX1_angle 61 = .ok (.iadd, 1) := by decide +kernel
theorem dX1_angle_62 : decode cX1_angle 62 = .ok (.istore 6, 2) := by decide +kernel
theorem dX1_angle_64 : decode cX1_angle 64 = .ok (.iload 5, 2) := by decide +kernel
theorem dX1_angle_66 : decode cX1_angle 66 = .ok (.ldc 104, 2) := by decide +kernel
theorem dX1_angle_68 : decode cX1_angle 68 = .ok (.if_icmp .ge 14, 3) := by decide +kernel
theorem dX1_angle_71 : decode cX1_angle 71 = .ok (.iload 6, 2) := by decide +kernel
theorem dX1_angle_73 : decode cX1_angle 73 = .ok (.iload_n 3, 1) := by decide +kernel
theorem dX1_angle_74 : decode cX1_angle 74 = .ok (.if_icmp .gt 8, 3) := by decide +kernel
theorem dX1_angle_77 : decode cX1_angle 77 = .ok (.iload 6, 2) := by decide +kernel
theorem dX1_angle_79 : decode cX1_angle 79 = .ok (.goto 7, 3) := by decide +kernel
theorem dX1_angle_82 : decode cX1_angle 82 = .ok (.aload_n 0, 1) := by decide +kernel
theorem dX1_angle_83 : decode cX1_angle 83 = .ok (.invokevirtual 66, 3) := by decide +kernel
theorem dX1_angle_86 : decode cX1_angle 86 = .ok (.ireturn, 1) := by decide +kernel
theorem dX1_onSide_0 : decode cX1_onSide 0 = .ok (.iload_n 1, 1) := by decide +kernel
theorem dX1_onSide_1 : decode cX1_onSide 1 = .ok (.ldc 62, 2) := by decide +kernel
theorem dX1_onSide_3 : decode cX1_onSide 3 = .ok (.if_icmp .ne 21, 3) := by decide +kernel
theorem dX1_onSide_6 : decode cX1_onSide 6 = .ok (.aload_n 0, 1) := by decide +kernel
theorem dX1_onSide_7 : decode cX1_onSide 7 = .ok (.iload_n 2, 1) := by decide +kernel
theorem dX1_onSide_8 : decode cX1_onSide 8 = .ok (.invokevirtual 70, 3) := by decide +kernel
theorem dX1_onSide_11 : decode cX1_onSide 11 = .ok (.ifCond .eq 8, 3) := by decide +kernel
theorem dX1_onSide_14 : decode cX1_onSide 14 = .ok (.ldc 62, 2) := by decide +kernel
theorem dX1_onSide_16 : decode cX1_onSide 16 = .ok (.goto 7, 3) := by decide +kernel
theorem dX1_onSide_19 : decode cX1_onSide 19 = .ok (.aload_n 0, 1) := by decide +kernel
theorem dX1_onSide_20 : decode cX1_onSide 20 = .ok (.invokevirtual 66, 3) := by decide +kernel
theorem dX1_onSide_23 : decode cX1_onSide 23 = .ok (.ireturn, 1) := by decide +kernel
theorem dX1_onSide_24 : decode cX1_onSide 24 = .ok (.aload_n 0, 1) := by decide +kernel
theorem dX1_onSide_25 : decode cX1_onSide 25 = .ok (.iload_n 2, 1) := by decide +kernel
theorem dX1_onSide_26 : decode cX1_onSide 26 = .ok (.invokevirtual 36, 3) := by decide +kernel
theorem dX1_onSide_29 : decode cX1_onSide 29 = .ok (.aload_n 0, 1) := by decide +kernel
theorem dX1_onSide_30 : decode cX1_onSide 30 = .ok (.iload_n 2, 1) := by decide +kernel
theorem dX1_onSide_31 : decode cX1_onSide 31 = .ok (.invokevirtual 59, 3) := by decide +kernel
theorem dX1_onSide_34 : decode cX1_onSide 34 = .ok (.isub, 1) := by decide +kernel
theorem dX1_onSide_35 : decode cX1_onSide 35 = .ok (.iconst 1, 1) := by decide +kernel
theorem dX1_onSide_36 : decode cX1_onSide 36 = .ok (.if_icmp .ne 15, 3) := by decide +kernel
theorem dX1_onSide_39 : decode cX1_onSide 39 = .ok (.aload_n 0, 1) := by decide +kernel
theorem dX1_onSide_40 : decode cX1_onSide 40 = .ok (.aload_n 0, 1) := by decide +kernel
theorem dX1_onSide_41 : decode cX1_onSide 41 = .ok (.iload_n 2, 1) := by decide +kernel
theorem dX1_onSide_42 : decode cX1_onSide 42 = .ok (.invokevirtual 59, 3) := by decide +kernel
theorem dX1_onSide_45 : decode cX1_onSide 45 = .ok (.invokevirtual 74, 3) := by decide +kernel
theorem dX1_onSide_48 : decode cX1_onSide 48 = .ok (.goto 5, 3) := by decide +kernel
theorem dX1_onSide_51 : decode cX1_onSide 51 = .ok (.ldc 62, 2) := by decide +kernel
theorem dX1_onSide_53 : decode cX1_onSide 53 = .ok (.istore 5, 2) := by decide +kernel
theorem dX1_onSide_55 : decode cX1_onSide 55 = .ok (.iload 5, 2) := by decide +kernel
theorem dX1_onSide_57 : decode cX1_onSide 57 = .ok (.iload_n 3, 1) := by decide +kernel
theorem dX1_onSide_58 : decode cX1_onSide 58 = .ok (.if_icmp .ne 5, 3) := by decide +kernel
theorem dX1_onSide_61 : decode cX1_onSide 61 = .ok (.iload_n 1, 1) := by decide +kernel
theorem dX1_onSide_62 : decode cX1_onSide 62 = .ok (.ireturn, 1) := by decide +kernel
theorem dX1_onSide_63 : decode cX1_onSide 63 = .ok (.iload 5, 2) := by decide +kernel
theorem dX1_onSide_65 : decode cX1_onSide 65 = .ok (.iload 4, 2) := by decide +kernel
theorem dX1_onSide_67 : decode cX1_onSide 67 = .ok (.if_icmp .ne 8, 3) := by decide +kernel
theorem dX1_onSide_70 : decode cX1_onSide 70 = .ok (.iload_n 1, 1) := by decide +kernel
theorem dX1_onSide_71 : decode cX1_onSide 71 = .ok (.ineg, 1) := by decide +kernel
theorem dX1_onSide_72 : decode cX1_onSide 72 = .ok (.goto 7, 3) := by decide +kernel
theorem dX1_onSide_75 : decode cX1_onSide 75 = .ok (.aload_n 0, 1) := by decide +kernel
theorem dX1_onSide_76 : decode cX1_onSide 76 = .ok (.invokevirtual 66, 3) := by decide +kernel
theorem dX1_onSide_79 : decode cX1_onSide 79 = .ok (.ireturn, 1) := by decide +kernel
theorem dX1_checkUnit_0 : decode cX1_checkUnit 0 = .ok (.aload_n 0, 1) := by decide +kernel
theorem dX1_checkUnit_1 : decode cX1_checkUnit 1 = .ok (.iload_n 1, 1) := by decide +kernel
theorem dX1_checkUnit_2 : decode cX1_checkUnit 2 = .ok (.invokevirtual 70, 3) := by decide +kernel
theorem dX1_checkUnit_5 : decode cX1_checkUnit 5 = .ok (.ifCond .eq 13, 3) := by decide +kernel
theorem dX1_checkUnit_8 : decode cX1_checkUnit 8 = .ok (.aload_n 0, 1) := by decide +kernel
theorem dX1_checkUnit_9 : decode cX1_checkUnit 9 = .ok (.iload_n 1, 1) := by decide +kernel
theorem dX1_checkUnit_10 : decode cX1_checkUnit 10 = .ok (.iconst 1, 1) := by decide +kernel
theorem dX1_checkUnit_11 : decode cX1_checkUnit 11 = .ok (.isub, 1) := by decide +kernel
theorem dX1_checkUnit_12 : decode cX1_checkUnit 12 = .ok (.invokevirtual 70, 3) := by decide +kernel
theorem dX1_checkUnit_15 : decode cX1_checkUnit 15 = .ok (.goto 36, 3) := by decide +kernel
theorem dX1_checkUnit_18 : decode cX1_checkUnit 18 = .ok (.aload_n 0, 1) := by decide +kernel
theorem dX1_checkUnit_19 : decode cX1_checkUnit 19 = .ok (.iload_n 1, 1) := by decide +kernel
theorem dX1_checkUnit_20 : decode cX1_checkUnit 20 = .ok (.invokevirtual 36, 3) := by decide +kernel
theorem dX1_checkUnit_23 : decode cX1_checkUnit 23 = .ok (.aload_n 0, 1) := by decide +kernel
theorem dX1_checkUnit_24 : decode cX1_checkUnit 24 = .ok (.iload_n 1, 1) := by decide +kernel
theorem dX1_checkUnit_25 : decode cX1_checkUnit 25 = .ok (.invokevirtual 59, 3) := by decide +kernel
theorem dX1_checkUnit_28 : decode cX1_checkUnit 28 = .ok (.isub, 1) := by decide +kernel
theorem dX1_checkUnit_29 : decode cX1_checkUnit 29 = .ok (.iconst 1, 1) := by decide +kernel
theorem dX1_checkUnit_30 : decode cX1_checkUnit 30 = .ok (.if_icmp .ne 20, 3) := by decide +kernel
theorem dX1_checkUnit_33 : decode cX1_checkUnit 33 = .ok (.aload_n 0, 1) := by decide +kernel
theorem dX1_checkUnit_34 : decode cX1_checkUnit 34 = .ok (.aload_n 0, 1) := by decide +kernel
theorem dX1_checkUnit_35 : decode cX1_checkUnit 35 = .ok (.iload_n 1, 1) := by decide +kernel
theorem dX1_checkUnit_36 : decode cX1_checkUnit 36 = .ok (.invokevirtual 59, 3) := by decide +kernel
theorem dX1_checkUnit_39 : decode cX1_checkUnit 39 = .ok (.invokevirtual 74, 3) := by decide +kernel
theorem dX1_checkUnit_42 : decode cX1_checkUnit 42 = .ok (.iload_n 2, 1) := by decide +kernel
theorem dX1_checkUnit_43 : decode cX1_checkUnit 43 = .ok (.if_icmp .ne 7, 3) := by decide +kernel
theorem dX1_checkUnit_46 : decode cX1_checkUnit 46 = .ok (.iconst 1, 1) := by decide +kernel
theorem dX1_checkUnit_47 : decode cX1_checkUnit 47 = .ok (.goto 4, 3) := by decide +kernel
theorem dX1_checkUnit_50 : decode cX1_checkUnit 50 = .ok (.iconst 0, 1) := by decide +kernel
theorem dX1_checkUnit_51 : decode cX1_checkUnit 51 = .ok (.istore_n 3, 1) := by decide +kernel
theorem dX1_checkUnit_52 : decode cX1_checkUnit 52 = .ok (.iload_n 3, 1) := by decide +kernel
theorem dX1_checkUnit_53 : decode cX1_checkUnit 53 = .ok (.ifCond .ne 8, 3) := by decide +kernel
theorem dX1_checkUnit_56 : decode cX1_checkUnit 56 = .ok (.aload_n 0, 1) := by decide +kernel
theorem dX1_checkUnit_57 : decode cX1_checkUnit 57 = .ok (.iconst 0, 1) := by decide +kernel
theorem dX1_checkUnit_58 : decode cX1_checkUnit 58 = .ok (.putfield 21, 3) := by decide +kernel
theorem dX1_checkUnit_61 : decode cX1_checkUnit 61 = .ok (.return_, 1) := by decide +kernel
theorem dX1_digits_0 : decode cX1_digits 0 = .ok (.iload_n 1, 1) := by decide +kernel
theorem dX1_digits_1 : decode cX1_digits 1 = .ok (.istore 7, 2) := by decide +kernel
theorem dX1_digits_3 : decode cX1_digits 3 = .ok (.iconst 0, 1) := by decide +kernel
theorem dX1_digits_4 : decode cX1_digits 4 = .ok (.istore 8, 2) := by decide +kernel
theorem dX1_digits_6 : decode cX1_digits 6 = .ok (.iload 7, 2) := by decide +kernel
theorem dX1_digits_8 : decode cX1_digits 8 = .ok (.iload_n 2, 1) := by decide +kernel
theorem dX1_digits_9 : decode cX1_digits 9 = .ok (.if_icmp .ge 41, 3) := by decide +kernel
theorem dX1_digits_12 : decode cX1_digits 12 = .ok (.iload 7, 2) := by decide +kernel
theorem dX1_digits_14 : decode cX1_digits 14 = .ok (.iload_n 1, 1) := by decide +kernel
theorem dX1_digits_15 : decode cX1_digits 15 = .ok (.isub, 1) := by decide +kernel
theorem dX1_digits_16 : decode cX1_digits 16 = .ok (.iload 4, 2) := by decide +kernel
theorem dX1_digits_18 : decode cX1_digits 18 = .ok (.if_icmp .ge 32, 3) := by decide +kernel
theorem dX1_digits_21 : decode cX1_digits 21 = .ok (.aload_n 0, 1) := by decide +kernel
theorem dX1_digits_22 : decode cX1_digits 22 = .ok (.iload 7, 2) := by decide +kernel
theorem dX1_digits_24 : decode cX1_digits 24 = .ok (.invokevirtual 63, 3) := by decide +kernel
theorem dX1_digits_27 : decode cX1_digits 27 = .ok (.ifCond .lt 23, 3) := by decide +kernel
theorem dX1_digits_30 : decode cX1_digits 30 = .ok (.iload 8, 2) := by decide +kernel
theorem dX1_digits_32 : decode cX1_digits 32 = .ok (.bipush 10, 2) := by decide +kernel
theorem dX1_digits_34 : decode cX1_digits 34 = .ok (.imul, 1) := by decide +kernel
theorem dX1_digits_35 : decode cX1_digits 35 = .ok (.aload_n 0, 1) := by decide +kernel
theorem dX1_digits_36 : decode cX1_digits 36 = .ok (.iload 7, 2) := by decide +kernel
theorem dX1_digits_38 : decode cX1_digits 38 = .ok (.invokevirtual 63, 3) := by decide +kernel
theorem dX1_digits_41 : decode cX1_digits 41 = .ok (.iadd, 1) := by decide +kernel
theorem dX1_digits_42 : decode cX1_digits 42 = .ok (.istore 8, 2) := by decide +kernel
theorem dX1_digits_44 : decode cX1_digits 44 = .ok (.iinc 7 1, 3) := by decide +kernel
theorem dX1_digits_47 : decode cX1_digits 47 = .ok (.goto (-41), 3) := by decide +kernel
theorem dX1_digits_50 : decode cX1_digits 50 = .ok (.iload 7, 2) := by decide +kernel
theorem dX1_digits_52 : decode cX1_digits 52 = .ok (.iload_n 1, 1) := by decide +kernel
theorem dX1_digits_53 : decode cX1_digits 53 = .ok (.isub, 1) := by decide +kernel
theorem dX1_digits_54 : decode cX1_digits 54 = .ok (.iload_n 3, 1) := by decide +kernel
theorem dX1_digits_55 : decode cX1_digits 55 = .ok (.if_icmp .ge 8, 3) := by decide +kernel
theorem dX1_digits_58 : decode cX1_digits 58 = .ok (.aload_n 0, 1) := by decide +kernel
theorem dX1_digits_59 : decode cX1_digits 59 = .ok (.invokevirtual 66, 3) := by decide +kernel
theorem dX1_digits_62 : decode cX1_digits 62 = .ok (.ireturn, 1) := by decide +kernel
theorem dX1_digits_63 : decode cX1_digits 63 = .ok (.iload 6, 2) := by decide +kernel
theorem dX1_digits_65 : decode cX1_digits 65 = .ok (.istore 9, 2) := by decide +kernel
theorem dX1_digits_67 : decode cX1_digits 67 = .ok (.iload 7, 2) := by decide +kernel
theorem dX1_digits_69 : decode cX1_digits 69 = .ok (.iload_n 2, 1) := by decide +kernel
theorem dX1_digits_70 : decode cX1_digits 70 = .ok (.if_icmp .ge 94, 3) := by decide +kernel
theorem dX1_digits_73 : decode cX1_digits 73 = .ok (.iload 7, 2) := by decide +kernel
theorem dX1_digits_75 : decode cX1_digits 75 = .ok (.iconst 1, 1) := by decide +kernel
theorem dX1_digits_76 : decode cX1_digits 76 = .ok (.iadd, 1) := by decide +kernel
theorem dX1_digits_77 : decode cX1_digits 77 = .ok (.istore 10, 2) := by decide +kernel
theorem dX1_digits_79 : decode cX1_digits 79 = .ok (.aload_n 0, 1) := by decide +kernel
theorem dX1_digits_80 : decode cX1_digits 80 = .ok (.iload 7, 2) := by decide +kernel
theorem dX1_digits_82 : decode cX1_digits 82 = .ok (.invokevirtual 74, 3) := by decide +kernel
theorem dX1_digits_85 : decode cX1_digits 85 = .ok (.bipush 46, 2) := by decide +kernel
theorem dX1_digits_87 : decode cX1_digits 87 = .ok (.if_icmp .ne 20, 3) := by decide +kernel
theorem dX1_digits_90 : decode cX1_digits 90 = .ok (.iload_n 2, 1) := by decide +kernel
theorem dX1_digits_91 : decode cX1_digits 91 = .ok (.iload 10, 2) := by decide +kernel
theorem dX1_digits_93 : decode cX1_digits 93 = .ok (.isub, 1) := by decide +kernel
theorem dX1_digits_94 : decode cX1_digits 94 = .ok (.iconst 1, 1) := by decide +kernel
theorem dX1_digits_95 : decode cX1_digits 95 = .ok (.if_icmp .lt 12, 3) := by decide +kernel
theorem dX1_digits_98 : decode cX1_digits 98 = .ok (.iload_n 2, 1) := by decide +kernel
theorem dX1_digits_99 : decode cX1_digits 99 = .ok (.iload 10, 2) := by decide +kernel
theorem dX1_digits_101 : decode cX1_digits 101 = .ok (.isub, 1) := by decide +kernel
theorem dX1_digits_102 : decode cX1_digits 102 = .ok (.iload 5, 2) := by decide +kernel
theorem dX1_digits_104 : decode cX1_digits 104 = .ok (.if_icmp .le 8, 3) := by decide +kernel
theorem dX1_digits_107 : decode cX1_digits 107 = .ok (.aload_n 0, 1) := by decide +kernel
theorem dX1_digits_108 : decode cX1_digits 108 = .ok (.invokevirtual 66, 3) := by decide +kernel
theorem dX1_digits_111 : decode cX1_digits 111 = .ok (.ireturn, 1) := by decide +kernel
theorem dX1_digits_112 : decode cX1_digits 112 = .ok (.iload 10, 2) := by decide +kernel
theorem dX1_digits_114 : decode cX1_digits 114 = .ok (.istore 11, 2) := by decide +kernel
theorem dX1_digits_116 : decode cX1_digits 116 = .ok (.iload 11, 2) := by decide +kernel
theorem dX1_digits_118 : decode cX1_digits 118 = .ok (.iload_n 2, 1) := by decide +kernel
theorem dX1_digits_119 : decode cX1_digits 119 = .ok (.if_icmp .ge 45, 3) := by decide +kernel
theorem dX1_digits_122 : decode cX1_digits 122 = .ok (.aload_n 0, 1) := by decide +kernel
theorem dX1_digits_123 : decode cX1_digits 123 = .ok (.iload 11, 2) := by decide +kernel
theorem dX1_digits_125 : decode cX1_digits 125 = .ok (.invokevirtual 63, 3) := by decide +kernel
theorem dX1_digits_128 : decode cX1_digits 128 = .ok (.istore 12, 2) := by decide +kernel
theorem dX1_digits_130 : decode cX1_digits 130 = .ok (.iload 12, 2) := by decide +kernel
theorem dX1_digits_132 : decode cX1_digits 132 = .ok (.ifCond .ge 8, 3) := by decide +kernel
theorem dX1_digits_135 : decode cX1_digits 135 = .ok (.aload_n 0, 1) := by decide +kernel
theorem dX1_digits_136 : decode cX1_digits 136 = .ok (.invokevirtual 66, 3) := by decide +kernel
theorem dX1_digits_139 : decode cX1_digits 139 = .ok (.ireturn, 1) := by decide +kernel
theorem dX1_digits_140 : decode cX1_digits 140 = .ok (.iload 9, 2) := by decide +kernel
theorem dX1_digits_142 : decode cX1_digits 142 = .ok (.ifCond .le 16, 3) := by decide +kernel
theorem dX1_digits_145 : decode cX1_digits 145 = .ok (.iload 8, 2) := by decide +kernel
theorem dX1_digits_147 : decode cX1_digits 147 = .ok (.bipush 10, 2) := by decide +kernel
theorem dX1_digits_149 : decode cX1_digits 149 = .ok (.imul, 1) := by decide +kernel
theorem dX1_digits_150 : decode cX1_digits 150 = .ok (.iload 12, 2) := by decide +kernel
theorem dX1_digits_152 : decode cX1_digits 152 = .ok (.iadd, 1) := by decide +kernel
theorem dX1_digits_153 : decode cX1_digits 153 = .ok (.istore 8, 2) := by decide +kernel
theorem dX1_digits_155 : decode cX1_digits 155 = .ok (.iinc 9 (-1), 3) := by decide +kernel
theorem dX1_digits_158 : decode cX1_digits 158 = .ok (.iinc 11 1, 3) := by decide +kernel
theorem dX1_digits_161 : decode cX1_digits 161 = .ok (.goto (-45), 3) := by decide +kernel
theorem dX1_digits_164 : decode cX1_digits 164 = .ok (.iconst 0, 1) := by decide +kernel
theorem dX1_digits_165 : decode cX1_digits 165 = .ok (.istore 10, 2) := by decide +kernel
theorem dX1_digits_167 : decode cX1_digits 167 = .ok (.iload 10, 2) := by decide +kernel
theorem dX1_digits_169 : decode cX1_digits 169 = .ok (.iload 9, 2) := by decide +kernel
theorem dX1_digits_171 : decode cX1_digits 171 = .ok (.if_icmp .ge 16, 3) := by decide +kernel
theorem dX1_digits_174 : decode cX1_digits 174 = .ok (.iload 8, 2) := by decide +kernel
theorem dX1_digits_176 : decode cX1_digits 176 = .ok (.bipush 10, 2) := by decide +kernel
theorem dX1_digits_178 : decode cX1_digits 178 = .ok (.imul, 1) := by decide +kernel
theorem dX1_digits_179 : decode cX1_digits 179 = .ok (.istore 8, 2) := by decide +kernel
theorem dX1_digits_181 : decode cX1_digits 181 = .ok (.iinc 10 1, 3) := by decide +kernel
theorem dX1_digits_184 : decode cX1_digits 184 = .ok (.goto (-17), 3) := by decide +kernel
theorem dX1_digits_187 : decode cX1_digits 187 = .ok (.iload 8, 2) := by decide +kernel
theorem dX1_digits_189 : decode cX1_digits 189 = .ok (.ireturn, 1) := by decide +kernel
theorem dX1_digitAt_0 : decode cX1_digitAt 0 = .ok (.iload_n 1, 1) := by decide +kernel
theorem dX1_digitAt_1 : decode cX1_digitAt 1 = .ok (.ifCond .lt 38, 3) := by decide +kernel
theorem dX1_digitAt_4 : decode cX1_digitAt 4 = .ok (.iload_n 1, 1) := by decide +kernel
theorem dX1_digitAt_5 : decode cX1_digitAt 5 = .ok (.aload_n 0, 1) := by decide +kernel
theorem dX1_digitAt_6 : decode cX1_digitAt 6 = .ok (.getfield 11, 3) := by decide +kernel
theorem dX1_digitAt_9 : decode cX1_digitAt 9 = .ok (.arraylength, 1) := by decide +kernel
theorem dX1_digitAt_10 : decode cX1_digitAt 10 = .ok (.if_icmp .ge 29, 3) := by decide +kernel
theorem dX1_digitAt_13 : decode cX1_digitAt 13 = .ok (.aload_n 0, 1) := by decide +kernel
theorem dX1_digitAt_14 : decode cX1_digitAt 14 = .ok (.getfield 11, 3) := by decide +kernel
theorem dX1_digitAt_17 : decode cX1_digitAt 17 = .ok (.iload_n 1, 1) := by decide +kernel
theorem dX1_digitAt_18 : decode cX1_digitAt 18 = .ok (.baload, 1) := by decide +kernel
theorem dX1_digitAt_19 : decode cX1_digitAt 19 = .ok (.bipush 48, 2) := by decide +kernel
theorem dX1_digitAt_21 : decode cX1_digitAt 21 = .ok (.if_icmp .lt 18, 3) := by decide +kernel
theorem dX1_digitAt_24 : decode cX1_digitAt 24 = .ok (.aload_n 0, 1) := by decide +kernel
theorem dX1_digitAt_25 : decode cX1_digitAt 25 = .ok (.getfield 11, 3) := by decide +kernel
theorem dX1_digitAt_28 : decode cX1_digitAt 28 = .ok (.iload_n 1, 1) := by decide +kernel
theorem dX1_digitAt_29 : decode cX1_digitAt 29 = .ok (.baload, 1) := by decide +kernel
theorem dX1_digitAt_30 : decode cX1_digitAt 30 = .ok (.bipush 57, 2) := by decide +kernel
theorem dX1_digitAt_32 : decode cX1_digitAt 32 = .ok (.if_icmp .gt 7, 3) := by decide +kernel
theorem dX1_digitAt_35 : decode cX1_digitAt 35 = .ok (.iconst 1, 1) := by decide +kernel
theorem dX1_digitAt_36 : decode cX1_digitAt 36 = .ok (.goto 4, 3) := by decide +kernel
theorem dX1_digitAt_39 : decode cX1_digitAt 39 = .ok (.iconst 0, 1) := by decide +kernel
theorem dX1_digitAt_40 : decode cX1_digitAt 40 = .ok (.istore_n 2, 1) := by decide +kernel
theorem dX1_digitAt_41 : decode cX1_digitAt 41 = .ok (.iload_n 2, 1) := by decide +kernel
theorem dX1_digitAt_42 : decode cX1_digitAt 42 = .ok (.ifCond .eq 15, 3) := by decide +kernel
theorem dX1_digitAt_45 : decode cX1_digitAt 45 = .ok (.aload_n 0, 1) := by decide +kernel
theorem dX1_digitAt_46 : decode cX1_digitAt 46 = .ok (.getfield 11, 3) := by decide +kernel
theorem dX1_digitAt_49 : decode cX1_digitAt 49 = .ok (.iload_n 1, 1) := by decide +kernel
theorem dX1_digitAt_50 : decode cX1_digitAt 50 = .ok (.baload, 1) := by decide +kernel
theorem dX1_digitAt_51 : decode cX1_digitAt 51 = .ok (.bipush 48, 2) := by decide +kernel
theorem dX1_digitAt_53 : decode cX1_digitAt 53 = .ok (.isub, 1) := by decide +kernel
theorem dX1_digitAt_54 : decode cX1_digitAt 54 = .ok (.goto 4, 3) := by decide +kernel
theorem dX1_digitAt_57 : decode cX1_digitAt 57 = .ok (.iconst (-1), 1) := by decide +kernel
theorem dX1_digitAt_58 : decode cX1_digitAt 58 = .ok (.ireturn, 1) := by decide +kernel
theorem dX1_checkPack_0 : decode cX1_checkPack 0 = .ok (.aload_n 0, 1) := by decide +kernel
theorem dX1_checkPack_1 : decode cX1_checkPack 1 = .ok (.iload_n 1, 1) := by decide +kernel
theorem dX1_checkPack_2 : decode cX1_checkPack 2 = .ok (.invokevirtual 36, 3) := by decide +kernel
theorem dX1_checkPack_5 : decode cX1_checkPack 5 = .ok (.aload_n 0, 1) := by decide +kernel
theorem dX1_checkPack_6 : decode cX1_checkPack 6 = .ok (.iload_n 1, 1) := by decide +kernel
theorem dX1_checkPack_7 : decode cX1_checkPack 7 = .ok (.invokevirtual 59, 3) := by decide +kernel
theorem dX1_checkPack_10 : decode cX1_checkPack 10 = .ok (.isub, 1) := by decide +kernel
theorem dX1_checkPack_11 : decode cX1_checkPack 11 = .ok (.istore_n 2, 1) := by decide +kernel
theorem dX1_checkPack_12 : decode cX1_checkPack 12 = .ok (.iload_n 2, 1) := by decide +kernel
theorem dX1_checkPack_13 : decode cX1_checkPack 13 = .ok (.iconst 1, 1) := by decide +kernel
theorem dX1_checkPack_14 : decode cX1_checkPack 14 = .ok (.if_icmp .lt 9, 3) := by decide +kernel
theorem dX1_checkPack_17 : decode cX1_checkPack 17 = .ok (.iload_n 2, 1) := by decide +kernel
theorem dX1_checkPack_18 : decode cX1_checkPack 18 = .ok (.bipush 60, 2) := by decide +kernel
theorem dX1_checkPack_20 : decode cX1_checkPack 20 = .ok (.if_icmp .le 8, 3) := by decide +kernel
theorem dX1_checkPack_23 : decode cX1_checkPack 23 = .ok (.aload_n 0, 1) := by decide +kernel
theorem dX1_checkPack_24 : decode cX1_checkPack 24 = .ok (.iconst 0, 1) := by decide +kernel
theorem dX1_checkPack_25 : decode cX1_checkPack 25 = .ok (.putfield 21, 3) := by decide +kernel
theorem dX1_checkPack_28 : decode cX1_checkPack 28 = .ok (.aload_n 0, 1) := by decide +kernel
theorem dX1_checkPack_29 : decode cX1_checkPack 29 = .ok (.iload_n 1, 1) := by decide +kernel
theorem dX1_checkPack_30 : decode cX1_checkPack 30 = .ok (.invokevirtual 59, 3) := by decide +kernel
theorem dX1_checkPack_33 : decode cX1_checkPack 33 = .ok (.istore_n 3, 1) := by decide +kernel
theorem dX1_checkPack_34 : decode cX1_checkPack 34 = .ok (.iload_n 3, 1) := by decide +kernel
theorem dX1_checkPack_35 : decode cX1_checkPack 35 = .ok (.aload_n 0, 1) := by decide +kernel
theorem dX1_checkPack_36 : decode cX1_checkPack 36 = .ok (.iload_n 1, 1) := by decide +kernel
theorem dX1_checkPack_37 : decode cX1_checkPack 37 = .ok (.invokevirtual 36, 3) := by decide +kernel
theorem dX1_checkPack_40 : decode cX1_checkPack 40 = .ok (.if_icmp .ge 61, 3) := by decide +kernel
theorem dX1_checkPack_43 : decode cX1_checkPack 43 = .ok (.aload_n 0, 1) := by decide +kernel
theorem dX1_checkPack_44 : decode cX1_checkPack 44 = .ok (.iload_n 3, 1) := by decide +kernel
theorem dX1_checkPack_45 : decode cX1_checkPack 45 = .ok (.invokevirtual 74, 3) := by decide +kernel
theorem dX1_checkPack_48 : decode cX1_checkPack 48 = .ok (.istore 4, 2) := by decide +kernel
theorem dX1_checkPack_50 : decode cX1_checkPack 50 = .ok (.iload 4, 2) := by decide +kernel
theorem dX1_checkPack_52 : decode cX1_checkPack 52 = .ok (.bipush 48, 2) := by decide +kernel
theorem dX1_checkPack_54 : decode cX1_checkPack 54 = .ok (.if_icmp .lt 10, 3) := by decide +kernel
theorem dX1_checkPack_57 : decode cX1_checkPack 57 = .ok (.iload 4, 2) := by decide +kernel
theorem dX1_checkPack_59 : decode cX1_checkPack 59 = .ok (.bipush 87, 2) := by decide +kernel
theorem dX1_checkPack_61 : decode cX1_checkPack 61 = .ok (.if_icmp .le 17, 3) := by decide +kernel
theorem dX1_checkPack_64 : decode cX1_checkPack 64 = .ok (.iload 4, 2) := by decide +kernel
theorem dX1_checkPack_66 : decode cX1_checkPack 66 = .ok (.bipush 96, 2) := by decide +kernel
theorem dX1_checkPack_68 : decode cX1_checkPack 68 = .ok (.if_icmp .lt 14, 3) := by decide +kernel
theorem dX1_checkPack_71 : decode cX1_checkPack 71 = .ok (.iload 4, 2) := by decide +kernel
theorem dX1_checkPack_73 : decode cX1_checkPack 73 = .ok (.bipush 119, 2) := by decide +kernel
theorem dX1_checkPack_75 : decode cX1_checkPack 75 = .ok (.if_icmp .gt 7, 3) := by decide +kernel
theorem dX1_checkPack_78 : decode cX1_checkPack 78 = .ok (.iconst 1, 1) := by decide +kernel
theorem dX1_checkPack_79 : decode cX1_checkPack 79 = .ok (.goto 4, 3) := by decide +kernel
theorem dX1_checkPack_82 : decode cX1_checkPack 82 = .ok (.iconst 0, 1) := by decide +kernel
theorem dX1_checkPack_83 : decode cX1_checkPack 83 = .ok (.istore 5, 2) := by decide +kernel
theorem dX1_checkPack_85 : decode cX1_checkPack 85 = .ok (.iload 5, 2) := by decide +kernel
theorem dX1_checkPack_87 : decode cX1_checkPack 87 = .ok (.ifCond .ne 8, 3) := by decide +kernel
theorem dX1_checkPack_90 : decode cX1_checkPack 90 = .ok (.aload_n 0, 1) := by decide +kernel
theorem dX1_checkPack_91 : decode cX1_checkPack 91 = .ok (.iconst 0, 1) := by decide +kernel
theorem dX1_checkPack_92 : decode cX1_checkPack 92 = .ok (.putfield 21, 3) := by decide +kernel
theorem dX1_checkPack_95 : decode cX1_checkPack 95 = .ok (.iinc 3 1, 3) := by decide +kernel
theorem dX1_checkPack_98 : decode cX1_checkPack 98 = .ok (.goto (-64), 3) := by decide +kernel
theorem dX1_checkPack_101 : decode cX1_checkPack 101 = .ok (.return_, 1) := by decide +kernel
theorem dX1_unpack_0 : decode cX1_unpack 0 = .ok (.aload_n 0, 1) := by decide +kernel
theorem dX1_unpack_1 : decode cX1_unpack 1 = .ok (.iload_n 1, 1) := by decide +kernel
theorem dX1_unpack_2 : decode cX1_unpack 2 = .ok (.invokevirtual 36, 3) := by decide +kernel
theorem dX1_unpack_5 : decode cX1_unpack 5 = .ok (.iconst 1, 1) := by decide +kernel
theorem dX1_unpack_6 : decode cX1_unpack 6 = .ok (.isub, 1) := by decide +kernel
theorem dX1_unpack_7 : decode cX1_unpack 7 = .ok (.istore 4, 2) := by decide +kernel
theorem dX1_unpack_9 : decode cX1_unpack 9 = .ok (.aload_n 0, 1) := by decide +kernel
theorem dX1_unpack_10 : decode cX1_unpack 10 = .ok (.iload_n 1, 1) := by decide +kernel
theorem dX1_unpack_11 : decode cX1_unpack 11 = .ok (.invokevirtual 59, 3) := by decide +kernel
theorem dX1_unpack_14 : decode cX1_unpack 14 = .ok (.istore 5, 2) := by decide +kernel
theorem dX1_unpack_16 : decode cX1_unpack 16 = .ok (.iload 5, 2) := by decide +kernel
theorem dX1_unpack_18 : decode cX1_unpack 18 = .ok (.iload 4, 2) := by decide +kernel
theorem dX1_unpack_20 : decode cX1_unpack 20 = .ok (.if_icmp .gt 58, 3) := by decide +kernel
theorem dX1_unpack_23 : decode cX1_unpack 23 = .ok (.aload_n 0, 1) := by decide +kernel
theorem dX1_unpack_24 : decode cX1_unpack 24 = .ok (.iload 5, 2) := by decide +kernel
theorem dX1_unpack_26 : decode cX1_unpack 26 = .ok (.invokevirtual 74, 3) := by decide +kernel
theorem dX1_unpack_29 : decode cX1_unpack 29 = .ok (.bipush 48, 2) := by decide +kernel
theorem dX1_unpack_31 : decode cX1_unpack 31 = .ok (.isub, 1) := by decide +kernel
theorem dX1_unpack_32 : decode cX1_unpack 32 = .ok (.istore 6, 2) := by decide +kernel
theorem dX1_unpack_34 : decode cX1_unpack 34 = .ok (.iload 6, 2) := by decide +kernel
theorem dX1_unpack_36 : decode cX1_unpack 36 = .ok (.bipush 40, 2) := by decide +kernel
theorem dX1_unpack_38 : decode cX1_unpack 38 = .ok (.if_icmp .le 6, 3) := by decide +kernel
theorem dX1_unpack_41 : decode cX1_unpack 41 = .ok (.iinc 6 (-8), 3) := by decide +kernel
theorem dX1_unpack_44 : decode cX1_unpack 44 = .ok (.iload 5, 2) := by decide +kernel
theorem dX1_unpack_46 : decode cX1_unpack 46 = .ok (.iload 4, 2) := by decide +kernel
theorem dX1_unpack_48 : decode cX1_unpack 48 = .ok (.if_icmp .ne 7, 3) := by decide +kernel
theorem dX1_unpack_51 : decode cX1_unpack 51 = .ok (.iload_n 2, 1) := by decide +kernel
theorem dX1_unpack_52 : decode cX1_unpack 52 = .ok (.goto 4, 3) := by decide +kernel
theorem dX1_unpack_55 : decode cX1_unpack 55 = .ok (.iconst 0, 1) := by decide +kernel
theorem dX1_unpack_56 : decode cX1_unpack 56 = .ok (.istore 7, 2) := by decide +kernel
theorem dX1_unpack_58 : decode cX1_unpack 58 = .ok (.aload_n 3, 1) := by decide +kernel
theorem dX1_unpack_59 : decode cX1_unpack 59 = .ok (.iload 6, 2) := by decide +kernel
theorem dX1_unpack_61 : decode cX1_unpack 61 = .ok (.iload 7, 2) := by decide +kernel
theorem dX1_unpack_63 : decode cX1_unpack 63 = .ok (.ishr, 1) := by decide +kernel
theorem dX1_unpack_64 : decode cX1_unpack 64 = .ok (.bipush 6, 2) := by decide +kernel
theorem dX1_unpack_66 : decode cX1_unpack 66 = .ok (.iload 7, 2) := by decide +kernel
theorem dX1_unpack_68 : decode cX1_unpack 68 = .ok (.isub, 1) := by decide +kernel
theorem dX1_unpack_69 : decode cX1_unpack 69 = .ok (.invokevirtual 105, 3) := by decide +kernel
theorem dX1_unpack_72 : decode cX1_unpack 72 = .ok (.iinc 5 1, 3) := by decide +kernel
theorem dX1_unpack_75 : decode cX1_unpack 75 = .ok (.goto (-59), 3) := by decide +kernel
theorem dX1_unpack_78 : decode cX1_unpack 78 = .ok (.return_, 1) := by decide +kernel
theorem dX2_init_0 : decode cX2_init 0 = .ok (.aload_n 0, 1) := by decide +kernel
theorem dX2_init_1 : decode cX2_init 1 = .ok (.invokespecial 3, 3) := by decide +kernel
theorem dX2_init_4 : decode cX2_init 4 = .ok (.aload_n 0, 1) := by decide +kernel
theorem dX2_init_5 : decode cX2_init 5 = .ok (.bipush 40, 2) := by decide +kernel
theorem dX2_init_7 : decode cX2_init 7 = .ok (.anewarray 11, 3) := by decide +kernel
theorem dX2_init_10 : decode cX2_init 10 = .ok (.putfield 13, 3) := by decide +kernel
theorem dX2_init_13 : decode cX2_init 13 = .ok (.return_, 1) := by decide +kernel
theorem dX2_at_0 : decode cX2_at 0 = .ok (.iload_n 1, 1) := by decide +kernel
theorem dX2_at_1 : decode cX2_at 1 = .ok (.ifCond .lt 26, 3) := by decide +kernel
theorem dX2_at_4 : decode cX2_at 4 = .ok (.iload_n 1, 1) := by decide +kernel
theorem dX2_at_5 : decode cX2_at 5 = .ok (.aload_n 0, 1) := by decide +kernel
theorem dX2_at_6 : decode cX2_at 6 = .ok (.getfield 17, 3) := by decide +kernel
theorem dX2_at_9 : decode cX2_at 9 = .ok (.if_icmp .ge 18, 3) := by decide +kernel
theorem dX2_at_12 : decode cX2_at 12 = .ok (.iload_n 1, 1) := by decide +kernel
theorem dX2_at_13 : decode cX2_at 13 = .ok (.bipush 40, 2) := by decide +kernel
theorem dX2_at_15 : decode cX2_at 15 = .ok (.if_icmp .ge 12, 3) := by decide +kernel
theorem dX2_at_18 : decode cX2_at 18 = .ok (.aload_n 0, 1) := by decide +kernel
theorem dX2_at_19 : decode cX2_at 19 = .ok (.getfield 13, 3) := by decide +kernel
theorem dX2_at_22 : decode cX2_at 22 = .ok (.iload_n 1, 1) := by decide +kernel
theorem dX2_at_23 : decode cX2_at 23 = .ok (.aaload, 1) := by decide +kernel
theorem dX2_at_24 : decode cX2_at 24 = .ok (.goto 4, 3) := by decide +kernel
theorem dX2_at_27 : decode cX2_at 27 = .ok (.aconst_null, 1) := by decide +kernel
theorem dX2_at_28 : decode cX2_at 28 = .ok (.areturn, 1) := by decide +kernel
theorem dX2_numberOf_0 : decode cX2_numberOf 0 = .ok (.iconst 0, 1) := by decide +kernel
theorem dX2_numberOf_1 : decode cX2_numberOf 1 = .ok (.istore_n 2, 1) := by decide +kernel
theorem dX2_numberOf_2 : decode cX2_numberOf 2 = .ok (.iload_n 2, 1) := by decide +kernel
theorem dX2_numberOf_3 : decode cX2_numberOf 3 = .ok (.aload_n 0, 1) := by decide +kernel
theorem dX2_numberOf_4 : decode cX2_numberOf 4 = .ok (.getfield 17, 3) := by decide +kernel
theorem dX2_numberOf_7 : decode cX2_numberOf 7 = .ok (.if_icmp .ge 41, 3) := by decide +kernel
theorem dX2_numberOf_10 : decode cX2_numberOf 10 = .ok (.iload_n 2, 1) := by decide +kernel
theorem dX2_numberOf_11 : decode cX2_numberOf 11 = .ok (.bipush 40, 2) := by decide +kernel
theorem dX2_numberOf_13 : decode cX2_numberOf 13 = .ok (.if_icmp .ge 35, 3) := by decide +kernel
theorem dX2_numberOf_16 : decode cX2_numberOf 16 = .ok (.aload_n 0, 1) := by decide +kernel
theorem dX2_numberOf_17 : decode cX2_numberOf 17 = .ok (.getfield 13, 3) := by decide +kernel
theorem dX2_numberOf_20 : decode cX2_numberOf 20 = .ok (.iload_n 2, 1) := by decide +kernel
theorem dX2_numberOf_21 : decode cX2_numberOf 21 = .ok (.aaload, 1) := by decide +kernel
theorem dX2_numberOf_22 : decode cX2_numberOf 22 = .ok (.ifnull 20, 3) := by decide +kernel
theorem dX2_numberOf_25 : decode cX2_numberOf 25 = .ok (.aload_n 0, 1) := by decide +kernel
theorem dX2_numberOf_26 : decode cX2_numberOf 26 = .ok (.getfield 13, 3) := by decide +kernel
theorem dX2_numberOf_29 : decode cX2_numberOf 29 = .ok (.iload_n 2, 1) := by decide +kernel
theorem dX2_numberOf_30 : decode cX2_numberOf 30 = .ok (.aaload, 1) := by decide +kernel
theorem dX2_numberOf_31 : decode cX2_numberOf 31 = .ok (.getfield 21, 3) := by decide +kernel
theorem dX2_numberOf_34 : decode cX2_numberOf 34 = .ok (.iconst 0, 1) := by decide +kernel
theorem dX2_numberOf_35 : decode cX2_numberOf 35 = .ok (.iaload, 1) := by decide +kernel
theorem dX2_numberOf_36 : decode cX2_numberOf 36 = .ok (.iload_n 1, 1) := by decide +kernel
theorem dX2_numberOf_37 : decode cX2_numberOf 37 = .ok (.if_icmp .ne 5, 3) := by decide +kernel
theorem dX2_numberOf_40 : decode cX2_numberOf 40 = .ok (.iload_n 2, 1) := by decide +kernel
theorem dX2_numberOf_41 : decode cX2_numberOf 41 = .ok (.ireturn, 1) := by decide +kernel
theorem dX2_numberOf_42 : decode cX2_numberOf 42 = .ok (.iinc 2 1, 3) := by decide +kernel
theorem dX2_numberOf_45 : decode cX2_numberOf 45 = .ok (.goto (-43), 3) := by decide +kernel
theorem dX2_numberOf_48 : decode cX2_numberOf 48 = .ok (.ldc 25, 2) := by decide +kernel
theorem dX2_numberOf_50 : decode cX2_numberOf 50 = .ok (.ireturn, 1) := by decide +kernel
theorem dX2_vesselOf_0 : decode cX2_vesselOf 0 = .ok (.aload_n 0, 1) := by decide +kernel
theorem dX2_vesselOf_1 : decode cX2_vesselOf 1 = .ok (.iload_n 1, 1) := by decide +kernel
theorem dX2_vesselOf_2 : decode cX2_vesselOf 2 = .ok (.invokevirtual 26, 3) := by decide +kernel
theorem dX2_vesselOf_5 : decode cX2_vesselOf 5 = .ok (.istore_n 2, 1) := by decide +kernel
theorem dX2_vesselOf_6 : decode cX2_vesselOf 6 = .ok (.iload_n 2, 1) := by decide +kernel
theorem dX2_vesselOf_7 : decode cX2_vesselOf 7 = .ok (.ifCond .lt 16, 3) := by decide +kernel
theorem dX2_vesselOf_10 : decode cX2_vesselOf 10 = .ok (.iload_n 2, 1) := by decide +kernel
theorem dX2_vesselOf_11 : decode cX2_vesselOf 11 = .ok (.bipush 40, 2) := by decide +kernel
theorem dX2_vesselOf_13 : decode cX2_vesselOf 13 = .ok (.if_icmp .ge 10, 3) := by decide +kernel
theorem dX2_vesselOf_16 : decode cX2_vesselOf 16 = .ok (.aload_n 0, 1) := by decide +kernel
theorem dX2_vesselOf_17 : decode cX2_vesselOf 17 = .ok (.getfield 13, 3) := by decide +kernel
theorem dX2_vesselOf_20 : decode cX2_vesselOf 20 = .ok (.iload_n 2, 1) := by decide +kernel
theorem dX2_vesselOf_21 : decode cX2_vesselOf 21 = .ok (.aaload, 1) := by decide +kernel
theorem dX2_vesselOf_22 : decode cX2_vesselOf 22 = .ok (.areturn, 1) := by decide +kernel
theorem dX2_vesselOf_23 : decode cX2_vesselOf 23 = .ok (.aload_n 0, 1) := by decide +kernel
theorem dX2_vesselOf_24 : decode cX2_vesselOf 24 = .ok (.getfield 17, 3) := by decide +kernel
theorem dX2_vesselOf_27 : decode cX2_vesselOf 27 = .ok (.ifCond .lt 12, 3) := by decide +kernel
theorem dX2_vesselOf_30 : decode cX2_vesselOf 30 = .ok (.aload_n 0, 1) := by decide +kernel
theorem dX2_vesselOf_31 : decode cX2_vesselOf 31 = .ok (.getfield 17, 3) := by decide +kernel
theorem dX2_vesselOf_34 : decode cX2_vesselOf 34 = .ok (.bipush 40, 2) := by decide +kernel
theorem dX2_vesselOf_36 : decode cX2_vesselOf 36 = .ok (.if_icmp .lt 5, 3) := by decide +kernel
theorem dX2_vesselOf_39 : decode cX2_vesselOf 39 = .ok (.aconst_null, 1) := by decide +kernel
theorem dX2_vesselOf_40 : decode cX2_vesselOf 40 = .ok (.areturn, 1) := by decide +kernel
theorem dX2_vesselOf_41 : decode cX2_vesselOf 41 = .ok (.aload_n 0, 1) := by decide +kernel
theorem dX2_vesselOf_42 : decode cX2_vesselOf 42 = .ok (.getfield 13, 3) := by decide +kernel
theorem dX2_vesselOf_45 : decode cX2_vesselOf 45 = .ok (.aload_n 0, 1) := by decide +kernel
theorem dX2_vesselOf_46 : decode cX2_vesselOf 46 = .ok (.getfield 17, 3) := by decide +kernel
theorem dX2_vesselOf_49 : decode cX2_vesselOf 49 = .ok (.aaload, 1) := by decide +kernel
theorem dX2_vesselOf_50 : decode cX2_vesselOf 50 = .ok (.ifnonnull 19, 3) := by decide +kernel
theorem dX2_vesselOf_53 : decode cX2_vesselOf 53 = .ok (.aload_n 0, 1) := by decide +kernel
theorem dX2_vesselOf_54 : decode cX2_vesselOf 54 = .ok (.getfield 13, 3) := by decide +kernel
theorem dX2_vesselOf_57 : decode cX2_vesselOf 57 = .ok (.aload_n 0, 1) := by decide +kernel
theorem dX2_vesselOf_58 : decode cX2_vesselOf 58 = .ok (.getfield 17, 3) := by decide +kernel
theorem dX2_vesselOf_61 : decode cX2_vesselOf 61 = .ok (.new 11, 3) := by decide +kernel
theorem dX2_vesselOf_64 : decode cX2_vesselOf 64 = .ok (.dup, 1) := by decide +kernel
theorem dX2_vesselOf_65 : decode cX2_vesselOf 65 = .ok (.invokespecial 30, 3) := by decide +kernel
theorem dX2_vesselOf_68 : decode cX2_vesselOf 68 = .ok (.aastore, 1) := by decide +kernel
theorem dX2_vesselOf_69 : decode cX2_vesselOf 69 = .ok (.aload_n 0, 1) := by decide +kernel
theorem dX2_vesselOf_70 : decode cX2_vesselOf 70 = .ok (.getfield 13, 3) := by decide +kernel
theorem dX2_vesselOf_73 : decode cX2_vesselOf 73 = .ok (.aload_n 0, 1) := by decide +kernel
theorem dX2_vesselOf_74 : decode cX2_vesselOf 74 = .ok (.getfield 17, 3) := by decide +kernel
theorem dX2_vesselOf_77 : decode cX2_vesselOf 77 = .ok (.aaload, 1) := by decide +kernel
theorem dX2_vesselOf_78 : decode cX2_vesselOf 78 = .ok (.iload_n 1, 1) := by decide +kernel
theorem dX2_vesselOf_79 : decode cX2_vesselOf 79 = .ok (.invokevirtual 31, 3) := by decide +kernel
theorem dX2_vesselOf_82 : decode cX2_vesselOf 82 = .ok (.aload_n 0, 1) := by decide +kernel
theorem dX2_vesselOf_83 : decode cX2_vesselOf 83 = .ok (.dup, 1) := by decide +kernel
theorem dX2_vesselOf_84 : decode cX2_vesselOf 84 = .ok (.getfield 17, 3) := by decide +kernel
theorem dX2_vesselOf_87 : decode cX2_vesselOf 87 = .ok (.iconst 1, 1) := by decide +kernel
theorem dX2_vesselOf_88 : decode cX2_vesselOf 88 = .ok (.iadd, 1) := by decide +kernel
theorem dX2_vesselOf_89 : decode cX2_vesselOf 89 = .ok (.putfield 17, 3) := by decide +kernel
theorem dX2_vesselOf_92 : decode cX2_vesselOf 92 = .ok (.aload_n 0, 1) := by decide +kernel
theorem dX2_vesselOf_93 : decode cX2_vesselOf 93 = .ok (.getfield 13, 3) := by decide +kernel
theorem dX2_vesselOf_96 : decode cX2_vesselOf 96 = .ok (.aload_n 0, 1) := by decide +kernel
theorem dX2_vesselOf_97 : decode cX2_vesselOf 97 = .ok (.getfield 17, 3) := by decide +kernel
theorem dX2_vesselOf_100 : decode cX2_vesselOf 100 = .ok (.iconst 1, 1) := by decide +kernel
theorem dX2_vesselOf_101 : decode cX2_vesselOf 101 = .ok (.isub, 1) := by decide +kernel
theorem dX2_vesselOf_102 : decode cX2_vesselOf 102 = .ok (.aaload, 1) := by decide +kernel
theorem dX2_vesselOf_103 : decode cX2_vesselOf 103 = .ok (.areturn, 1) := by decide +kernel
theorem dX3_init_0 : decode cX3_init 0 = .ok (.aload_n 0, 1) := by decide +kernel
theorem dX3_init_1 : decode cX3_init 1 = .ok (.invokespecial 3, 3) := by decide +kernel
theorem dX3_init_4 : decode cX3_init 4 = .ok (.aload_n 0, 1) := by decide +kernel
theorem dX3_init_5 : decode cX3_init 5 = .ok (.bipush 11, 2) := by decide +kernel
theorem dX3_init_7 : decode cX3_init 7 = .ok (.anewarray 11, 3) := by decide +kernel
theorem dX3_init_10 : decode cX3_init 10 = .ok (.putfield 13, 3) := by decide +kernel
theorem dX3_init_13 : decode cX3_init 13 = .ok (.aload_n 0, 1) := by decide +kernel
theorem dX3_init_14 : decode cX3_init 14 = .ok (.bipush 11, 2) := by decide +kernel
theorem dX3_init_16 : decode cX3_init 16 = .ok (.newarray .int, 2) := by decide +kernel
theorem dX3_init_18 : decode cX3_init 18 = .ok (.putfield 17, 3) := by decide +kernel
theorem dX3_init_21 : decode cX3_init 21 = .ok (.aload_n 0, 1) := by decide +kernel
theorem dX3_init_22 : decode cX3_init 22 = .ok (.bipush 11, 2) := by decide +kernel
theorem dX3_init_24 : decode cX3_init 24 = .ok (.newarray .int, 2) := by decide +kernel
theorem dX3_init_26 : decode cX3_init 26 = .ok (.putfield 21, 3) := by decide +kernel
theorem dX3_init_29 : decode cX3_init 29 = .ok (.return_, 1) := by decide +kernel
theorem dX3_forget_0 : decode cX3_forget 0 = .ok (.aload_n 0, 1) := by decide +kernel
theorem dX3_forget_1 : decode cX3_forget 1 = .ok (.getfield 21, 3) := by decide +kernel
theorem dX3_forget_4 : decode cX3_forget 4 = .ok (.iconst 0, 1) := by decide +kernel
theorem dX3_forget_5 : decode cX3_forget 5 = .ok (.invokestatic 24, 3) := by decide +kernel
theorem dX3_forget_8 : decode cX3_forget 8 = .ok (.return_, 1) := by decide +kernel
theorem dX3_keptInAll_0 : decode cX3_keptInAll 0 = .ok (.iconst 0, 1) := by decide +kernel
theorem dX3_keptInAll_1 : decode cX3_keptInAll 1 = .ok (.istore_n 1, 1) := by decide +kernel
theorem dX3_keptInAll_2 : decode cX3_keptInAll 2 = .ok (.iconst 0, 1) := by decide +kernel
theorem dX3_keptInAll_3 : decode cX3_keptInAll 3 = .ok (.istore_n 2, 1) := by decide +kernel
theorem dX3_keptInAll_4 : decode cX3_keptInAll 4 = .ok (.iload_n 2, 1) := by decide +kernel
theorem dX3_keptInAll_5 : decode cX3_keptInAll 5 = .ok (.bipush 11, 2) := by decide +kernel
theorem dX3_keptInAll_7 : decode cX3_keptInAll 7 = .ok (.if_icmp .ge 18, 3) := by decide +kernel
theorem dX3_keptInAll_10 : decode cX3_keptInAll 10 = .ok (.iload_n 1, 1) := by decide +kernel
theorem dX3_keptInAll_11 : decode cX3_keptInAll 11 = .ok (.aload_n 0, 1) := by decide +kernel
theorem dX3_keptInAll_12 : decode cX3_keptInAll 12 = .ok (.getfield 21, 3) := by decide +kernel
theorem dX3_keptInAll_15 : decode cX3_keptInAll 15 = .ok (.iload_n 2, 1) := by decide +kernel
theorem dX3_keptInAll_16 : decode cX3_keptInAll 16 = .ok (.iaload, 1) := by decide +kernel
theorem dX3_keptInAll_17 : decode cX3_keptInAll 17 = .ok (.iadd, 1) := by decide +kernel
theorem dX3_keptInAll_18 : decode cX3_keptInAll 18 = .ok (.istore_n 1, 1) := by decide +kernel
theorem dX3_keptInAll_19 : decode cX3_keptInAll 19 = .ok (.iinc 2 1, 3) := by decide +kernel
theorem dX3_keptInAll_22 : decode cX3_keptInAll 22 = .ok (.goto (-18), 3) := by decide +kernel
theorem dX3_keptInAll_25 : decode cX3_keptInAll 25 = .ok (.iload_n 1, 1) := by decide +kernel
theorem dX3_keptInAll_26 : decode cX3_keptInAll 26 = .ok (.ireturn, 1) := by decide +kernel
theorem dX3_drop_0 : decode cX3_drop 0 = .ok (.iload_n 1, 1) := by decide +kernel
theorem dX3_drop_1 : decode cX3_drop 1 = .ok (.ifCond .lt 18, 3) := by decide +kernel
theorem dX3_drop_4 : decode cX3_drop 4 = .ok (.iload_n 1, 1) := by decide +kernel
theorem dX3_drop_5 : decode cX3_drop 5 = .ok (.bipush 11, 2) := by decide +kernel
theorem dX3_drop_7 : decode cX3_drop 7 = .ok (.if_icmp .ge 12, 3) := by decide +kernel
theorem dX3_drop_10 : decode cX3_drop 10 = .ok (.aload_n 0, 1) := by decide +kernel
theorem dX3_drop_11 : decode cX3_drop 11 = .ok (.getfield 21, 3) := by decide +kernel
theorem dX3_drop_14 : decode cX3_drop 14 = .ok (.iload_n 1, 1) := by decide +kernel
theorem dX3_drop_15 : decode cX3_drop 15 = .ok (.iaload, 1) := by decide +kernel
theorem dX3_drop_16 : decode cX3_drop 16 = .ok (.ifCond .ne 5, 3) := by decide +kernel
theorem dX3_drop_19 : decode cX3_drop 19 = .ok (.iconst 0, 1) := by decide +kernel
theorem dX3_drop_20 : decode cX3_drop 20 = .ok (.ireturn, 1) := by decide +kernel
theorem dX3_drop_21 : decode cX3_drop 21 = .ok (.aload_n 0, 1) := by decide +kernel
theorem dX3_drop_22 : decode cX3_drop 22 = .ok (.getfield 21, 3) := by decide +kernel
theorem dX3_drop_25 : decode cX3_drop 25 = .ok (.iload_n 1, 1) := by decide +kernel
theorem dX3_drop_26 : decode cX3_drop 26 = .ok (.iconst 0, 1) := by decide +kernel
theorem dX3_drop_27 : decode cX3_drop 27 = .ok (.iastore, 1) := by decide +kernel
theorem dX3_drop_28 : decode cX3_drop 28 = .ok (.iconst 1, 1) := by decide +kernel
theorem dX3_drop_29 : decode cX3_drop 29 = .ok (.ireturn, 1) := by decide +kernel
theorem dX3_awaits_0 : decode cX3_awaits 0 = .ok (.iload_n 1, 1) := by decide +kernel
theorem dX3_awaits_1 : decode cX3_awaits 1 = .ok (.ifCond .lt 44, 3) := by decide +kernel
theorem dX3_awaits_4 : decode cX3_awaits 4 = .ok (.iload_n 1, 1) := by decide +kernel
theorem dX3_awaits_5 : decode cX3_awaits 5 = .ok (.bipush 11, 2) := by decide +kernel
theorem dX3_awaits_7 : decode cX3_awaits 7 = .ok (.if_icmp .ge 38, 3) := by decide +kernel
theorem dX3_awaits_10 : decode cX3_awaits 10 = .ok (.aload_n 0, 1) := by decide +kernel
theorem dX3_awaits_11 : decode cX3_awaits 11 = .ok (.getfield 21, 3) := by decide +kernel
theorem dX3_awaits_14 : decode cX3_awaits 14 = .ok (.iload_n 1, 1) := by decide +kernel
theorem dX3_awaits_15 : decode cX3_awaits 15 = .ok (.iaload, 1) := by decide +kernel
theorem dX3_awaits_16 : decode cX3_awaits 16 = .ok (.ifCond .le 29, 3) := by decide +kernel
theorem dX3_awaits_19 : decode cX3_awaits 19 = .ok (.aload_n 0, 1) := by decide +kernel
theorem dX3_awaits_20 : decode cX3_awaits 20 = .ok (.getfield 17, 3) := by decide +kernel
theorem dX3_awaits_23 : decode cX3_awaits 23 = .ok (.iload_n 1, 1) := by decide +kernel
theorem dX3_awaits_24 : decode cX3_awaits 24 = .ok (.iaload, 1) := by decide +kernel
theorem dX3_awaits_25 : decode cX3_awaits 25 = .ok (.iload_n 2, 1) := by decide +kernel
theorem dX3_awaits_26 : decode cX3_awaits 26 = .ok (.if_icmp .ne 19, 3) := by decide +kernel
theorem dX3_awaits_29 : decode cX3_awaits 29 = .ok (.aload_n 0, 1) := by decide +kernel
theorem dX3_awaits_30 : decode cX3_awaits 30 = .ok (.getfield 21, 3) := by decide +kernel
theorem dX3_awaits_33 : decode cX3_awaits 33 = .ok (.iload_n 1, 1) := by decide +kernel
theorem dX3_awaits_34 : decode cX3_awaits 34 = .ok (.iaload, 1) := by decide +kernel
theorem dX3_awaits_35 : decode cX3_awaits 35 = .ok (.iload_n 3, 1) := by decide +kernel
theorem dX3_awaits_36 : decode cX3_awaits 36 = .ok (.iconst 1, 1) := by decide +kernel
theorem dX3_awaits_37 : decode cX3_awaits 37 = .ok (.isub, 1) := by decide +kernel
theorem dX3_awaits_38 : decode cX3_awaits 38 = .ok (.if_icmp .ne 7, 3) := by decide +kernel
theorem dX3_awaits_41 : decode cX3_awaits 41 = .ok (.iconst 1, 1) := by decide +kernel
theorem dX3_awaits_42 : decode cX3_awaits 42 = .ok (.goto 4, 3) := by decide +kernel
theorem dX3_awaits_45 : decode cX3_awaits 45 = .ok (.iconst 0, 1) := by decide +kernel
theorem dX3_awaits_46 : decode cX3_awaits 46 = .ok (.ireturn, 1) := by decide +kernel
theorem dX3_keep_0 : decode cX3_keep 0 = .ok (.iload_n 1, 1) := by decide +kernel
theorem dX3_keep_1 : decode cX3_keep 1 = .ok (.ifCond .lt 13, 3) := by decide +kernel
theorem dX3_keep_4 : decode cX3_keep 4 = .ok (.iload_n 1, 1) := by decide +kernel
theorem dX3_keep_5 : decode cX3_keep 5 = .ok (.bipush 11, 2) := by decide +kernel
theorem dX3_keep_7 : decode cX3_keep 7 = .ok (.if_icmp .ge 7, 3) := by decide +kernel
theorem dX3_keep_10 : decode cX3_keep 10 = .ok (.iload_n 1, 1) := by decide +kernel
theorem dX3_keep_11 : decode cX3_keep 11 = .ok (.goto 5, 3) := by decide +kernel
theorem dX3_keep_14 : decode cX3_keep 14 = .ok (.bipush 10, 2) := by decide +kernel
theorem dX3_keep_16 : decode cX3_keep 16 = .ok (.istore_n 3, 1) := by decide +kernel
theorem dX3_keep_17 : decode cX3_keep 17 = .ok (.aload_n 0, 1) := by decide +kernel
theorem dX3_keep_18 : decode cX3_keep 18 = .ok (.getfield 13, 3) := by decide +kernel
theorem dX3_keep_21 : decode cX3_keep 21 = .ok (.iload_n 3, 1) := by decide +kernel
theorem dX3_keep_22 : decode cX3_keep 22 = .ok (.aaload, 1) := by decide +kernel
theorem dX3_keep_23 : decode cX3_keep 23 = .ok (.ifnonnull 19, 3) := by decide +kernel
theorem dX3_keep_26 : decode cX3_keep 26 = .ok (.aload_n 0, 1) := by decide +kernel
theorem dX3_keep_27 : decode cX3_keep 27 = .ok (.getfield 13, 3) := by decide +kernel
theorem dX3_keep_30 : decode cX3_keep 30 = .ok (.iload_n 3, 1) := by decide +kernel
theorem dX3_keep_31 : decode cX3_keep 31 = .ok (.new 11, 3) := by decide +kernel
theorem dX3_keep_34 : decode cX3_keep 34 = .ok (.dup, 1) := by decide +kernel
theorem dX3_keep_35 : decode cX3_keep 35 = .ok (.sipush 3240, 3) := by decide +kernel
theorem dX3_keep_38 : decode cX3_keep 38 = .ok (.invokespecial 30, 3) := by decide +kernel
theorem dX3_keep_41 : decode cX3_keep 41 = .ok (.aastore, 1) := by decide +kernel
theorem dX3_keep_42 : decode cX3_keep 42 = .ok (.aload_n 0, 1) := by decide +kernel
theorem dX3_keep_43 : decode cX3_keep 43 = .ok (.getfield 21, 3) := by decide +kernel
theorem dX3_keep_46 : decode cX3_keep 46 = .ok (.iload_n 3, 1) := by decide +kernel
theorem dX3_keep_47 : decode cX3_keep 47 = .ok (.iaload, 1) := by decide +kernel
theorem dX3_keep_48 : decode cX3_keep 48 = .ok (.ifCond .ne 12, 3) := by decide +kernel
theorem dX3_keep_51 : decode cX3_keep 51 = .ok (.aload_n 0, 1) := by decide +kernel
theorem dX3_keep_52 : decode cX3_keep 52 = .ok (.getfield 13, 3) := by decide +kernel
theorem dX3_keep_55 : decode cX3_keep 55 = .ok (.iload_n 3, 1) := by decide +kernel
theorem dX3_keep_56 : decode cX3_keep 56 = .ok (.aaload, 1) := by decide +kernel
theorem dX3_keep_57 : decode cX3_keep 57 = .ok (.invokevirtual 33, 3) := by decide +kernel
theorem dX3_keep_60 : decode cX3_keep 60 = .ok (.aload_n 0, 1) := by decide +kernel
theorem dX3_keep_61 : decode cX3_keep 61 = .ok (.getfield 17, 3) := by decide +kernel
theorem dX3_keep_64 : decode cX3_keep 64 = .ok (.iload_n 3, 1) := by decide +kernel
theorem dX3_keep_65 : decode cX3_keep 65 = .ok (.iload_n 2, 1) := by decide +kernel
theorem dX3_keep_66 : decode cX3_keep 66 = .ok (.iastore, 1) := by decide +kernel
theorem dX3_keep_67 : decode cX3_keep 67 = .ok (.aload_n 0, 1) := by decide +kernel
theorem dX3_keep_68 : decode cX3_keep 68 = .ok (.getfield 21, 3) := by decide +kernel
theorem dX3_keep_71 : decode cX3_keep 71 = .ok (.iload_n 3, 1) := by decide +kernel
theorem dX3_keep_72 : decode cX3_keep 72 = .ok (.dup2, 1) := by decide +kernel
theorem dX3_keep_73 : decode cX3_keep 73 = .ok (.iaload, 1) := by decide +kernel
theorem dX3_keep_74 : decode cX3_keep 74 = .ok (.iconst 1, 1) := by decide +kernel
theorem dX3_keep_75 : decode cX3_keep 75 = .ok (.iadd, 1) := by decide +kernel
theorem dX3_keep_76 : decode cX3_keep 76 = .ok (.iastore, 1) := by decide +kernel
theorem dX3_keep_77 : decode cX3_keep 77 = .ok (.aload_n 0, 1) := by decide +kernel
theorem dX3_keep_78 : decode cX3_keep 78 = .ok (.getfield 13, 3) := by decide +kernel
theorem dX3_keep_81 : decode cX3_keep 81 = .ok (.iload_n 3, 1) := by decide +kernel
theorem dX3_keep_82 : decode cX3_keep 82 = .ok (.aaload, 1) := by decide +kernel
theorem dX3_keep_83 : decode cX3_keep 83 = .ok (.areturn, 1) := by decide +kernel
theorem dX4_init_0 : decode cX4_init 0 = .ok (.aload_n 0, 1) := by decide +kernel
theorem dX4_init_1 : decode cX4_init 1 = .ok (.invokespecial 3, 3) := by decide +kernel
theorem dX4_init_4 : decode cX4_init 4 = .ok (.aload_n 0, 1) := by decide +kernel
theorem dX4_init_5 : decode cX4_init 5 = .ok (.bipush 18, 2) := by decide +kernel
theorem dX4_init_7 : decode cX4_init 7 = .ok (.newarray .int, 2) := by decide +kernel
theorem dX4_init_9 : decode cX4_init 9 = .ok (.putfield 11, 3) := by decide +kernel
theorem dX4_init_12 : decode cX4_init 12 = .ok (.aload_n 0, 1) := by decide +kernel
theorem dX4_init_13 : decode cX4_init 13 = .ok (.bipush 18, 2) := by decide +kernel
theorem dX4_init_15 : decode cX4_init 15 = .ok (.newarray .int, 2) := by decide +kernel
theorem dX4_init_17 : decode cX4_init 17 = .ok (.putfield 15, 3) := by decide +kernel
theorem dX4_init_20 : decode cX4_init 20 = .ok (.aload_n 0, 1) := by decide +kernel
theorem dX4_init_21 : decode cX4_init 21 = .ok (.getfield 11, 3) := by decide +kernel
theorem dX4_init_24 : decode cX4_init 24 = .ok (.ldc 18, 2) := by decide +kernel
theorem dX4_init_26 : decode cX4_init 26 = .ok (.invokestatic 19, 3) := by decide +kernel
theorem dX4_init_29 : decode cX4_init 29 = .ok (.return_, 1) := by decide +kernel
theorem dX4_forget_0 : decode cX4_forget 0 = .ok (.aload_n 0, 1) := by decide +kernel
theorem dX4_forget_1 : decode cX4_forget 1 = .ok (.getfield 11, 3) := by decide +kernel
theorem dX4_forget_4 : decode cX4_forget 4 = .ok (.ldc 18, 2) := by decide +kernel
theorem dX4_forget_6 : decode cX4_forget 6 = .ok (.invokestatic 19, 3) := by decide +kernel
theorem dX4_forget_9 : decode cX4_forget 9 = .ok (.return_, 1) := by decide +kernel
theorem dX4_takeGga_0 : decode cX4_takeGga 0 = .ok (.aload_n 1, 1) := by decide +kernel
theorem dX4_takeGga_1 : decode cX4_takeGga 1 = .ok (.getfield 25, 3) := by decide +kernel
theorem dX4_takeGga_4 : decode cX4_takeGga 4 = .ok (.bipush 15, 2) := by decide +kernel
theorem dX4_takeGga_6 : decode cX4_takeGga 6 = .ok (.if_icmp .eq 5, 3) := by decide +kernel
theorem dX4_takeGga_9 : decode cX4_takeGga 9 = .ok (.iconst 0, 1) := by decide +kernel
theorem dX4_takeGga_10 : decode cX4_takeGga 10 = .ok (.ireturn, 1) := by decide +kernel
theorem dX4_takeGga_11 : decode cX4_takeGga 11 = .ok (.aload_n 0, 1) := by decide +kernel
theorem dX4_takeGga_12 : decode cX4_takeGga 12 = .ok (.getfield 15, 3) := by decide +kernel
theorem dX4_takeGga_15 : decode cX4_takeGga 15 = .ok (.iconst 0, 1) := by decide +kernel
theorem dX4_takeGga_16 : decode cX4_takeGga 16 = .ok (.aload_n 1, 1) := by decide +kernel
theorem dX4_takeGga_17 : decode cX4_takeGga 17 = .ok (.iconst 1, 1) := by decide +kernel
theorem dX4_takeGga_18 : decode cX4_takeGga 18 = .ok (.invokevirtual 31, 3) := by decide +kernel
theorem dX4_takeGga_21 : decode cX4_takeGga 21 = .ok (.iastore, 1) := by decide +kernel
theorem dX4_takeGga_22 : decode cX4_takeGga 22 = .ok (.aload_n 0, 1) := by decide +kernel
theorem dX4_takeGga_23 : decode cX4_takeGga 23 = .ok (.getfield 15, 3) := by decide +kernel
theorem dX4_takeGga_26 : decode cX4_takeGga 26 = .ok (.iconst 1, 1) := by decide +kernel
theorem dX4_takeGga_27 : decode cX4_takeGga 27 = .ok (.aload_n 1, 1) := by decide +kernel
theorem dX4_takeGga_28 : decode cX4_takeGga 28 = .ok (.iconst 2, 1) := by decide +kernel
theorem dX4_takeGga_29 : decode cX4_takeGga 29 = .ok (.invokevirtual 35, 3) := by decide +kernel
theorem dX4_takeGga_32 : decode cX4_takeGga 32 = .ok (.iastore, 1) := by decide +kernel
theorem dX4_takeGga_33 : decode cX4_takeGga 33 = .ok (.aload_n 0, 1) := by decide +kernel
theorem dX4_takeGga_34 : decode cX4_takeGga 34 = .ok (.getfield 15, 3) := by decide +kernel
theorem dX4_takeGga_37 : decode cX4_takeGga 37 = .ok (.iconst 2, 1) := by decide +kernel
theorem dX4_takeGga_38 : decode cX4_takeGga 38 = .ok (.aload_n 1, 1) := by decide +kernel
theorem dX4_takeGga_39 : decode cX4_takeGga 39 = .ok (.iconst 4, 1) := by decide +kernel
theorem dX4_takeGga_40 : decode cX4_takeGga 40 = .ok (.invokevirtual 38, 3) := by decide +kernel
theorem dX4_takeGga_43 : decode cX4_takeGga 43 = .ok (.iastore, 1) := by decide +kernel
theorem dX4_takeGga_44 : decode cX4_takeGga 44 = .ok (.aload_n 0, 1) := by decide +kernel
theorem dX4_takeGga_45 : decode cX4_takeGga 45 = .ok (.getfield 15, 3) := by decide +kernel
theorem dX4_takeGga_48 : decode cX4_takeGga 48 = .ok (.iconst 3, 1) := by decide +kernel
theorem dX4_takeGga_49 : decode cX4_takeGga 49 = .ok (.aload_n 1, 1) := by decide +kernel
theorem dX4_takeGga_50 : decode cX4_takeGga 50 = .ok (.bipush 6, 2) := by decide +kernel
theorem dX4_takeGga_52 : decode cX4_takeGga 52 = .ok (.iconst 0, 1) := by decide +kernel
theorem dX4_takeGga_53 : decode cX4_takeGga 53 = .ok (.bipush 8, 2) := by decide +kernel
theorem dX4_takeGga_55 : decode cX4_takeGga 55 = .ok (.invokevirtual 41, 3) := by decide +kernel
theorem dX4_takeGga_58 : decode cX4_takeGga 58 = .ok (.iastore, 1) := by decide +kernel
theorem dX4_takeGga_59 : decode cX4_takeGga 59 = .ok (.aload_n 0, 1) := by decide +kernel
theorem dX4_takeGga_60 : decode cX4_takeGga 60 = .ok (.getfield 15, 3) := by decide +kernel
theorem dX4_takeGga_63 : decode cX4_takeGga 63 = .ok (.iconst 4, 1) := by decide +kernel
theorem dX4_takeGga_64 : decode cX4_takeGga 64 = .ok (.aload_n 1, 1) := by decide +kernel
theorem dX4_takeGga_65 : decode cX4_takeGga 65 = .ok (.bipush 7, 2) := by decide +kernel
theorem dX4_takeGga_67 : decode cX4_takeGga 67 = .ok (.iconst 1, 1) := by decide +kernel
theorem dX4_takeGga_68 : decode cX4_takeGga 68 = .ok (.iconst 2, 1) := by decide +kernel
theorem dX4_takeGga_69 : decode cX4_takeGga 69 = .ok (.invokevirtual 45, 3) := by decide +kernel
theorem dX4_takeGga_72 : decode cX4_takeGga 72 = .ok (.iastore, 1) := by decide +kernel
theorem dX4_takeGga_73 : decode cX4_takeGga 73 = .ok (.aload_n 0, 1) := by decide +kernel
theorem dX4_takeGga_74 : decode cX4_takeGga 74 = .ok (.getfield 15, 3) := by decide +kernel
theorem dX4_takeGga_77 : decode cX4_takeGga 77 = .ok (.iconst 5, 1) := by decide +kernel
theorem dX4_takeGga_78 : decode cX4_takeGga 78 = .ok (.aload_n 1, 1) := by decide +kernel
theorem dX4_takeGga_79 : decode cX4_takeGga 79 = .ok (.bipush 8, 2) := by decide +kernel
theorem dX4_takeGga_81 : decode cX4_takeGga 81 = .ok (.iconst 2, 1) := by decide +kernel
theorem dX4_takeGga_82 : decode cX4_takeGga 82 = .ok (.iconst 2, 1) := by decide +kernel
theorem dX4_takeGga_83 : decode cX4_takeGga 83 = .ok (.invokevirtual 48, 3) := by decide +kernel
theorem dX4_takeGga_86 : decode cX4_takeGga 86 = .ok (.iastore, 1) := by decide +kernel
theorem dX4_takeGga_87 : decode cX4_takeGga 87 = .ok (.aload_n 0, 1) := by decide +kernel
theorem dX4_takeGga_88 : decode cX4_takeGga 88 = .ok (.getfield 15, 3) := by decide +kernel
theorem dX4_takeGga_91 : decode cX4_takeGga 91 = .ok (.bipush 6, 2) := by decide +kernel
theorem dX4_takeGga_93 : decode cX4_takeGga 93 = .ok (.aload_n 1, 1) := by decide +kernel
theorem dX4_takeGga_94 : decode cX4_takeGga 94 = .ok (.bipush 9, 2) := by decide +kernel
theorem dX4_takeGga_96 : decode cX4_takeGga 96 = .ok (.iconst 1, 1) := by decide +kernel
theorem dX4_takeGga_97 : decode cX4_takeGga 97 = .ok (.iconst 5, 1) := by decide +kernel
theorem dX4_takeGga_98 : decode cX4_takeGga 98 = .ok (.invokevirtual 51, 3) := by decide +kernel
theorem dX4_takeGga_101 : decode cX4_takeGga 101 = .ok (.iastore, 1) := by decide +kernel
theorem dX4_takeGga_102 : decode cX4_takeGga 102 = .ok (.aload_n 1, 1) := by decide +kernel
theorem dX4_takeGga_103 : decode cX4_takeGga 103 = .ok (.bipush 10, 2) := by decide +kernel
theorem dX4_takeGga_105 : decode cX4_takeGga 105 = .ok (.bipush 77, 2) := by decide +kernel
theorem dX4_takeGga_107 : decode cX4_takeGga 107 = .ok (.invokevirtual 54, 3) := by decide +kernel
theorem dX4_takeGga_110 : decode cX4_takeGga 110 = .ok (.aload_n 0, 1) := by decide +kernel
theorem dX4_takeGga_111 : decode cX4_takeGga 111 = .ok (.getfield 15, 3) := by decide +kernel
theorem dX4_takeGga_114 : decode cX4_takeGga 114 = .ok (.bipush 7, 2) := by decide +kernel
theorem dX4_takeGga_116 : decode cX4_takeGga 116 = .ok (.aload_n 1, 1) := by decide +kernel
theorem dX4_takeGga_117 : decode cX4_takeGga 117 = .ok (.bipush 11, 2) := by decide +kernel
theorem dX4_takeGga_119 : decode cX4_takeGga 119 = .ok (.iconst 1, 1) := by decide +kernel
theorem dX4_takeGga_120 : decode cX4_takeGga 120 = .ok (.iconst 4, 1) := by decide +kernel
theorem dX4_takeGga_121 : decode cX4_takeGga 121 = .ok (.invokevirtual 51, 3) := by decide +kernel
theorem dX4_takeGga_124 : decode cX4_takeGga 124 = .ok (.iastore, 1) := by decide +kernel
theorem dX4_takeGga_125 : decode cX4_takeGga 125 = .ok (.aload_n 1, 1) := by decide +kernel
theorem dX4_takeGga_126 : decode cX4_takeGga 126 = .ok (.bipush 12, 2) := by decide +kernel
theorem dX4_takeGga_128 : decode cX4_takeGga 128 = .ok (.bipush 77, 2) := by decide +kernel
theorem dX4_takeGga_130 : decode cX4_takeGga 130 = .ok (.invokevirtual 54, 3) := by decide +kernel
theorem dX4_takeGga_133 : decode cX4_takeGga 133 = .ok (.aload_n 0, 1) := by decide +kernel
theorem dX4_takeGga_134 : decode cX4_takeGga 134 = .ok (.getfield 15, 3) := by decide +kernel
theorem dX4_takeGga_137 : decode cX4_takeGga 137 = .ok (.bipush 8, 2) := by decide +kernel
theorem dX4_takeGga_139 : decode cX4_takeGga 139 = .ok (.aload_n 1, 1) := by decide +kernel
theorem dX4_takeGga_140 : decode cX4_takeGga 140 = .ok (.bipush 13, 2) := by decide +kernel
theorem dX4_takeGga_142 : decode cX4_takeGga 142 = .ok (.iconst 1, 1) := by decide +kernel
theorem dX4_takeGga_143 : decode cX4_takeGga 143 = .ok (.iconst 4, 1) := by decide +kernel
theorem dX4_takeGga_144 : decode cX4_takeGga 144 = .ok (.invokevirtual 48, 3) := by decide +kernel
theorem dX4_takeGga_147 : decode cX4_takeGga 147 = .ok (.iastore, 1) := by decide +kernel
theorem dX4_takeGga_148 : decode cX4_takeGga 148 = .ok (.aload_n 0, 1) := by decide +kernel
theorem dX4_takeGga_149 : decode cX4_takeGga 149 = .ok (.getfield 15, 3) := by decide +kernel
theorem dX4_takeGga_152 : decode cX4_takeGga 152 = .ok (.bipush 9, 2) := by decide +kernel
theorem dX4_takeGga_154 : decode cX4_takeGga 154 = .ok (.aload_n 1, 1) := by decide +kernel
theorem dX4_takeGga_155 : decode cX4_takeGga 155 = .ok (.bipush 14, 2) := by decide +kernel
theorem dX4_takeGga_157 : decode cX4_takeGga 157 = .ok (.iconst 4, 1) := by decide +kernel
theorem dX4_takeGga_158 : decode cX4_takeGga 158 = .ok (.iconst 4, 1) := by decide +kernel
theorem dX4_takeGga_159 : decode cX4_takeGga 159 = .ok (.invokevirtual 45, 3) := by decide +kernel
theorem dX4_takeGga_162 : decode cX4_takeGga 162 = .ok (.iastore, 1) := by decide +kernel
theorem dX4_takeGga_163 : decode cX4_takeGga 163 = .ok (.aload_n 0, 1) := by decide +kernel
theorem dX4_takeGga_164 : decode cX4_takeGga 164 = .ok (.aload_n 1, 1) := by decide +kernel
theorem dX4_takeGga_165 : decode cX4_takeGga 165 = .ok (.getfield 58, 3) := by decide +kernel
theorem dX4_takeGga_168 : decode cX4_takeGga 168 = .ok (.getstatic 62, 3) := by decide +kernel
theorem dX4_takeGga_171 : decode cX4_takeGga 171 = .ok (.invokevirtual 65, 3) := by decide +kernel
theorem dX4_takeGga_174 : decode cX4_takeGga 174 = .ok (.ireturn, 1) := by decide +kernel
theorem dX4_takeRmc_0 : decode cX4_takeRmc 0 = .ok (.aload_n 1, 1) := by decide +kernel
theorem dX4_takeRmc_1 : decode cX4_takeRmc 1 = .ok (.getfield 25, 3) := by decide +kernel
theorem dX4_takeRmc_4 : decode cX4_takeRmc 4 = .ok (.bipush 12, 2) := by decide +kernel
theorem dX4_takeRmc_6 : decode cX4_takeRmc 6 = .ok (.if_icmp .eq 12, 3) := by decide +kernel
theorem dX4_takeRmc_9 : decode cX4_takeRmc 9 = .ok (.aload_n 1, 1) := by decide +kernel
theorem dX4_takeRmc_10 : decode cX4_takeRmc 10 = .ok (.getfield 25, 3) := by decide +kernel
theorem dX4_takeRmc_13 : decode cX4_takeRmc 13 = .ok (.bipush 13, 2) := by decide +kernel
theorem dX4_takeRmc_15 : decode cX4_takeRmc 15 = .ok (.if_icmp .ne 11, 3) := by decide +kernel
theorem dX4_takeRmc_18 : decode cX4_takeRmc 18 = .ok (.aload_n 1, 1) := by decide +kernel
theorem dX4_takeRmc_19 : decode cX4_takeRmc 19 = .ok (.iconst 2, 1) := by decide +kernel
theorem dX4_takeRmc_20 : decode cX4_takeRmc 20 = .ok (.invokevirtual 69, 3) := by decide +kernel
theorem dX4_takeRmc_23 : decode cX4_takeRmc 23 = .ok (.ifCond .eq 5, 3) := by decide +kernel
theorem dX4_takeRmc_26 : decode cX4_takeRmc 26 = .ok (.iconst 0, 1) := by decide +kernel
theorem dX4_takeRmc_27 : decode cX4_takeRmc 27 = .ok (.ireturn, 1) := by decide +kernel
theorem dX4_takeRmc_28 : decode cX4_takeRmc 28 = .ok (.aload_n 0, 1) := by decide +kernel
theorem dX4_takeRmc_29 : decode cX4_takeRmc 29 = .ok (.getfield 15, 3) := by decide +kernel
theorem dX4_takeRmc_32 : decode cX4_takeRmc 32 = .ok (.iconst 0, 1) := by decide +kernel
theorem dX4_takeRmc_33 : decode cX4_takeRmc 33 = .ok (.aload_n 1, 1) := by decide +kernel
theorem dX4_takeRmc_34 : decode cX4_takeRmc 34 = .ok (.iconst 1, 1) := by decide +kernel
theorem dX4_takeRmc_35 : decode cX4_takeRmc 35 = .ok (.invokevirtual 31, 3) := by decide +kernel
theorem dX4_takeRmc_38 : decode cX4_takeRmc 38 = .ok (.iastore, 1) := by decide +kernel
theorem dX4_takeRmc_39 : decode cX4_takeRmc 39 = .ok (.aload_n 0, 1) := by decide +kernel
theorem dX4_takeRmc_40 : decode cX4_takeRmc 40 = .ok (.getfield 15, 3) := by decide +kernel
theorem dX4_takeRmc_43 : decode cX4_takeRmc 43 = .ok (.bipush 10, 2) := by decide +kernel
theorem dX4_takeRmc_45 : decode cX4_takeRmc 45 = .ok (.aload_n 1, 1) := by decide +kernel
theorem dX4_takeRmc_46 : decode cX4_takeRmc 46 = .ok (.iconst 2, 1) := by decide +kernel
theorem dX4_takeRmc_47 : decode cX4_takeRmc 47 = .ok (.ldc 73, 2) := by decide +kernel
theorem dX4_takeRmc_49 : decode cX4_takeRmc 49 = .ok (.invokevirtual 75, 3) := by decide +kernel
theorem dX4_takeRmc_52 : decode cX4_takeRmc 52 = .ok (.bipush 65, 2) := by decide +kernel
theorem dX4_takeRmc_54 : decode cX4_takeRmc 54 = .ok (.if_icmp .ne 7, 3) := by decide +kernel
theorem dX4_takeRmc_57 : decode cX4_takeRmc 57 = .ok (.iconst 1, 1) := by decide +kernel
theorem dX4_takeRmc_58 : decode cX4_takeRmc 58 = .ok (.goto 4, 3) := by decide +kernel
theorem dX4_takeRmc_61 : decode cX4_takeRmc 61 = .ok (.iconst 0, 1) := by decide +kernel
theorem dX4_takeRmc_62 : decode cX4_takeRmc 62 = .ok (.iastore, 1) := by decide +kernel
theorem dX4_takeRmc_63 : decode cX4_takeRmc 63 = .ok (.aload_n 0, 1) := by decide +kernel
theorem dX4_takeRmc_64 : decode cX4_takeRmc 64 = .ok (.getfield 15, 3) := by decide +kernel
theorem dX4_takeRmc_67 : decode cX4_takeRmc 67 = .ok (.iconst 1, 1) := by decide +kernel
theorem dX4_takeRmc_68 : decode cX4_takeRmc 68 = .ok (.aload_n 1, 1) := by decide +kernel
theorem dX4_takeRmc_69 : decode cX4_takeRmc 69 = .ok (.iconst 3, 1) := by decide +kernel
theorem dX4_takeRmc_70 : decode cX4_takeRmc 70 = .ok (.invokevirtual 35, 3) := by decide +kernel
theorem dX4_takeRmc_73 : decode cX4_takeRmc 73 = .ok (.iastore, 1) := by decide +kernel
theorem dX4_takeRmc_74 : decode cX4_takeRmc 74 = .ok (.aload_n 0, 1) := by decide +kernel
theorem dX4_takeRmc_75 : decode cX4_takeRmc 75 = .ok (.getfield 15, 3) := by decide +kernel
theorem dX4_takeRmc_78 : decode cX4_takeRmc 78 = .ok (.iconst 2, 1) := by decide +kernel
theorem dX4_takeRmc_79 : decode cX4_takeRmc 79 = .ok (.aload_n 1, 1) := by decide +kernel
theorem dX4_takeRmc_80 : decode cX4_takeRmc 80 = .ok (.iconst 5, 1) := by decide +kernel
theorem dX4_takeRmc_81 : decode cX4_takeRmc 81 = .ok (.invokevirtual 38, 3) := by decide +kernel
theorem dX4_takeRmc_84 : decode cX4_takeRmc 84 = .ok (.iastore, 1) := by decide +kernel
theorem dX4_takeRmc_85 : decode cX4_takeRmc 85 = .ok (.aload_n 0, 1) := by decide +kernel
theorem dX4_takeRmc_86 : decode cX4_takeRmc 86 = .ok (.getfield 15, 3) := by decide +kernel
theorem dX4_takeRmc_89 : decode cX4_takeRmc 89 = .ok (.bipush 11, 2) := by decide +kernel
theorem dX4_takeRmc_91 : decode cX4_takeRmc 91 = .ok (.aload_n 1, 1) := by decide +kernel
theorem dX4_takeRmc_92 : decode cX4_takeRmc 92 = .ok (.bipush 7, 2) := by decide +kernel
theorem dX4_takeRmc_94 : decode cX4_takeRmc 94 = .ok (.iconst 2, 1) := by decide +kernel
theorem dX4_takeRmc_95 : decode cX4_takeRmc 95 = .ok (.iconst 4, 1) := by decide +kernel
theorem dX4_takeRmc_96 : decode cX4_takeRmc 96 = .ok (.invokevirtual 48, 3) := by decide +kernel
theorem dX4_takeRmc_99 : decode cX4_takeRmc 99 = .ok (.iastore, 1) := by decide +kernel
theorem dX4_takeRmc_100 : decode cX4_takeRmc 100 = .ok (.aload_n 0, 1) := by decide +kernel
theorem dX4_takeRmc_101 : decode cX4_takeRmc 101 = .ok (.getfield 15, 3) := by decide +kernel
theorem dX4_takeRmc_104 : decode cX4_takeRmc 104 = .ok (.bipush 12, 2) := by decide +kernel
theorem dX4_takeRmc_106 : decode cX4_takeRmc 106 = .ok (.aload_n 1, 1) := by decide +kernel
theorem dX4_takeRmc_107 : decode cX4_takeRmc 107 = .ok (.bipush 8, 2) := by decide +kernel
theorem dX4_takeRmc_109 : decode cX4_takeRmc 109 = .ok (.invokevirtual 79, 3) := by decide +kernel
theorem dX4_takeRmc_112 : decode cX4_takeRmc 112 = .ok (.iastore, 1) := by decide +kernel
theorem dX4_takeRmc_113 : decode cX4_takeRmc 113 = .ok (.aload_n 0, 1) := by decide +kernel
theorem dX4_takeRmc_114 : decode cX4_takeRmc 114 = .ok (.getfield 15, 3) := by decide +kernel
theorem dX4_takeRmc_117 : decode cX4_takeRmc 117 = .ok (.bipush 13, 2) := by decide +kernel
theorem dX4_takeRmc_119 : decode cX4_takeRmc 119 = .ok (.aload_n 1, 1) := by decide +kernel
theorem dX4_takeRmc_120 : decode cX4_takeRmc 120 = .ok (.bipush 9, 2) := by decide +kernel
theorem dX4_takeRmc_122 : decode cX4_takeRmc 122 = .ok (.invokevirtual 82, 3) := by decide +kernel
theorem dX4_takeRmc_125 : decode cX4_takeRmc 125 = .ok (.iastore, 1) := by decide +kernel
theorem dX4_takeRmc_126 : decode cX4_takeRmc 126 = .ok (.aload_n 0, 1) := by decide +kernel
theorem dX4_takeRmc_127 : decode cX4_takeRmc 127 = .ok (.getfield 15, 3) := by decide +kernel
theorem dX4_takeRmc_130 : decode cX4_takeRmc 130 = .ok (.bipush 14, 2) := by decide +kernel
theorem dX4_takeRmc_132 : decode cX4_takeRmc 132 = .ok (.aload_n 1, 1) := by decide +kernel
theorem dX4_takeRmc_133 : decode cX4_takeRmc 133 = .ok (.bipush 10, 2) := by decide +kernel
theorem dX4_takeRmc_135 : decode cX4_takeRmc 135 = .ok (.invokevirtual 85, 3) := by decide +kernel
theorem dX4_takeRmc_138 : decode cX4_takeRmc 138 = .ok (.iastore, 1) := by decide +kernel
theorem dX4_takeRmc_139 : decode cX4_takeRmc 139 = .ok (.aload_n 0, 1) := by decide +kernel
theorem dX4_takeRmc_140 : decode cX4_takeRmc 140 = .ok (.getfield 15, 3) := by decide +kernel
theorem dX4_takeRmc_143 : decode cX4_takeRmc 143 = .ok (.bipush 17, 2) := by decide +kernel
theorem dX4_takeRmc_145 : decode cX4_takeRmc 145 = .ok (.aload_n 1, 1) := by decide +kernel
theorem dX4_takeRmc_146 : decode cX4_takeRmc 146 = .ok (.bipush 12, 2) := by decide +kernel
theorem dX4_takeRmc_148 : decode cX4_takeRmc 148 = .ok (.ldc 88, 2) := by decide +kernel
theorem dX4_takeRmc_150 : decode cX4_takeRmc 150 = .ok (.invokevirtual 75, 3) := by decide +kernel
theorem dX4_takeRmc_153 : decode cX4_takeRmc 153 = .ok (.iastore, 1) := by decide +kernel
theorem dX4_takeRmc_154 : decode cX4_takeRmc 154 = .ok (.aload_n 0, 1) := by decide +kernel
theorem dX4_takeRmc_155 : decode cX4_takeRmc 155 = .ok (.aload_n 1, 1) := by decide +kernel
theorem dX4_takeRmc_156 : decode cX4_takeRmc 156 = .ok (.getfield 58, 3) := by decide +kernel
theorem dX4_takeRmc_159 : decode cX4_takeRmc 159 = .ok (.getstatic 90, 3) := by decide +kernel
theorem dX4_takeRmc_162 : decode cX4_takeRmc 162 = .ok (.invokevirtual 65, 3) := by decide +kernel
theorem dX4_takeRmc_165 : decode cX4_takeRmc 165 = .ok (.ireturn, 1) := by decide +kernel
theorem dX4_takeVtg_0 : decode cX4_takeVtg 0 = .ok (.aload_n 1, 1) := by decide +kernel
theorem dX4_takeVtg_1 : decode cX4_takeVtg 1 = .ok (.getfield 25, 3) := by decide +kernel
theorem dX4_takeVtg_4 : decode cX4_takeVtg 4 = .ok (.bipush 9, 2) := by decide +kernel
theorem dX4_takeVtg_6 : decode cX4_takeVtg 6 = .ok (.if_icmp .eq 14, 3) := by decide +kernel
theorem dX4_takeVtg_9 : decode cX4_takeVtg 9 = .ok (.aload_n 1, 1) := by decide +kernel
theorem dX4_takeVtg_10 : decode cX4_takeVtg 10 = .ok (.getfield 25, 3) := by decide +kernel
theorem dX4_takeVtg_13 : decode cX4_takeVtg 13 = .ok (.bipush 10, 2) := by decide +kernel
theorem dX4_takeVtg_15 : decode cX4_takeVtg 15 = .ok (.if_icmp .eq 5, 3) := by decide +kernel
theorem dX4_takeVtg_18 : decode cX4_takeVtg 18 = .ok (.iconst 0, 1) := by decide +kernel
theorem dX4_takeVtg_19 : decode cX4_takeVtg 19 = .ok (.ireturn, 1) := by decide +kernel
theorem dX4_takeVtg_20 : decode cX4_takeVtg 20 = .ok (.aload_n 0, 1) := by decide +kernel
theorem dX4_takeVtg_21 : decode cX4_takeVtg 21 = .ok (.getfield 15, 3) := by decide +kernel
theorem dX4_takeVtg_24 : decode cX4_takeVtg 24 = .ok (.bipush 12, 2) := by decide +kernel
theorem dX4_takeVtg_26 : decode cX4_takeVtg 26 = .ok (.aload_n 1, 1) := by decide +kernel
theorem dX4_takeVtg_27 : decode cX4_takeVtg 27 = .ok (.iconst 1, 1) := by decide +kernel
theorem dX4_takeVtg_28 : decode cX4_takeVtg 28 = .ok (.invokevirtual 79, 3) := by decide +kernel
theorem dX4_takeVtg_31 : decode cX4_takeVtg 31 = .ok (.iastore, 1) := by decide +kernel
theorem dX4_takeVtg_32 : decode cX4_takeVtg 32 = .ok (.aload_n 1, 1) := by decide +kernel
theorem dX4_takeVtg_33 : decode cX4_takeVtg 33 = .ok (.iconst 2, 1) := by decide +kernel
theorem dX4_takeVtg_34 : decode cX4_takeVtg 34 = .ok (.bipush 84, 2) := by decide +kernel
theorem dX4_takeVtg_36 : decode cX4_takeVtg 36 = .ok (.invokevirtual 54, 3) := by decide +kernel
theorem dX4_takeVtg_39 : decode cX4_takeVtg 39 = .ok (.aload_n 0, 1) := by decide +kernel
theorem dX4_takeVtg_40 : decode cX4_takeVtg 40 = .ok (.getfield 15, 3) := by decide +kernel
theorem dX4_takeVtg_43 : decode cX4_takeVtg 43 = .ok (.bipush 15, 2) := by decide +kernel
theorem dX4_takeVtg_45 : decode cX4_takeVtg 45 = .ok (.aload_n 1, 1) := by decide +kernel
theorem dX4_takeVtg_46 : decode cX4_takeVtg 46 = .ok (.iconst 3, 1) := by decide +kernel
theorem dX4_takeVtg_47 : decode cX4_takeVtg 47 = .ok (.invokevirtual 79, 3) := by decide +kernel
theorem dX4_takeVtg_50 : decode cX4_takeVtg 50 = .ok (.iastore, 1) := by decide +kernel
theorem dX4_takeVtg_51 : decode cX4_takeVtg 51 = .ok (.aload_n 1, 1) := by decide +kernel
theorem dX4_takeVtg_52 : decode cX4_takeVtg 52 = .ok (.iconst 4, 1) := by decide +kernel
theorem dX4_takeVtg_53 : decode cX4_takeVtg 53 = .ok (.bipush 77, 2) := by decide +kernel
theorem dX4_takeVtg_55 : decode cX4_takeVtg 55 = .ok (.invokevirtual 54, 3) := by decide +kernel
theorem dX4_takeVtg_58 : decode cX4_takeVtg 58 = .ok (.aload_n 0, 1) := by decide +kernel
theorem dX4_takeVtg_59 : decode cX4_takeVtg 59 = .ok (.getfield 15, 3) := by decide +kernel
theorem dX4_takeVtg_62 : decode cX4_takeVtg 62 = .ok (.bipush 11, 2) := by decide +kernel
theorem dX4_takeVtg_64 : decode cX4_takeVtg 64 = .ok (.aload_n 1, 1) := by decide +kernel
theorem dX4_takeVtg_65 : decode cX4_takeVtg 65 = .ok (.iconst 5, 1) := by decide +kernel
theorem dX4_takeVtg_66 : decode cX4_takeVtg 66 = .ok (.iconst 2, 1) := by decide +kernel
theorem dX4_takeVtg_67 : decode cX4_takeVtg 67 = .ok (.iconst 4, 1) := by decide +kernel
theorem dX4_takeVtg_68 : decode cX4_takeVtg 68 = .ok (.invokevirtual 48, 3) := by decide +kernel
theorem dX4_takeVtg_71 : decode cX4_takeVtg 71 = .ok (.iastore, 1) := by decide +kernel
theorem dX4_takeVtg_72 : decode cX4_takeVtg 72 = .ok (.aload_n 1, 1) := by decide +kernel
theorem dX4_takeVtg_73 : decode cX4_takeVtg 73 = .ok (.bipush 6, 2) := by decide +kernel
theorem dX4_takeVtg_75 : decode cX4_takeVtg 75 = .ok (.bipush 78, 2) := by decide +kernel
theorem dX4_takeVtg_77 : decode cX4_takeVtg 77 = .ok (.invokevirtual 54, 3) := by decide +kernel
theorem dX4_takeVtg_80 : decode cX4_takeVtg 80 = .ok (.aload_n 0, 1) := by decide +kernel
theorem dX4_takeVtg_81 : decode cX4_takeVtg 81 = .ok (.getfield 15, 3) := by decide +kernel
theorem dX4_takeVtg_84 : decode cX4_takeVtg 84 = .ok (.bipush 16, 2) := by decide +kernel
theorem dX4_takeVtg_86 : decode cX4_takeVtg 86 = .ok (.aload_n 1, 1) := by decide +kernel
theorem dX4_takeVtg_87 : decode cX4_takeVtg 87 = .ok (.bipush 7, 2) := by decide +kernel
theorem dX4_takeVtg_89 : decode cX4_takeVtg 89 = .ok (.iconst 2, 1) := by decide +kernel
theorem dX4_takeVtg_90 : decode cX4_takeVtg 90 = .ok (.iconst 4, 1) := by decide +kernel
theorem dX4_takeVtg_91 : decode cX4_takeVtg 91 = .ok (.invokevirtual 48, 3) := by decide +kernel
theorem dX4_takeVtg_94 : decode cX4_takeVtg 94 = .ok (.iastore, 1) := by decide +kernel
theorem dX4_takeVtg_95 : decode cX4_takeVtg 95 = .ok (.aload_n 1, 1) := by decide +kernel
theorem dX4_takeVtg_96 : decode cX4_takeVtg 96 = .ok (.bipush 8, 2) := by decide +kernel
theorem dX4_takeVtg_98 : decode cX4_takeVtg 98 = .ok (.bipush 75, 2) := by decide +kernel
theorem dX4_takeVtg_100 : decode cX4_takeVtg 100 = .ok (.invokevirtual 54, 3) := by decide +kernel
theorem dX4_takeVtg_103 : decode cX4_takeVtg 103 = .ok (.aload_n 0, 1) := by decide +kernel
theorem dX4_takeVtg_104 : decode cX4_takeVtg 104 = .ok (.getfield 15, 3) := by decide +kernel
theorem dX4_takeVtg_107 : decode cX4_takeVtg 107 = .ok (.bipush 17, 2) := by decide +kernel
theorem dX4_takeVtg_109 : decode cX4_takeVtg 109 = .ok (.aload_n 1, 1) := by decide +kernel
theorem dX4_takeVtg_110 : decode cX4_takeVtg 110 = .ok (.bipush 9, 2) := by decide +kernel
theorem dX4_takeVtg_112 : decode cX4_takeVtg 112 = .ok (.ldc 88, 2) := by decide +kernel
theorem dX4_takeVtg_114 : decode cX4_takeVtg 114 = .ok (.invokevirtual 75, 3) := by decide +kernel
theorem dX4_takeVtg_117 : decode cX4_takeVtg 117 = .ok (.iastore, 1) := by decide +kernel
theorem dX4_takeVtg_118 : decode cX4_takeVtg 118 = .ok (.aload_n 0, 1) := by decide +kernel
theorem dX4_takeVtg_119 : decode cX4_takeVtg 119 = .ok (.aload_n 1, 1) := by decide +kernel
theorem dX4_takeVtg_120 : decode cX4_takeVtg 120 = .ok (.getfield 58, 3) := by decide +kernel
theorem dX4_takeVtg_123 : decode cX4_takeVtg 123 = .ok (.getstatic 93, 3) := by decide +kernel
theorem dX4_takeVtg_126 : decode cX4_takeVtg 126 = .ok (.invokevirtual 65, 3) := by decide +kernel
theorem dX4_takeVtg_129 : decode cX4_takeVtg 129 = .ok (.ireturn, 1) := by decide +kernel
theorem dX4_settle_0 : decode cX4_settle 0 = .ok (.iconst 0, 1) := by decide +kernel
theorem dX4_settle_1 : decode cX4_settle 1 = .ok (.istore_n 3, 1) := by decide +kernel
theorem dX4_settle_2 : decode cX4_settle 2 = .ok (.iload_n 1, 1) := by decide +kernel
theorem dX4_settle_3 : decode cX4_settle 3 = .ok (.ifCond .eq 31, 3) := by decide +kernel
theorem dX4_settle_6 : decode cX4_settle 6 = .ok (.iload_n 3, 1) := by decide +kernel
theorem dX4_settle_7 : decode cX4_settle 7 = .ok (.aload_n 2, 1) := by decide +kernel
theorem dX4_settle_8 : decode cX4_settle 8 = .ok (.arraylength, 1) := by decide +kernel
theorem dX4_settle_9 : decode cX4_settle 9 = .ok (.if_icmp .ge 25, 3) := by decide +kernel
theorem dX4_settle_12 : decode cX4_settle 12 = .ok (.aload_n 0, 1) := by decide +kernel
theorem dX4_settle_13 : decode cX4_settle 13 = .ok (.getfield 11, 3) := by decide +kernel
theorem dX4_settle_16 : decode cX4_settle 16 = .ok (.aload_n 2, 1) := by decide +kernel
theorem dX4_settle_17 : decode cX4_settle 17 = .ok (.iload_n 3, 1) := by decide +kernel
theorem dX4_settle_18 : decode cX4_settle 18 = .ok (.iaload, 1) := by decide +kernel
theorem dX4_settle_19 : decode cX4_settle 19 = .ok (.aload_n 0, 1) := by decide +kernel
theorem dX4_settle_20 : decode cX4_settle 20 = .ok (.getfield 15, 3) := by decide +kernel
theorem dX4_settle_23 : decode cX4_settle 23 = .ok (.aload_n 2, 1) := by decide +kernel
theorem dX4_settle_24 : decode cX4_settle 24 = .ok (.iload_n 3, 1) := by decide +kernel
theorem dX4_settle_25 : decode cX4_settle 25 = .ok (.iaload, 1) := by decide +kernel
theorem dX4_settle_26 : decode cX4_settle 26 = .ok (.iaload, 1) := by decide +kernel
theorem dX4_settle_27 : decode cX4_settle 27 = .ok (.iastore, 1) := by decide +kernel
theorem dX4_settle_28 : decode cX4_settle 28 = .ok (.iinc 3 1, 3) := by decide +kernel
theorem dX4_settle_31 : decode cX4_settle 31 = .ok (.goto (-29), 3) := by decide +kernel
theorem dX4_settle_34 : decode cX4_settle 34 = .ok (.iload_n 1, 1) := by decide +kernel
theorem dX4_settle_35 : decode cX4_settle 35 = .ok (.ireturn, 1) := by decide +kernel
theorem dX5_init_0 : decode cX5_init 0 = .ok (.aload_n 0, 1) := by decide +kernel
theorem dX5_init_1 : decode cX5_init 1 = .ok (.invokespecial 3, 3) := by decide +kernel
theorem dX5_init_4 : decode cX5_init 4 = .ok (.aload_n 0, 1) := by decide +kernel
theorem dX5_init_5 : decode cX5_init 5 = .ok (.bipush 78, 2) := by decide +kernel
theorem dX5_init_7 : decode cX5_init 7 = .ok (.newarray .byte, 2) := by decide +kernel
theorem dX5_init_9 : decode cX5_init 9 = .ok (.putfield 11, 3) := by decide +kernel
theorem dX5_init_12 : decode cX5_init 12 = .ok (.return_, 1) := by decide +kernel
theorem dX5_forget_0 : decode cX5_forget 0 = .ok (.aload_n 0, 1) := by decide +kernel
theorem dX5_forget_1 : decode cX5_forget 1 = .ok (.iconst 0, 1) := by decide +kernel
theorem dX5_forget_2 : decode cX5_forget 2 = .ok (.putfield 15, 3) := by decide +kernel
theorem dX5_forget_5 : decode cX5_forget 5 = .ok (.return_, 1) := by decide +kernel
theorem dX5_underWay_0 : decode cX5_underWay 0 = .ok (.aload_n 0, 1) := by decide +kernel
theorem dX5_underWay_1 : decode cX5_underWay 1 = .ok (.getfield 15, 3) := by decide +kernel
theorem dX5_underWay_4 : decode cX5_underWay 4 = .ok (.ifCond .ne 7, 3) := by decide +kernel
theorem dX5_underWay_7 : decode cX5_underWay 7 = .ok (.iconst 0, 1) := by decide +kernel
theorem dX5_underWay_8 : decode cX5_underWay 8 = .ok (.goto 9, 3) := by decide +kernel
theorem dX5_underWay_11 : decode cX5_underWay 11 = .ok (.aload_n 0, 1) := by decide +kernel
theorem dX5_underWay_12 : decode cX5_underWay 12 = .ok (.getfield 19, 3) := by decide +kernel
theorem dX5_underWay_15 : decode cX5_underWay 15 = .ok (.iconst 1, 1) := by decide +kernel
theorem dX5_underWay_16 : decode cX5_underWay 16 = .ok (.iadd, 1) := by decide +kernel
theorem dX5_underWay_17 : decode cX5_underWay 17 = .ok (.ireturn, 1) := by decide +kernel
theorem dX5_at_0 : decode cX5_at 0 = .ok (.iload_n 1, 1) := by decide +kernel
theorem dX5_at_1 : decode cX5_at 1 = .ok (.ifCond .lt 26, 3) := by decide +kernel
theorem dX5_at_4 : decode cX5_at 4 = .ok (.iload_n 1, 1) := by decide +kernel
theorem dX5_at_5 : decode cX5_at 5 = .ok (.aload_n 0, 1) := by decide +kernel
theorem dX5_at_6 : decode cX5_at 6 = .ok (.getfield 19, 3) := by decide +kernel
theorem dX5_at_9 : decode cX5_at 9 = .ok (.if_icmp .ge 18, 3) := by decide +kernel
theorem dX5_at_12 : decode cX5_at 12 = .ok (.iload_n 1, 1) := by decide +kernel
theorem dX5_at_13 : decode cX5_at 13 = .ok (.bipush 78, 2) := by decide +kernel
theorem dX5_at_15 : decode cX5_at 15 = .ok (.if_icmp .ge 12, 3) := by decide +kernel
theorem dX5_at_18 : decode cX5_at 18 = .ok (.aload_n 0, 1) := by decide +kernel
theorem dX5_at_19 : decode cX5_at 19 = .ok (.getfield 11, 3) := by decide +kernel
theorem dX5_at_22 : decode cX5_at 22 = .ok (.iload_n 1, 1) := by decide +kernel
theorem dX5_at_23 : decode cX5_at 23 = .ok (.baload, 1) := by decide +kernel
theorem dX5_at_24 : decode cX5_at 24 = .ok (.goto 5, 3) := by decide +kernel
theorem dX5_at_27 : decode cX5_at 27 = .ok (.ldc 22, 2) := by decide +kernel
theorem dX5_at_29 : decode cX5_at 29 = .ok (.ireturn, 1) := by decide +kernel
theorem dX5_hear_0 : decode cX5_hear 0 = .ok (.iload_n 1, 1) := by decide +kernel
theorem dX5_hear_1 : decode cX5_hear 1 = .ok (.bipush 36, 2) := by decide +kernel
theorem dX5_hear_3 : decode cX5_hear 3 = .ok (.if_icmp .eq 9, 3) := by decide +kernel
theorem dX5_hear_6 : decode cX5_hear 6 = .ok (.iload_n 1, 1) := by decide +kernel
theorem dX5_hear_7 : decode cX5_hear 7 = .ok (.bipush 33, 2) := by decide +kernel
theorem dX5_hear_9 : decode cX5_hear 9 = .ok (.if_icmp .ne 9, 3) := by decide +kernel
theorem dX5_hear_12 : decode cX5_hear 12 = .ok (.aload_n 0, 1) := by decide +kernel
theorem dX5_hear_13 : decode cX5_hear 13 = .ok (.iload_n 1, 1) := by decide +kernel
theorem dX5_hear_14 : decode cX5_hear 14 = .ok (.invokevirtual 23, 3) := by decide +kernel
theorem dX5_hear_17 : decode cX5_hear 17 = .ok (.ireturn, 1) := by decide +kernel
theorem dX5_hear_18 : decode cX5_hear 18 = .ok (.aload_n 0, 1) := by decide +kernel
theorem dX5_hear_19 : decode cX5_hear 19 = .ok (.getfield 15, 3) := by decide +kernel
theorem dX5_hear_22 : decode cX5_hear 22 = .ok (.tableswitch 114 1 5 #[34, 66, 73, 80, 97], 34) := by decide +kernel
theorem dX5_hear_56 : decode cX5_hear 56 = .ok (.iload_n 1, 1) := by decide +kernel
theorem dX5_hear_57 : decode cX5_hear 57 = .ok (.bipush 42, 2) := by decide +kernel
theorem dX5_hear_59 : decode cX5_hear 59 = .ok (.if_icmp .ne 23, 3) := by decide +kernel
theorem dX5_hear_62 : decode cX5_hear 62 = .ok (.aload_n 0, 1) := by decide +kernel
theorem dX5_hear_63 : decode cX5_hear 63 = .ok (.aload_n 0, 1) := by decide +kernel
theorem dX5_hear_64 : decode cX5_hear 64 = .ok (.getfield 19, 3) := by decide +kernel
theorem dX5_hear_67 : decode cX5_hear 67 = .ok (.ifCond .le 7, 3) := by decide +kernel
theorem dX5_hear_70 : decode cX5_hear 70 = .ok (.iconst 1, 1) := by decide +kernel
theorem dX5_hear_71 : decode cX5_hear 71 = .ok (.goto 4, 3) := by decide +kernel
theorem dX5_hear_74 : decode cX5_hear 74 = .ok (.iconst 0, 1) := by decide +kernel
theorem dX5_hear_75 : decode cX5_hear 75 = .ok (.iconst 2, 1) := by decide +kernel
theorem dX5_hear_76 : decode cX5_hear 76 = .ok (.invokevirtual 27, 3) := by decide +kernel
theorem dX5_hear_79 : decode cX5_hear 79 = .ok (.goto 8, 3) := by decide +kernel
theorem dX5_hear_82 : decode cX5_hear 82 = .ok (.aload_n 0, 1) := by decide +kernel
theorem dX5_hear_83 : decode cX5_hear 83 = .ok (.iload_n 1, 1) := by decide +kernel
theorem dX5_hear_84 : decode cX5_hear 84 = .ok (.invokevirtual 31, 3) := by decide +kernel
theorem dX5_hear_87 : decode cX5_hear 87 = .ok (.ireturn, 1) := by decide +kernel
theorem dX5_hear_88 : decode cX5_hear 88 = .ok (.aload_n 0, 1) := by decide +kernel
theorem dX5_hear_89 : decode cX5_hear 89 = .ok (.iload_n 1, 1) := by decide +kernel
theorem dX5_hear_90 : decode cX5_hear 90 = .ok (.iconst 3, 1) := by decide +kernel
theorem dX5_hear_91 : decode cX5_hear 91 = .ok (.invokevirtual 34, 3) := by decide +kernel
theorem dX5_hear_94 : decode cX5_hear 94 = .ok (.ireturn, 1) := by decide +kernel
theorem dX5_hear_95 : decode cX5_hear 95 = .ok (.aload_n 0, 1) := by decide +kernel
theorem dX5_hear_96 : decode cX5_hear 96 = .ok (.iload_n 1, 1) := by decide +kernel
theorem dX5_hear_97 : decode cX5_hear 97 = .ok (.iconst 4, 1) := by decide +kernel
theorem dX5_hear_98 : decode cX5_hear 98 = .ok (.invokevirtual 34, 3) := by decide +kernel
theorem dX5_hear_101 : decode cX5_hear 101 = .ok (.ireturn, 1) := by decide +kernel
theorem dX5_hear_102 : decode cX5_hear 102 = .ok (.aload_n 0, 1) := by decide +kernel
theorem dX5_hear_103 : decode cX5_hear 103 = .ok (.iload_n 1, 1) := by decide +kernel
theorem dX5_hear_104 : decode cX5_hear 104 = .ok (.bipush 13, 2) := by decide +kernel
theorem dX5_hear_106 : decode cX5_hear 106 = .ok (.if_icmp .ne 7, 3) := by decide +kernel
theorem dX5_hear_109 : decode cX5_hear 109 = .ok (.iconst 1, 1) := by decide +kernel
theorem dX5_hear_110 : decode cX5_hear 110 = .ok (.goto 4, 3) := by decide +kernel
theorem dX5_hear_113 : decode cX5_hear 113 = .ok (.iconst 0, 1) := by decide +kernel
theorem dX5_hear_114 : decode cX5_hear 114 = .ok (.iconst 5, 1) := by decide +kernel
theorem dX5_hear_115 : decode cX5_hear 115 = .ok (.invokevirtual 27, 3) := by decide +kernel
theorem dX5_hear_118 : decode cX5_hear 118 = .ok (.ireturn, 1) := by decide +kernel
theorem dX5_hear_119 : decode cX5_hear 119 = .ok (.aload_n 0, 1) := by decide +kernel
theorem dX5_hear_120 : decode cX5_hear 120 = .ok (.iconst 0, 1) := by decide +kernel
theorem dX5_hear_121 : decode cX5_hear 121 = .ok (.putfield 15, 3) := by decide +kernel
theorem dX5_hear_124 : decode cX5_hear 124 = .ok (.iload_n 1, 1) := by decide +kernel
theorem dX5_hear_125 : decode cX5_hear 125 = .ok (.bipush 10, 2) := by decide +kernel
theorem dX5_hear_127 : decode cX5_hear 127 = .ok (.if_icmp .ne 7, 3) := by decide +kernel
theorem dX5_hear_130 : decode cX5_hear 130 = .ok (.iconst 2, 1) := by decide +kernel
theorem dX5_hear_131 : decode cX5_hear 131 = .ok (.goto 4, 3) := by decide +kernel
theorem dX5_hear_134 : decode cX5_hear 134 = .ok (.iconst 1, 1) := by decide +kernel
theorem dX5_hear_135 : decode cX5_hear 135 = .ok (.ireturn, 1) := by decide +kernel
theorem dX5_hear_136 : decode cX5_hear 136 = .ok (.iconst 0, 1) := by decide +kernel
theorem dX5_hear_137 : decode cX5_hear 137 = .ok (.ireturn, 1) := by decide +kernel
theorem dX5_begin_0 : decode cX5_begin 0 = .ok (.aload_n 0, 1) := by decide +kernel
theorem dX5_begin_1 : decode cX5_begin 1 = .ok (.getfield 15, 3) := by decide +kernel
theorem dX5_begin_4 : decode cX5_begin 4 = .ok (.ifCond .ne 7, 3) := by decide +kernel
theorem dX5_begin_7 : decode cX5_begin 7 = .ok (.iconst 0, 1) := by decide +kernel
theorem dX5_begin_8 : decode cX5_begin 8 = .ok (.goto 4, 3) := by decide +kernel
theorem dX5_begin_11 : decode cX5_begin 11 = .ok (.iconst 1, 1) := by decide +kernel
theorem dX5_begin_12 : decode cX5_begin 12 = .ok (.istore_n 2, 1) := by decide +kernel
theorem dX5_begin_13 : decode cX5_begin 13 = .ok (.aload_n 0, 1) := by decide +kernel
theorem dX5_begin_14 : decode cX5_begin 14 = .ok (.iconst 1, 1) := by decide +kernel
theorem dX5_begin_15 : decode cX5_begin 15 = .ok (.putfield 15, 3) := by decide +kernel
theorem dX5_begin_18 : decode cX5_begin 18 = .ok (.aload_n 0, 1) := by decide +kernel
theorem dX5_begin_19 : decode cX5_begin 19 = .ok (.iload_n 1, 1) := by decide +kernel
theorem dX5_begin_20 : decode cX5_begin 20 = .ok (.putfield 38, 3) := by decide +kernel
theorem dX5_begin_23 : decode cX5_begin 23 = .ok (.aload_n 0, 1) := by decide +kernel
theorem dX5_begin_24 : decode cX5_begin 24 = .ok (.iconst 0, 1) := by decide +kernel
theorem dX5_begin_25 : decode cX5_begin 25 = .ok (.putfield 19, 3) := by decide +kernel
theorem dX5_begin_28 : decode cX5_begin 28 = .ok (.aload_n 0, 1) := by decide +kernel
theorem dX5_begin_29 : decode cX5_begin 29 = .ok (.iconst 0, 1) := by decide +kernel
theorem dX5_begin_30 : decode cX5_begin 30 = .ok (.putfield 41, 3) := by decide +kernel
theorem dX5_begin_33 : decode cX5_begin 33 = .ok (.aload_n 0, 1) := by decide +kernel
theorem dX5_begin_34 : decode cX5_begin 34 = .ok (.iconst 0, 1) := by decide +kernel
theorem dX5_begin_35 : decode cX5_begin 35 = .ok (.putfield 44, 3) := by decide +kernel
theorem dX5_begin_38 : decode cX5_begin 38 = .ok (.iload_n 2, 1) := by decide +kernel
theorem dX5_begin_39 : decode cX5_begin 39 = .ok (.ireturn, 1) := by decide +kernel
theorem dX5_step_0 : decode cX5_step 0 = .ok (.aload_n 0, 1) := by decide +kernel
theorem dX5_step_1 : decode cX5_step 1 = .ok (.iload_n 1, 1) := by decide +kernel
theorem dX5_step_2 : decode cX5_step 2 = .ok (.ifCond .eq 7, 3) := by decide +kernel
theorem dX5_step_5 : decode cX5_step 5 = .ok (.iload_n 2, 1) := by decide +kernel
theorem dX5_step_6 : decode cX5_step 6 = .ok (.goto 4, 3) := by decide +kernel
theorem dX5_step_9 : decode cX5_step 9 = .ok (.iconst 0, 1) := by decide +kernel
theorem dX5_step_10 : decode cX5_step 10 = .ok (.putfield 15, 3) := by decide +kernel
theorem dX5_step_13 : decode cX5_step 13 = .ok (.iload_n 1, 1) := by decide +kernel
theorem dX5_step_14 : decode cX5_step 14 = .ok (.ifCond .eq 7, 3) := by decide +kernel
theorem dX5_step_17 : decode cX5_step 17 = .ok (.iconst 0, 1) := by decide +kernel
theorem dX5_step_18 : decode cX5_step 18 = .ok (.goto 4, 3) := by decide +kernel
theorem dX5_step_21 : decode cX5_step 21 = .ok (.iconst 1, 1) := by decide +kernel
theorem dX5_step_22 : decode cX5_step 22 = .ok (.ireturn, 1) := by decide +kernel
theorem dX5_store_0 : decode cX5_store 0 = .ok (.iload_n 1, 1) := by decide +kernel
theorem dX5_store_1 : decode cX5_store 1 = .ok (.bipush 32, 2) := by decide +kernel
theorem dX5_store_3 : decode cX5_store 3 = .ok (.if_icmp .lt 25, 3) := by decide +kernel
theorem dX5_store_6 : decode cX5_store 6 = .ok (.iload_n 1, 1) := by decide +kernel
theorem dX5_store_7 : decode cX5_store 7 = .ok (.bipush 126, 2) := by decide +kernel
theorem dX5_store_9 : decode cX5_store 9 = .ok (.if_icmp .gt 19, 3) := by decide +kernel
theorem dX5_store_12 : decode cX5_store 12 = .ok (.aload_n 0, 1) := by decide +kernel
theorem dX5_store_13 : decode cX5_store 13 = .ok (.getfield 19, 3) := by decide +kernel
theorem dX5_store_16 : decode cX5_store 16 = .ok (.ifCond .lt 12, 3) := by decide +kernel
theorem dX5_store_19 : decode cX5_store 19 = .ok (.aload_n 0, 1) := by decide +kernel
theorem dX5_store_20 : decode cX5_store 20 = .ok (.getfield 19, 3) := by decide +kernel
theorem dX5_store_23 : decode cX5_store 23 = .ok (.bipush 78, 2) := by decide +kernel
theorem dX5_store_25 : decode cX5_store 25 = .ok (.if_icmp .lt 10, 3) := by decide +kernel
theorem dX5_store_28 : decode cX5_store 28 = .ok (.aload_n 0, 1) := by decide +kernel
theorem dX5_store_29 : decode cX5_store 29 = .ok (.iconst 0, 1) := by decide +kernel
theorem dX5_store_30 : decode cX5_store 30 = .ok (.iconst 0, 1) := by decide +kernel
theorem dX5_store_31 : decode cX5_store 31 = .ok (.invokevirtual 27, 3) := by decide +kernel
theorem dX5_store_34 : decode cX5_store 34 = .ok (.ireturn, 1) := by decide +kernel
theorem dX5_store_35 : decode cX5_store 35 = .ok (.aload_n 0, 1) := by decide +kernel
theorem dX5_store_36 : decode cX5_store 36 = .ok (.getfield 11, 3) := by decide +kernel
theorem dX5_store_39 : decode cX5_store 39 = .ok (.aload_n 0, 1) := by decide +kernel
theorem dX5_store_40 : decode cX5_store 40 = .ok (.getfield 19, 3) := by decide +kernel
theorem dX5_store_43 : decode cX5_store 43 = .ok (.iload_n 1, 1) := by decide +kernel
theorem dX5_store_44 : decode cX5_store 44 = .ok (.i2b, 1) := by decide +kernel
theorem dX5_store_45 : decode cX5_store 45 = .ok (.bastore, 1) := by decide +kernel
theorem dX5_store_46 : decode cX5_store 46 = .ok (.aload_n 0, 1) := by decide +kernel
theorem dX5_store_47 : decode cX5_store 47 = .ok (.dup, 1) := by decide +kernel
theorem dX5_store_48 : decode cX5_store 48 = .ok (.getfield 19, 3) := by decide +kernel
theorem dX5_store_51 : decode cX5_store 51 = .ok (.iconst 1, 1) := by decide +kernel
theorem dX5_store_52 : decode cX5_store 52 = .ok (.iadd, 1) := by decide +kernel
theorem dX5_store_53 : decode cX5_store 53 = .ok (.putfield 19, 3) := by decide +kernel
theorem dX5_store_56 : decode cX5_store 56 = .ok (.aload_n 0, 1) := by decide +kernel
theorem dX5_store_57 : decode cX5_store 57 = .ok (.dup, 1) := by decide +kernel
theorem dX5_store_58 : decode cX5_store 58 = .ok (.getfield 41, 3) := by decide +kernel
theorem dX5_store_61 : decode cX5_store 61 = .ok (.iload_n 1, 1) := by decide +kernel
theorem dX5_store_62 : decode cX5_store 62 = .ok (.ixor, 1) := by decide +kernel
theorem dX5_store_63 : decode cX5_store 63 = .ok (.putfield 41, 3) := by decide +kernel
theorem dX5_store_66 : decode cX5_store 66 = .ok (.iconst 0, 1) := by decide +kernel
theorem dX5_store_67 : decode cX5_store 67 = .ok (.ireturn, 1) := by decide +kernel
theorem dX5_hearDigit_0 : decode cX5_hearDigit 0 = .ok (.iload_n 1, 1) := by decide +kernel
theorem dX5_hearDigit_1 : decode cX5_hearDigit 1 = .ok (.bipush 48, 2) := by decide +kernel
theorem dX5_hearDigit_3 : decode cX5_hearDigit 3 = .ok (.if_icmp .lt 32, 3) := by decide +kernel
theorem dX5_hearDigit_6 : decode cX5_hearDigit 6 = .ok (.iload_n 1, 1) := by decide +kernel
theorem dX5_hearDigit_7 : decode cX5_hearDigit 7 = .ok (.bipush 57, 2) := by decide +kernel
theorem dX5_hearDigit_9 : decode cX5_hearDigit 9 = .ok (.if_icmp .gt 26, 3) := by decide +kernel
theorem dX5_hearDigit_12 : decode cX5_hearDigit 12 = .ok (.aload_n 0, 1) := by decide +kernel
theorem dX5_hearDigit_13 : decode cX5_hearDigit 13 = .ok (.aload_n 0, 1) := by decide +kernel
theorem dX5_hearDigit_14 : decode cX5_hearDigit 14 = .ok (.getfield 44, 3) := by decide +kernel
theorem dX5_hearDigit_17 : decode cX5_hearDigit 17 = .ok (.bipush 16, 2) := by decide +kernel
theorem dX5_hearDigit_19 : decode cX5_hearDigit 19 = .ok (.imul, 1) := by decide +kernel
theorem dX5_hearDigit_20 : decode cX5_hearDigit 20 = .ok (.iload_n 1, 1) := by decide +kernel
theorem dX5_hearDigit_21 : decode cX5_hearDigit 21 = .ok (.iadd, 1) := by decide +kernel
theorem dX5_hearDigit_22 : decode cX5_hearDigit 22 = .ok (.bipush 48, 2) := by decide +kernel
theorem dX5_hearDigit_24 : decode cX5_hearDigit 24 = .ok (.isub, 1) := by decide +kernel
theorem dX5_hearDigit_25 : decode cX5_hearDigit 25 = .ok (.putfield 44, 3) := by decide +kernel
theorem dX5_hearDigit_28 : decode cX5_hearDigit 28 = .ok (.aload_n 0, 1) := by decide +kernel
theorem dX5_hearDigit_29 : decode cX5_hearDigit 29 = .ok (.iconst 1, 1) := by decide +kernel
theorem dX5_hearDigit_30 : decode cX5_hearDigit 30 = .ok (.iload_n 2, 1) := by decide +kernel
theorem dX5_hearDigit_31 : decode cX5_hearDigit 31 = .ok (.invokevirtual 27, 3) := by decide +kernel
theorem dX5_hearDigit_34 : decode cX5_hearDigit 34 = .ok (.ireturn, 1) := by decide +kernel
theorem dX5_hearDigit_35 : decode cX5_hearDigit 35 = .ok (.iload_n 1, 1) := by decide +kernel
theorem dX5_hearDigit_36 : decode cX5_hearDigit 36 = .ok (.bipush 65, 2) := by decide +kernel
theorem dX5_hearDigit_38 : decode cX5_hearDigit 38 = .ok (.if_icmp .lt 35, 3) := by decide +kernel
theorem dX5_hearDigit_41 : decode cX5_hearDigit 41 = .ok (.iload_n 1, 1) := by decide +kernel
theorem dX5_hearDigit_42 : decode cX5_hearDigit 42 = .ok (.bipush 70, 2) := by decide +kernel
theorem dX5_hearDigit_44 : decode cX5_hearDigit 44 = .ok (.if_icmp .gt 29, 3) := by decide +kernel
theorem dX5_hearDigit_47 : decode cX5_hearDigit 47 = .ok (.aload_n 0, 1) := by decide +kernel
theorem dX5_hearDigit_48 : decode cX5_hearDigit 48 = .ok (.aload_n 0, 1) := by decide +kernel
theorem dX5_hearDigit_49 : decode cX5_hearDigit 49 = .ok (.getfield 44, 3) := by decide +kernel
theorem dX5_hearDigit_52 : decode cX5_hearDigit 52 = .ok (.bipush 16, 2) := by decide +kernel
theorem dX5_hearDigit_54 : decode cX5_hearDigit 54 = .ok (.imul, 1) := by decide +kernel
theorem dX5_hearDigit_55 : decode cX5_hearDigit 55 = .ok (.iload_n 1, 1) := by decide +kernel
theorem dX5_hearDigit_56 : decode cX5_hearDigit 56 = .ok (.iadd, 1) := by decide +kernel
theorem dX5_hearDigit_57 : decode cX5_hearDigit 57 = .ok (.bipush 65, 2) := by decide +kernel
theorem dX5_hearDigit_59 : decode cX5_hearDigit 59 = .ok (.isub, 1) := by decide +kernel
theorem dX5_hearDigit_60 : decode cX5_hearDigit 60 = .ok (.bipush 10, 2) := by decide +kernel
theorem dX5_hearDigit_62 : decode cX5_hearDigit 62 = .ok (.iadd, 1) := by decide +kernel
theorem dX5_hearDigit_63 : decode cX5_hearDigit 63 = .ok (.putfield 44, 3) := by decide +kernel
theorem dX5_hearDigit_66 : decode cX5_hearDigit 66 = .ok (.aload_n 0, 1) := by decide +kernel
theorem dX5_hearDigit_67 : decode cX5_hearDigit 67 = .ok (.iconst 1, 1) := by decide +kernel
theorem dX5_hearDigit_68 : decode cX5_hearDigit 68 = .ok (.iload_n 2, 1) := by decide +kernel
theorem dX5_hearDigit_69 : decode cX5_hearDigit 69 = .ok (.invokevirtual 27, 3) := by decide +kernel
theorem dX5_hearDigit_72 : decode cX5_hearDigit 72 = .ok (.ireturn, 1) := by decide +kernel
theorem dX5_hearDigit_73 : decode cX5_hearDigit 73 = .ok (.aload_n 0, 1) := by decide +kernel
theorem dX5_hearDigit_74 : decode cX5_hearDigit 74 = .ok (.iconst 0, 1) := by decide +kernel
theorem dX5_hearDigit_75 : decode cX5_hearDigit 75 = .ok (.iload_n 2, 1) := by decide +kernel
theorem dX5_hearDigit_76 : decode cX5_hearDigit 76 = .ok (.invokevirtual 27, 3) := by decide +kernel
theorem dX5_hearDigit_79 : decode cX5_hearDigit 79 = .ok (.ireturn, 1) := by decide +kernel
theorem dX6_init_0 : decode cX6_init 0 = .ok (.aload_n 0, 1) := by decide +kernel
theorem dX6_init_1 : decode cX6_init 1 = .ok (.invokespecial 3, 3) := by decide +kernel
theorem dX6_init_4 : decode cX6_init 4 = .ok (.aload_n 0, 1) := by decide +kernel
theorem dX6_init_5 : decode cX6_init 5 = .ok (.iload_n 1, 1) := by decide +kernel
theorem dX6_init_6 : decode cX6_init 6 = .ok (.ifCond .ge 7, 3) := by decide +kernel
theorem dX6_init_9 : decode cX6_init 9 = .ok (.iconst 0, 1) := by decide +kernel
theorem dX6_init_10 : decode cX6_init 10 = .ok (.goto 4, 3) := by decide +kernel
theorem dX6_init_13 : decode cX6_init 13 = .ok (.iload_n 1, 1) := by decide +kernel
theorem dX6_init_14 : decode cX6_init 14 = .ok (.newarray .byte, 2) := by decide +kernel
theorem dX6_init_16 : decode cX6_init 16 = .ok (.putfield 9, 3) := by decide +kernel
theorem dX6_init_19 : decode cX6_init 19 = .ok (.return_, 1) := by decide +kernel
theorem dX6_hasRoom_0 : decode cX6_hasRoom 0 = .ok (.aload_n 0, 1) := by decide +kernel
theorem dX6_hasRoom_1 : decode cX6_hasRoom 1 = .ok (.getfield 15, 3) := by decide +kernel
theorem dX6_hasRoom_4 : decode cX6_hasRoom 4 = .ok (.iload_n 1, 1) := by decide +kernel
theorem dX6_hasRoom_5 : decode cX6_hasRoom 5 = .ok (.iadd, 1) := by decide +kernel
theorem dX6_hasRoom_6 : decode cX6_hasRoom 6 = .ok (.aload_n 0, 1) := by decide +kernel
theorem dX6_hasRoom_7 : decode cX6_hasRoom 7 = .ok (.getfield 9, 3) := by decide +kernel
theorem dX6_hasRoom_10 : decode cX6_hasRoom 10 = .ok (.arraylength, 1) := by decide +kernel
theorem dX6_hasRoom_11 : decode cX6_hasRoom 11 = .ok (.if_icmp .gt 7, 3) := by decide +kernel
theorem dX6_hasRoom_14 : decode cX6_hasRoom 14 = .ok (.iconst 1, 1) := by decide +kernel
theorem dX6_hasRoom_15 : decode cX6_hasRoom 15 = .ok (.goto 4, 3) := by decide +kernel
theorem dX6_hasRoom_18 : decode cX6_hasRoom 18 = .ok (.iconst 0, 1) := by decide +kernel
theorem dX6_hasRoom_19 : decode cX6_hasRoom 19 = .ok (.ireturn, 1) := by decide +kernel
theorem dX6_add_0 : decode cX6_add 0 = .ok (.aload_n 0, 1) := by decide +kernel
theorem dX6_add_1 : decode cX6_add 1 = .ok (.getfield 15, 3) := by decide +kernel
theorem dX6_add_4 : decode cX6_add 4 = .ok (.ifCond .lt 36, 3) := by decide +kernel
theorem dX6_add_7 : decode cX6_add 7 = .ok (.aload_n 0, 1) := by decide +kernel
theorem dX6_add_8 : decode cX6_add 8 = .ok (.getfield 15, 3) := by decide +kernel
theorem dX6_add_11 : decode cX6_add 11 = .ok (.aload_n 0, 1) := by decide +kernel
theorem dX6_add_12 : decode cX6_add 12 = .ok (.getfield 9, 3) := by decide +kernel
theorem dX6_add_15 : decode cX6_add 15 = .ok (.arraylength, 1) := by decide +kernel
theorem dX6_add_16 : decode cX6_add 16 = .ok (.if_icmp .ge 24, 3) := by decide +kernel
theorem dX6_add_19 : decode cX6_add 19 = .ok (.aload_n 0, 1) := by decide +kernel
theorem dX6_add_20 : decode cX6_add 20 = .ok (.getfield 9, 3) := by decide +kernel
theorem dX6_add_23 : decode cX6_add 23 = .ok (.aload_n 0, 1) := by decide +kernel
theorem dX6_add_24 : decode cX6_add 24 = .ok (.getfield 15, 3) := by decide +kernel
theorem dX6_add_27 : decode cX6_add 27 = .ok (.iload_n 1, 1) := by decide +kernel
theorem dX6_add_28 : decode cX6_add 28 = .ok (.i2b, 1) := by decide +kernel
theorem dX6_add_29 : decode cX6_add 29 = .ok (.bastore, 1) := by decide +kernel
theorem dX6_add_30 : decode cX6_add 30 = .ok (.aload_n 0, 1) := by decide +kernel
theorem dX6_add_31 : decode cX6_add 31 = .ok (.dup, 1) := by decide +kernel
theorem dX6_add_32 : decode cX6_add 32 = .ok (.getfield 15, 3) := by decide +kernel
theorem dX6_add_35 : decode cX6_add 35 = .ok (.iconst 1, 1) := by decide +kernel
theorem dX6_add_36 : decode cX6_add 36 = .ok (.iadd, 1) := by decide +kernel
theorem dX6_add_37 : decode cX6_add 37 = .ok (.putfield 15, 3) := by decide +kernel
theorem dX6_add_40 : decode cX6_add 40 = .ok (.return_, 1) := by decide +kernel
theorem dX6_addWord_0 : decode cX6_addWord 0 = .ok (.aload_n 0, 1) := by decide +kernel
theorem dX6_addWord_1 : decode cX6_addWord 1 = .ok (.iload_n 1, 1) := by decide +kernel
theorem dX6_addWord_2 : decode cX6_addWord 2 = .ok (.bipush 24, 2) := by decide +kernel
theorem dX6_addWord_4 : decode cX6_addWord 4 = .ok (.iushr, 1) := by decide +kernel
theorem dX6_addWord_5 : decode cX6_addWord 5 = .ok (.invokevirtual 19, 3) := by decide +kernel
theorem dX6_addWord_8 : decode cX6_addWord 8 = .ok (.aload_n 0, 1) := by decide +kernel
theorem dX6_addWord_9 : decode cX6_addWord 9 = .ok (.iload_n 1, 1) := by decide +kernel
theorem dX6_addWord_10 : decode cX6_addWord 10 = .ok (.bipush 16, 2) := by decide +kernel
theorem dX6_addWord_12 : decode cX6_addWord 12 = .ok (.iushr, 1) := by decide +kernel
theorem dX6_addWord_13 : decode cX6_addWord 13 = .ok (.invokevirtual 19, 3) := by decide +kernel
theorem dX6_addWord_16 : decode cX6_addWord 16 = .ok (.aload_n 0, 1) := by decide +kernel
theorem dX6_addWord_17 : decode cX6_addWord 17 = .ok (.iload_n 1, 1) := by decide +kernel
theorem dX6_addWord_18 : decode cX6_addWord 18 = .ok (.bipush 8, 2) := by decide +kernel
theorem dX6_addWord_20 : decode cX6_addWord 20 = .ok (.iushr, 1) := by decide +kernel
theorem dX6_addWord_21 : decode cX6_addWord 21 = .ok (.invokevirtual 19, 3) := by decide +kernel
theorem dX6_addWord_24 : decode cX6_addWord 24 = .ok (.aload_n 0, 1) := by decide +kernel
theorem dX6_addWord_25 : decode cX6_addWord 25 = .ok (.iload_n 1, 1) := by decide +kernel
theorem dX6_addWord_26 : decode cX6_addWord 26 = .ok (.invokevirtual 19, 3) := by decide +kernel
theorem dX6_addWord_29 : decode cX6_addWord 29 = .ok (.return_, 1) := by decide +kernel
theorem dX6_addText_0 : decode cX6_addText 0 = .ok (.iconst 0, 1) := by decide +kernel
theorem dX6_addText_1 : decode cX6_addText 1 = .ok (.istore_n 2, 1) := by decide +kernel
theorem dX6_addText_2 : decode cX6_addText 2 = .ok (.iload_n 2, 1) := by decide +kernel
theorem dX6_addText_3 : decode cX6_addText 3 = .ok (.aload_n 1, 1) := by decide +kernel
theorem dX6_addText_4 : decode cX6_addText 4 = .ok (.invokevirtual 23, 3) := by decide +kernel
theorem dX6_addText_7 : decode cX6_addText 7 = .ok (.if_icmp .ge 18, 3) := by decide +kernel
theorem dX6_addText_10 : decode cX6_addText 10 = .ok (.aload_n 0, 1) := by decide +kernel
theorem dX6_addText_11 : decode cX6_addText 11 = .ok (.aload_n 1, 1) := by decide +kernel
theorem dX6_addText_12 : decode cX6_addText 12 = .ok (.iload_n 2, 1) := by decide +kernel
theorem dX6_addText_13 : decode cX6_addText 13 = .ok (.invokevirtual 29, 3) := by decide +kernel
theorem dX6_addText_16 : decode cX6_addText 16 = .ok (.invokevirtual 19, 3) := by decide +kernel
theorem dX6_addText_19 : decode cX6_addText 19 = .ok (.iinc 2 1, 3) := by decide +kernel
theorem dX6_addText_22 : decode cX6_addText 22 = .ok (.goto (-20), 3) := by decide +kernel
theorem dX6_addText_25 : decode cX6_addText 25 = .ok (.return_, 1) := by decide +kernel
theorem dX6_at_0 : decode cX6_at 0 = .ok (.iload_n 1, 1) := by decide +kernel
theorem dX6_at_1 : decode cX6_at 1 = .ok (.ifCond .lt 33, 3) := by decide +kernel
theorem dX6_at_4 : decode cX6_at 4 = .ok (.iload_n 1, 1) := by decide +kernel
theorem dX6_at_5 : decode cX6_at 5 = .ok (.aload_n 0, 1) := by decide +kernel
theorem dX6_at_6 : decode cX6_at 6 = .ok (.getfield 15, 3) := by decide +kernel
theorem dX6_at_9 : decode cX6_at 9 = .ok (.if_icmp .ge 25, 3) := by decide +kernel
theorem dX6_at_12 : decode cX6_at 12 = .ok (.iload_n 1, 1) := by decide +kernel
theorem dX6_at_13 : decode cX6_at 13 = .ok (.aload_n 0, 1) := by decide +kernel
theorem dX6_at_14 : decode cX6_at 14 = .ok (.getfield 9, 3) := by decide +kernel
theorem dX6_at_17 : decode cX6_at 17 = .ok (.arraylength, 1) := by decide +kernel
theorem dX6_at_18 : decode cX6_at 18 = .ok (.if_icmp .ge 16, 3) := by decide +kernel
theorem dX6_at_21 : decode cX6_at 21 = .ok (.aload_n 0, 1) := by decide +kernel
theorem dX6_at_22 : decode cX6_at 22 = .ok (.getfield 9, 3) := by decide +kernel
theorem dX6_at_25 : decode cX6_at 25 = .ok (.iload_n 1, 1) := by decide +kernel
theorem dX6_at_26 : decode cX6_at 26 = .ok (.baload, 1) := by decide +kernel
theorem dX6_at_27 : decode cX6_at 27 = .ok (.sipush 255, 3) := by decide +kernel
theorem dX6_at_30 : decode cX6_at 30 = .ok (.iand, 1) := by decide +kernel
theorem dX6_at_31 : decode cX6_at 31 = .ok (.goto 5, 3) := by decide +kernel
theorem dX6_at_34 : decode cX6_at 34 = .ok (.ldc 33, 2) := by decide +kernel
theorem dX6_at_36 : decode cX6_at 36 = .ok (.ireturn, 1) := by decide +kernel
theorem dX7_init_0 : decode cX7_init 0 = .ok (.aload_n 0, 1) := by decide +kernel
theorem dX7_init_1 : decode cX7_init 1 = .ok (.invokespecial 3, 3) := by decide +kernel
theorem dX7_init_4 : decode cX7_init 4 = .ok (.aload_n 0, 1) := by decide +kernel
theorem dX7_init_5 : decode cX7_init 5 = .ok (.bipush 24, 2) := by decide +kernel
theorem dX7_init_7 : decode cX7_init 7 = .ok (.newarray .int, 2) := by decide +kernel
theorem dX7_init_9 : decode cX7_init 9 = .ok (.putfield 11, 3) := by decide +kernel
theorem dX7_init_12 : decode cX7_init 12 = .ok (.aload_n 0, 1) := by decide +kernel
theorem dX7_init_13 : decode cX7_init 13 = .ok (.iconst 3, 1) := by decide +kernel
theorem dX7_init_14 : decode cX7_init 14 = .ok (.newarray .int, 2) := by decide +kernel
theorem dX7_init_16 : decode cX7_init 16 = .ok (.putfield 15, 3) := by decide +kernel
theorem dX7_init_19 : decode cX7_init 19 = .ok (.aload_n 0, 1) := by decide +kernel
theorem dX7_init_20 : decode cX7_init 20 = .ok (.bipush 60, 2) := by decide +kernel
theorem dX7_init_22 : decode cX7_init 22 = .ok (.newarray .byte, 2) := by decide +kernel
theorem dX7_init_24 : decode cX7_init 24 = .ok (.putfield 18, 3) := by decide +kernel
theorem dX7_init_27 : decode cX7_init 27 = .ok (.return_, 1) := by decide +kernel
theorem dX7_bitsOf_0 : decode cX7_bitsOf 0 = .ok (.iload_n 0, 1) := by decide +kernel
theorem dX7_bitsOf_1 : decode cX7_bitsOf 1 = .ok (.tableswitch 95 1 18 #[87, 87, 87, 87, 91, 95, 95, 95, 95, 95, 95, 95, 95, 95, 95, 95, 95, 87], 87) := by decide +kernel
theorem dX7_bitsOf_88 : decode cX7_bitsOf 88 = .ok (.sipush 168, 3) := by decide +kernel
theorem dX7_bitsOf_91 : decode cX7_bitsOf 91 = .ok (.ireturn, 1) := by decide +kernel
theorem dX7_bitsOf_92 : decode cX7_bitsOf 92 = .ok (.sipush 424, 3) := by decide +kernel
theorem dX7_bitsOf_95 : decode cX7_bitsOf 95 = .ok (.ireturn, 1) := by decide +kernel
theorem dX7_bitsOf_96 : decode cX7_bitsOf 96 = .ok (.iconst 0, 1) := by decide +kernel
theorem dX7_bitsOf_97 : decode cX7_bitsOf 97 = .ok (.ireturn, 1) := by decide +kernel
theorem dX7_layoutOf_0 : decode cX7_layoutOf 0 = .ok (.iload_n 0, 1) := by decide +kernel
theorem dX7_layoutOf_1 : decode cX7_layoutOf 1 = .ok (.lookupswitch 47 #[(4, 35), (5, 39), (18, 43)], 35) := by decide +kernel
theorem dX7_layoutOf_36 : decode cX7_layoutOf 36 = .ok (.getstatic 22, 3) := by decide +kernel
theorem dX7_layoutOf_39 : decode cX7_layoutOf 39 = .ok (.areturn, 1) := by decide +kernel
theorem dX7_layoutOf_40 : decode cX7_layoutOf 40 = .ok (.getstatic 25, 3) := by decide +kernel
theorem dX7_layoutOf_43 : decode cX7_layoutOf 43 = .ok (.areturn, 1) := by decide +kernel
theorem dX7_layoutOf_44 : decode cX7_layoutOf 44 = .ok (.getstatic 28, 3) := by decide +kernel
theorem dX7_layoutOf_47 : decode cX7_layoutOf 47 = .ok (.areturn, 1) := by decide +kernel
theorem dX7_layoutOf_48 : decode cX7_layoutOf 48 = .ok (.getstatic 31, 3) := by decide +kernel
theorem dX7_layoutOf_51 : decode cX7_layoutOf 51 = .ok (.areturn, 1) := by decide +kernel
theorem dX7_hasSign_0 : decode cX7_hasSign 0 = .ok (.iload_n 0, 1) := by decide +kernel
theorem dX7_hasSign_1 : decode cX7_hasSign 1 = .ok (.iconst 3, 1) := by decide +kernel
theorem dX7_hasSign_2 : decode cX7_hasSign 2 = .ok (.if_icmp .eq 15, 3) := by decide +kernel
theorem dX7_hasSign_5 : decode cX7_hasSign 5 = .ok (.iload_n 0, 1) := by decide +kernel
theorem dX7_hasSign_6 : decode cX7_hasSign 6 = .ok (.bipush 6, 2) := by decide +kernel
theorem dX7_hasSign_8 : decode cX7_hasSign 8 = .ok (.if_icmp .eq 9, 3) := by decide +kernel
theorem dX7_hasSign_11 : decode cX7_hasSign 11 = .ok (.iload_n 0, 1) := by decide +kernel
theorem dX7_hasSign_12 : decode cX7_hasSign 12 = .ok (.bipush 7, 2) := by decide +kernel
theorem dX7_hasSign_14 : decode cX7_hasSign 14 = .ok (.if_icmp .ne 7, 3) := by decide +kernel
theorem dX7_hasSign_17 : decode cX7_hasSign 17 = .ok (.iconst 1, 1) := by decide +kernel
theorem dX7_hasSign_18 : decode cX7_hasSign 18 = .ok (.goto 4, 3) := by decide +kernel
theorem dX7_hasSign_21 : decode cX7_hasSign 21 = .ok (.iconst 0, 1) := by decide +kernel
theorem dX7_hasSign_22 : decode cX7_hasSign 22 = .ok (.ireturn, 1) := by decide +kernel
theorem dX7_begin_0 : decode cX7_begin 0 = .ok (.aload_n 0, 1) := by decide +kernel
theorem dX7_begin_1 : decode cX7_begin 1 = .ok (.getfield 11, 3) := by decide +kernel
theorem dX7_begin_4 : decode cX7_begin 4 = .ok (.ldc 34, 2) := by decide +kernel
theorem dX7_begin_6 : decode cX7_begin 6 = .ok (.invokestatic 35, 3) := by decide +kernel
theorem dX7_begin_9 : decode cX7_begin 9 = .ok (.aload_n 0, 1) := by decide +kernel
theorem dX7_begin_10 : decode cX7_begin 10 = .ok (.getfield 15, 3) := by decide +kernel
theorem dX7_begin_13 : decode cX7_begin 13 = .ok (.iconst 0, 1) := by decide +kernel
theorem dX7_begin_14 : decode cX7_begin 14 = .ok (.invokestatic 35, 3) := by decide +kernel
theorem dX7_begin_17 : decode cX7_begin 17 = .ok (.aload_n 0, 1) := by decide +kernel
theorem dX7_begin_18 : decode cX7_begin 18 = .ok (.getfield 11, 3) := by decide +kernel
theorem dX7_begin_21 : decode cX7_begin 21 = .ok (.iconst 0, 1) := by decide +kernel
theorem dX7_begin_22 : decode cX7_begin 22 = .ok (.iload_n 1, 1) := by decide +kernel
theorem dX7_begin_23 : decode cX7_begin 23 = .ok (.iastore, 1) := by decide +kernel
theorem dX7_begin_24 : decode cX7_begin 24 = .ok (.aload_n 0, 1) := by decide +kernel
theorem dX7_begin_25 : decode cX7_begin 25 = .ok (.getfield 11, 3) := by decide +kernel
theorem dX7_begin_28 : decode cX7_begin 28 = .ok (.bipush 23, 2) := by decide +kernel
theorem dX7_begin_30 : decode cX7_begin 30 = .ok (.iconst 0, 1) := by decide +kernel
theorem dX7_begin_31 : decode cX7_begin 31 = .ok (.iastore, 1) := by decide +kernel
theorem dX7_begin_32 : decode cX7_begin 32 = .ok (.return_, 1) := by decide +kernel
theorem dX7_learn_0 : decode cX7_learn 0 = .ok (.iload_n 1, 1) := by decide +kernel
theorem dX7_learn_1 : decode cX7_learn 1 = .ok (.invokestatic 41, 3) := by decide +kernel
theorem dX7_learn_4 : decode cX7_learn 4 = .ok (.astore_n 3, 1) := by decide +kernel
theorem dX7_learn_5 : decode cX7_learn 5 = .ok (.bipush 38, 2) := by decide +kernel
theorem dX7_learn_7 : decode cX7_learn 7 = .ok (.istore 4, 2) := by decide +kernel
theorem dX7_learn_9 : decode cX7_learn 9 = .ok (.iconst 0, 1) := by decide +kernel
theorem dX7_learn_10 : decode cX7_learn 10 = .ok (.istore 5, 2) := by decide +kernel
theorem dX7_learn_12 : decode cX7_learn 12 = .ok (.iload 5, 2) := by decide +kernel
theorem dX7_learn_14 : decode cX7_learn 14 = .ok (.iconst 1, 1) := by decide +kernel
theorem dX7_learn_15 : decode cX7_learn 15 = .ok (.iadd, 1) := by decide +kernel
theorem dX7_learn_16 : decode cX7_learn 16 = .ok (.aload_n 3, 1) := by decide +kernel
theorem dX7_learn_17 : decode cX7_learn 17 = .ok (.arraylength, 1) := by decide +kernel
theorem dX7_learn_18 : decode cX7_learn 18 = .ok (.if_icmp .ge 113, 3) := by decide +kernel
theorem dX7_learn_21 : decode cX7_learn 21 = .ok (.aload_n 3, 1) := by decide +kernel
theorem dX7_learn_22 : decode cX7_learn 22 = .ok (.iload 5, 2) := by decide +kernel
theorem dX7_learn_24 : decode cX7_learn 24 = .ok (.iaload, 1) := by decide +kernel
theorem dX7_learn_25 : decode cX7_learn 25 = .ok (.istore 6, 2) := by decide +kernel
theorem dX7_learn_27 : decode cX7_learn 27 = .ok (.aload_n 3, 1) := by decide +kernel
theorem dX7_learn_28 : decode cX7_learn 28 = .ok (.iload 5, 2) := by decide +kernel
theorem dX7_learn_30 : decode cX7_learn 30 = .ok (.iconst 1, 1) := by decide +kernel
theorem dX7_learn_31 : decode cX7_learn 31 = .ok (.iadd, 1) := by decide +kernel
theorem dX7_learn_32 : decode cX7_learn 32 = .ok (.iaload, 1) := by decide +kernel
theorem dX7_learn_33 : decode cX7_learn 33 = .ok (.istore 7, 2) := by decide +kernel
theorem dX7_learn_35 : decode cX7_learn 35 = .ok (.iload 6, 2) := by decide +kernel
theorem dX7_learn_37 : decode cX7_learn 37 = .ok (.bipush 30, 2) := by decide +kernel
theorem dX7_learn_39 : decode cX7_learn 39 = .ok (.if_icmp .lt 23, 3) := by decide +kernel
theorem dX7_learn_42 : decode cX7_learn 42 = .ok (.aload_n 0, 1) := by decide +kernel
theorem dX7_learn_43 : decode cX7_learn 43 = .ok (.iload 6, 2) := by decide +kernel
theorem dX7_learn_45 : decode cX7_learn 45 = .ok (.bipush 30, 2) := by decide +kernel
theorem dX7_learn_47 : decode cX7_learn 47 = .ok (.isub, 1) := by decide +kernel
theorem dX7_learn_48 : decode cX7_learn 48 = .ok (.aload_n 2, 1) := by decide +kernel
theorem dX7_learn_49 : decode cX7_learn 49 = .ok (.iload 4, 2) := by decide +kernel
theorem dX7_learn_51 : decode cX7_learn 51 = .ok (.iload 7, 2) := by decide +kernel
theorem dX7_learn_53 : decode cX7_learn 53 = .ok (.bipush 6, 2) := by decide +kernel
theorem dX7_learn_55 : decode cX7_learn 55 = .ok (.idiv, 1) := by decide +kernel
theorem dX7_learn_56 : decode cX7_learn 56 = .ok (.invokevirtual 45, 3) := by decide +kernel
theorem dX7_learn_59 : decode cX7_learn 59 = .ok (.goto 59, 3) := by decide +kernel
theorem dX7_learn_62 : decode cX7_learn 62 = .ok (.iload 6, 2) := by decide +kernel
theorem dX7_learn_64 : decode cX7_learn 64 = .ok (.ifCond .lt 54, 3) := by decide +kernel
theorem dX7_learn_67 : decode cX7_learn 67 = .ok (.iload 6, 2) := by decide +kernel
theorem dX7_learn_69 : decode cX7_learn 69 = .ok (.bipush 24, 2) := by decide +kernel
theorem dX7_learn_71 : decode cX7_learn 71 = .ok (.if_icmp .ge 47, 3) := by decide +kernel
theorem dX7_learn_74 : decode cX7_learn 74 = .ok (.aload_n 2, 1) := by decide +kernel
theorem dX7_learn_75 : decode cX7_learn 75 = .ok (.iload 4, 2) := by decide +kernel
theorem dX7_learn_77 : decode cX7_learn 77 = .ok (.iload 7, 2) := by decide +kernel
theorem dX7_learn_79 : decode cX7_learn 79 = .ok (.invokevirtual 49, 3) := by decide +kernel
theorem dX7_learn_82 : decode cX7_learn 82 = .ok (.istore 8, 2) := by decide +kernel
theorem dX7_learn_84 : decode cX7_learn 84 = .ok (.aload_n 0, 1) := by decide +kernel
theorem dX7_learn_85 : decode cX7_learn 85 = .ok (.getfield 11, 3) := by decide +kernel
theorem dX7_learn_88 : decode cX7_learn 88 = .ok (.iload 6, 2) := by decide +kernel
theorem dX7_learn_90 : decode cX7_learn 90 = .ok (.iload 6, 2) := by decide +kernel
theorem dX7_learn_92 : decode cX7_learn 92 = .ok (.invokestatic 55, 3) := by decide +kernel
theorem dX7_learn_95 : decode cX7_learn 95 = .ok (.ifCond .eq 20, 3) := by decide +kernel
theorem dX7_learn_98 : decode cX7_learn 98 = .ok (.iload 8, 2) := by decide +kernel
theorem dX7_learn_100 : decode cX7_learn 100 = .ok (.bipush 32, 2) := by decide +kernel
theorem dX7_learn_102 : decode cX7_learn 102 = .ok (.iload 7, 2) := by decide +kernel
theorem dX7_learn_104 : decode cX7_learn 104 = .ok (.isub, 1) := by decide +kernel
theorem dX7_learn_105 : decode cX7_learn 105 = .ok (.ishl, 1) := by decide +kernel
theorem dX7_learn_106 : decode cX7_learn 106 = .ok (.bipush 32, 2) := by decide +kernel
theorem dX7_learn_108 : decode cX7_learn 108 = .ok (.iload 7, 2) := by decide +kernel
theorem dX7_learn_110 : decode cX7_learn 110 = .ok (.isub, 1) := by decide +kernel
theorem dX7_learn_111 : decode cX7_learn 111 = .ok (.ishr, 1) := by decide +kernel
theorem dX7_learn_112 : decode cX7_learn 112 = .ok (.goto 5, 3) := by decide +kernel
theorem dX7_learn_115 : decode cX7_learn 115 = .ok (.iload 8, 2) := by decide +kernel
theorem dX7_learn_117 : decode cX7_learn 117 = .ok (.iastore, 1) := by decide +kernel
theorem dX7_learn_118 : decode cX7_learn 118 = .ok (.iload 4, 2) := by decide +kernel
theorem dX7_learn_120 : decode cX7_learn 120 = .ok (.iload 7, 2) := by decide +kernel
theorem dX7_learn_122 : decode cX7_learn 122 = .ok (.iadd, 1) := by decide +kernel
theorem dX7_learn_123 : decode cX7_learn 123 = .ok (.istore 4, 2) := by decide +kernel
theorem dX7_learn_125 : decode cX7_learn 125 = .ok (.iinc 5 2, 3) := by decide +kernel
theorem dX7_learn_128 : decode cX7_learn 128 = .ok (.goto (-116), 3) := by decide +kernel
theorem dX7_learn_131 : decode cX7_learn 131 = .ok (.aload_n 0, 1) := by decide +kernel
theorem dX7_learn_132 : decode cX7_learn 132 = .ok (.getfield 11, 3) := by decide +kernel
theorem dX7_learn_135 : decode cX7_learn 135 = .ok (.iconst 1, 1) := by decide +kernel
theorem dX7_learn_136 : decode cX7_learn 136 = .ok (.iload_n 1, 1) := by decide +kernel
theorem dX7_learn_137 : decode cX7_learn 137 = .ok (.iastore, 1) := by decide +kernel
theorem dX7_learn_138 : decode cX7_learn 138 = .ok (.aload_n 0, 1) := by decide +kernel
theorem dX7_learn_139 : decode cX7_learn 139 = .ok (.getfield 11, 3) := by decide +kernel
theorem dX7_learn_142 : decode cX7_learn 142 = .ok (.bipush 23, 2) := by decide +kernel
theorem dX7_learn_144 : decode cX7_learn 144 = .ok (.dup2, 1) := by decide +kernel
theorem dX7_learn_145 : decode cX7_learn 145 = .ok (.iaload, 1) := by decide +kernel
theorem dX7_learn_146 : decode cX7_learn 146 = .ok (.iconst 1, 1) := by decide +kernel
theorem dX7_learn_147 : decode cX7_learn 147 = .ok (.iadd, 1) := by decide +kernel
theorem dX7_learn_148 : decode cX7_learn 148 = .ok (.iastore, 1) := by decide +kernel
theorem dX7_learn_149 : decode cX7_learn 149 = .ok (.return_, 1) := by decide +kernel
theorem dX7_learnText_0 : decode cX7_learnText 0 = .ok (.iload_n 1, 1) := by decide +kernel
theorem dX7_learnText_1 : decode cX7_learnText 1 = .ok (.ifCond .lt 8, 3) := by decide +kernel
theorem dX7_learnText_4 : decode cX7_learnText 4 = .ok (.iload_n 1, 1) := by decide +kernel
theorem dX7_learnText_5 : decode cX7_learnText 5 = .ok (.iconst 3, 1) := by decide +kernel
theorem dX7_learnText_6 : decode cX7_learnText 6 = .ok (.if_icmp .lt 4, 3) := by decide +kernel
theorem dX7_learnText_9 : decode cX7_learnText 9 = .ok (.return_, 1) := by decide +kernel
theorem dX7_learnText_10 : decode cX7_learnText 10 = .ok (.iconst 0, 1) := by decide +kernel
theorem dX7_learnText_11 : decode cX7_learnText 11 = .ok (.istore 5, 2) := by decide +kernel
theorem dX7_learnText_13 : decode cX7_learnText 13 = .ok (.iconst 0, 1) := by decide +kernel
theorem dX7_learnText_14 : decode cX7_learnText 14 = .ok (.istore 6, 2) := by decide +kernel
theorem dX7_learnText_16 : decode cX7_learnText 16 = .ok (.iload 6, 2) := by decide +kernel
theorem dX7_learnText_18 : decode cX7_learnText 18 = .ok (.iload 4, 2) := by decide +kernel
theorem dX7_learnText_20 : decode cX7_learnText 20 = .ok (.if_icmp .ge 82, 3) := by decide +kernel
theorem dX7_learnText_23 : decode cX7_learnText 23 = .ok (.iload 6, 2) := by decide +kernel
theorem dX7_learnText_25 : decode cX7_learnText 25 = .ok (.bipush 20, 2) := by decide +kernel
theorem dX7_learnText_27 : decode cX7_learnText 27 = .ok (.if_icmp .ge 75, 3) := by decide +kernel
theorem dX7_learnText_30 : decode cX7_learnText 30 = .ok (.aload_n 2, 1) := by decide +kernel
theorem dX7_learnText_31 : decode cX7_learnText 31 = .ok (.iload_n 3, 1) := by decide +kernel
theorem dX7_learnText_32 : decode cX7_learnText 32 = .ok (.bipush 6, 2) := by decide +kernel
theorem dX7_learnText_34 : decode cX7_learnText 34 = .ok (.iload 6, 2) := by decide +kernel
theorem dX7_learnText_36 : decode cX7_learnText 36 = .ok (.imul, 1) := by decide +kernel
theorem dX7_learnText_37 : decode cX7_learnText 37 = .ok (.iadd, 1) := by decide +kernel
theorem dX7_learnText_38 : decode cX7_learnText 38 = .ok (.bipush 6, 2) := by decide +kernel
theorem dX7_learnText_40 : decode cX7_learnText 40 = .ok (.invokevirtual 49, 3) := by decide +kernel
theorem dX7_learnText_43 : decode cX7_learnText 43 = .ok (.istore 7, 2) := by decide +kernel
theorem dX7_learnText_45 : decode cX7_learnText 45 = .ok (.iload 7, 2) := by decide +kernel
theorem dX7_learnText_47 : decode cX7_learnText 47 = .ok (.ifCond .ne 6, 3) := by decide +kernel
theorem dX7_learnText_50 : decode cX7_learnText 50 = .ok (.goto 52, 3) := by decide +kernel
theorem dX7_learnText_53 : decode cX7_learnText 53 = .ok (.aload_n 0, 1) := by decide +kernel
theorem dX7_learnText_54 : decode cX7_learnText 54 = .ok (.getfield 18, 3) := by decide +kernel
theorem dX7_learnText_57 : decode cX7_learnText 57 = .ok (.iload_n 1, 1) := by decide +kernel
theorem dX7_learnText_58 : decode cX7_learnText 58 = .ok (.bipush 20, 2) := by decide +kernel
theorem dX7_learnText_60 : decode cX7_learnText 60 = .ok (.imul, 1) := by decide +kernel
theorem dX7_learnText_61 : decode cX7_learnText 61 = .ok (.iload 6, 2) := by decide +kernel
theorem dX7_learnText_63 : decode cX7_learnText 63 = .ok (.iadd, 1) := by decide +kernel
theorem dX7_learnText_64 : decode cX7_learnText 64 = .ok (.iload 7, 2) := by decide +kernel
theorem dX7_learnText_66 : decode cX7_learnText 66 = .ok (.bipush 32, 2) := by decide +kernel
theorem dX7_learnText_68 : decode cX7_learnText 68 = .ok (.if_icmp .ge 11, 3) := by decide +kernel
theorem dX7_learnText_71 : decode cX7_learnText 71 = .ok (.iload 7, 2) := by decide +kernel
theorem dX7_learnText_73 : decode cX7_learnText 73 = .ok (.bipush 64, 2) := by decide +kernel
theorem dX7_learnText_75 : decode cX7_learnText 75 = .ok (.iadd, 1) := by decide +kernel
theorem dX7_learnText_76 : decode cX7_learnText 76 = .ok (.goto 5, 3) := by decide +kernel
theorem dX7_learnText_79 : decode cX7_learnText 79 = .ok (.iload 7, 2) := by decide +kernel
theorem dX7_learnText_81 : decode cX7_learnText 81 = .ok (.i2b, 1) := by decide +kernel
theorem dX7_learnText_82 : decode cX7_learnText 82 = .ok (.bastore, 1) := by decide +kernel
theorem dX7_learnText_83 : decode cX7_learnText 83 = .ok (.iload 7, 2) := by decide +kernel
theorem dX7_learnText_85 : decode cX7_learnText 85 = .ok (.bipush 32, 2) := by decide +kernel
theorem dX7_learnText_87 : decode cX7_learnText 87 = .ok (.if_icmp .eq 9, 3) := by decide +kernel
theorem dX7_learnText_90 : decode cX7_learnText 90 = .ok (.iload 6, 2) := by decide +kernel
theorem dX7_learnText_92 : decode cX7_learnText 92 = .ok (.iconst 1, 1) := by decide +kernel
theorem dX7_learnText_93 : decode cX7_learnText 93 = .ok (.iadd, 1) := by decide +kernel
theorem dX7_learnText_94 : decode cX7_learnText 94 = .ok (.istore 5, 2) := by decide +kernel
theorem dX7_learnText_96 : decode cX7_learnText 96 = .ok (.iinc 6 1, 3) := by decide +kernel
theorem dX7_learnText_99 : decode cX7_learnText 99 = .ok (.goto (-83), 3) := by decide +kernel
theorem dX7_learnText_102 : decode cX7_learnText 102 = .ok (.aload_n 0, 1) := by decide +kernel
theorem dX7_learnText_103 : decode cX7_learnText 103 = .ok (.getfield 15, 3) := by decide +kernel
theorem dX7_learnText_106 : decode cX7_learnText 106 = .ok (.iload_n 1, 1) := by decide +kernel
theorem dX7_learnText_107 : decode cX7_learnText 107 = .ok (.iload 5, 2) := by decide +kernel
theorem dX7_learnText_109 : decode cX7_learnText 109 = .ok (.iastore, 1) := by decide +kernel
theorem dX7_learnText_110 : decode cX7_learnText 110 = .ok (.return_, 1) := by decide +kernel
theorem dX7_signOf_0 : decode cX7_signOf 0 = .ok (.iload_n 1, 1) := by decide +kernel
theorem dX7_signOf_1 : decode cX7_signOf 1 = .ok (.ifCond .lt 28, 3) := by decide +kernel
theorem dX7_signOf_4 : decode cX7_signOf 4 = .ok (.iload_n 1, 1) := by decide +kernel
theorem dX7_signOf_5 : decode cX7_signOf 5 = .ok (.iconst 3, 1) := by decide +kernel
theorem dX7_signOf_6 : decode cX7_signOf 6 = .ok (.if_icmp .ge 23, 3) := by decide +kernel
theorem dX7_signOf_9 : decode cX7_signOf 9 = .ok (.iload_n 2, 1) := by decide +kernel
theorem dX7_signOf_10 : decode cX7_signOf 10 = .ok (.ifCond .lt 19, 3) := by decide +kernel
theorem dX7_signOf_13 : decode cX7_signOf 13 = .ok (.iload_n 2, 1) := by decide +kernel
theorem dX7_signOf_14 : decode cX7_signOf 14 = .ok (.aload_n 0, 1) := by decide +kernel
theorem dX7_signOf_15 : decode cX7_signOf 15 = .ok (.getfield 15, 3) := by decide +kernel
theorem dX7_signOf_18 : decode cX7_signOf 18 = .ok (.iload_n 1, 1) := by decide +kernel
theorem dX7_signOf_19 : decode cX7_signOf 19 = .ok (.iaload, 1) := by decide +kernel
theorem dX7_signOf_20 : decode cX7_signOf 20 = .ok (.if_icmp .ge 9, 3) := by decide +kernel
theorem dX7_signOf_23 : decode cX7_signOf 23 = .ok (.iload_n 2, 1) := by decide +kernel
theorem dX7_signOf_24 : decode cX7_signOf 24 = .ok (.bipush 20, 2) := by decide +kernel
theorem dX7_signOf_26 : decode cX7_signOf 26 = .ok (.if_icmp .lt 6, 3) := by decide +kernel
theorem dX7_signOf_29 : decode cX7_signOf 29 = .ok (.ldc 34, 2) := by decide +kernel
theorem dX7_signOf_31 : decode cX7_signOf 31 = .ok (.ireturn, 1) := by decide +kernel
theorem dX7_signOf_32 : decode cX7_signOf 32 = .ok (.aload_n 0, 1) := by decide +kernel
theorem dX7_signOf_33 : decode cX7_signOf 33 = .ok (.getfield 18, 3) := by decide +kernel
theorem dX7_signOf_36 : decode cX7_signOf 36 = .ok (.iload_n 1, 1) := by decide +kernel
theorem dX7_signOf_37 : decode cX7_signOf 37 = .ok (.bipush 20, 2) := by decide +kernel
theorem dX7_signOf_39 : decode cX7_signOf 39 = .ok (.imul, 1) := by decide +kernel
theorem dX7_signOf_40 : decode cX7_signOf 40 = .ok (.iload_n 2, 1) := by decide +kernel
theorem dX7_signOf_41 : decode cX7_signOf 41 = .ok (.iadd, 1) := by decide +kernel
theorem dX7_signOf_42 : decode cX7_signOf 42 = .ok (.baload, 1) := by decide +kernel
theorem dX7_signOf_43 : decode cX7_signOf 43 = .ok (.ireturn, 1) := by decide +kernel
theorem dX7_tell_0 : decode cX7_tell 0 = .ok (.aload_n 2, 1) := by decide +kernel
theorem dX7_tell_1 : decode cX7_tell 1 = .ok (.invokevirtual 59, 3) := by decide +kernel
theorem dX7_tell_4 : decode cX7_tell 4 = .ok (.aload_n 2, 1) := by decide +kernel
theorem dX7_tell_5 : decode cX7_tell 5 = .ok (.iload_n 1, 1) := by decide +kernel
theorem dX7_tell_6 : decode cX7_tell 6 = .ok (.bipush 6, 2) := by decide +kernel
theorem dX7_tell_8 : decode cX7_tell 8 = .ok (.invokevirtual 62, 3) := by decide +kernel
theorem dX7_tell_11 : decode cX7_tell 11 = .ok (.aload_n 2, 1) := by decide +kernel
theorem dX7_tell_12 : decode cX7_tell 12 = .ok (.iconst 0, 1) := by decide +kernel
theorem dX7_tell_13 : decode cX7_tell 13 = .ok (.iconst 2, 1) := by decide +kernel
theorem dX7_tell_14 : decode cX7_tell 14 = .ok (.invokevirtual 62, 3) := by decide +kernel
theorem dX7_tell_17 : decode cX7_tell 17 = .ok (.aload_n 2, 1) := by decide +kernel
theorem dX7_tell_18 : decode cX7_tell 18 = .ok (.aload_n 0, 1) := by decide +kernel
theorem dX7_tell_19 : decode cX7_tell 19 = .ok (.getfield 11, 3) := by decide +kernel
theorem dX7_tell_22 : decode cX7_tell 22 = .ok (.iconst 0, 1) := by decide +kernel
theorem dX7_tell_23 : decode cX7_tell 23 = .ok (.iaload, 1) := by decide +kernel
theorem dX7_tell_24 : decode cX7_tell 24 = .ok (.bipush 30, 2) := by decide +kernel
theorem dX7_tell_26 : decode cX7_tell 26 = .ok (.invokevirtual 62, 3) := by decide +kernel
theorem dX7_tell_29 : decode cX7_tell 29 = .ok (.iload_n 1, 1) := by decide +kernel
theorem dX7_tell_30 : decode cX7_tell 30 = .ok (.invokestatic 41, 3) := by decide +kernel
theorem dX7_tell_33 : decode cX7_tell 33 = .ok (.astore_n 3, 1) := by decide +kernel
theorem dX7_tell_34 : decode cX7_tell 34 = .ok (.iconst 0, 1) := by decide +kernel
theorem dX7_tell_35 : decode cX7_tell 35 = .ok (.istore 4, 2) := by decide +kernel
theorem dX7_tell_37 : decode cX7_tell 37 = .ok (.iload 4, 2) := by decide +kernel
theorem dX7_tell_39 : decode cX7_tell 39 = .ok (.iconst 1, 1) := by decide +kernel
theorem dX7_tell_40 : decode cX7_tell 40 = .ok (.iadd, 1) := by decide +kernel
theorem dX7_tell_41 : decode cX7_tell 41 = .ok (.aload_n 3, 1) := by decide +kernel
theorem dX7_tell_42 : decode cX7_tell 42 = .ok (.arraylength, 1) := by decide +kernel
theorem dX7_tell_43 : decode cX7_tell 43 = .ok (.if_icmp .ge 101, 3) := by decide +kernel
theorem dX7_tell_46 : decode cX7_tell 46 = .ok (.aload_n 3, 1) := by decide +kernel
theorem dX7_tell_47 : decode cX7_tell 47 = .ok (.iload 4, 2) := by decide +kernel
theorem dX7_tell_49 : decode cX7_tell 49 = .ok (.iaload, 1) := by decide +kernel
theorem dX7_tell_50 : decode cX7_tell 50 = .ok (.istore 5, 2) := by decide +kernel
theorem dX7_tell_52 : decode cX7_tell 52 = .ok (.aload_n 3, 1) := by decide +kernel
theorem dX7_tell_53 : decode cX7_tell 53 = .ok (.iload 4, 2) := by decide +kernel
theorem dX7_tell_55 : decode cX7_tell 55 = .ok (.iconst 1, 1) := by decide +kernel
theorem dX7_tell_56 : decode cX7_tell 56 = .ok (.iadd, 1) := by decide +kernel
theorem dX7_tell_57 : decode cX7_tell 57 = .ok (.iaload, 1) := by decide +kernel
theorem dX7_tell_58 : decode cX7_tell 58 = .ok (.istore 6, 2) := by decide +kernel
theorem dX7_tell_60 : decode cX7_tell 60 = .ok (.iload 5, 2) := by decide +kernel
theorem dX7_tell_62 : decode cX7_tell 62 = .ok (.bipush 30, 2) := by decide +kernel
theorem dX7_tell_64 : decode cX7_tell 64 = .ok (.if_icmp .lt 21, 3) := by decide +kernel
theorem dX7_tell_67 : decode cX7_tell 67 = .ok (.aload_n 0, 1) := by decide +kernel
theorem dX7_tell_68 : decode cX7_tell 68 = .ok (.iload 5, 2) := by decide +kernel
theorem dX7_tell_70 : decode cX7_tell 70 = .ok (.bipush 30, 2) := by decide +kernel
theorem dX7_tell_72 : decode cX7_tell 72 = .ok (.isub, 1) := by decide +kernel
theorem dX7_tell_73 : decode cX7_tell 73 = .ok (.aload_n 2, 1) := by decide +kernel
theorem dX7_tell_74 : decode cX7_tell 74 = .ok (.iload 6, 2) := by decide +kernel
theorem dX7_tell_76 : decode cX7_tell 76 = .ok (.bipush 6, 2) := by decide +kernel
theorem dX7_tell_78 : decode cX7_tell 78 = .ok (.idiv, 1) := by decide +kernel
theorem dX7_tell_79 : decode cX7_tell 79 = .ok (.invokevirtual 66, 3) := by decide +kernel
theorem dX7_tell_82 : decode cX7_tell 82 = .ok (.goto 56, 3) := by decide +kernel
theorem dX7_tell_85 : decode cX7_tell 85 = .ok (.iload 5, 2) := by decide +kernel
theorem dX7_tell_87 : decode cX7_tell 87 = .ok (.ifCond .lt 26, 3) := by decide +kernel
theorem dX7_tell_90 : decode cX7_tell 90 = .ok (.iload 5, 2) := by decide +kernel
theorem dX7_tell_92 : decode cX7_tell 92 = .ok (.bipush 24, 2) := by decide +kernel
theorem dX7_tell_94 : decode cX7_tell 94 = .ok (.if_icmp .ge 19, 3) := by decide +kernel
theorem dX7_tell_97 : decode cX7_tell 97 = .ok (.aload_n 0, 1) := by decide +kernel
theorem dX7_tell_98 : decode cX7_tell 98 = .ok (.getfield 11, 3) := by decide +kernel
theorem dX7_tell_101 : decode cX7_tell 101 = .ok (.iload 5, 2) := by decide +kernel
theorem dX7_tell_103 : decode cX7_tell 103 = .ok (.iaload, 1) := by decide +kernel
theorem dX7_tell_104 : decode cX7_tell 104 = .ok (.ldc 34, 2) := by decide +kernel
theorem dX7_tell_106 : decode cX7_tell 106 = .ok (.if_icmp .eq 7, 3) := by decide +kernel
theorem dX7_tell_109 : decode cX7_tell 109 = .ok (.iconst 1, 1) := by decide +kernel
theorem dX7_tell_110 : decode cX7_tell 110 = .ok (.goto 4, 3) := by decide +kernel
theorem dX7_tell_113 : decode cX7_tell 113 = .ok (.iconst 0, 1) := by decide +kernel
theorem dX7_tell_114 : decode cX7_tell 114 = .ok (.istore 7, 2) := by decide +kernel
theorem dX7_tell_116 : decode cX7_tell 116 = .ok (.aload_n 2, 1) := by decide +kernel
theorem dX7_tell_117 : decode cX7_tell 117 = .ok (.iload 7, 2) := by decide +kernel
theorem dX7_tell_119 : decode cX7_tell 119 = .ok (.ifCond .eq 13, 3) := by decide +kernel
theorem dX7_tell_122 : decode cX7_tell 122 = .ok (.aload_n 0, 1) := by decide +kernel
theorem dX7_tell_123 : decode cX7_tell 123 = .ok (.getfield 11, 3) := by decide +kernel
theorem dX7_tell_126 : decode cX7_tell 126 = .ok (.iload 5, 2) := by decide +kernel
theorem dX7_tell_128 : decode cX7_tell 128 = .ok (.iaload, 1) := by decide +kernel
theorem dX7_tell_129 : decode cX7_tell 129 = .ok (.goto 4, 3) := by decide +kernel
theorem dX7_tell_132 : decode cX7_tell 132 = .ok (.iconst 0, 1) := by decide +kernel
theorem dX7_tell_133 : decode cX7_tell 133 = .ok (.iload 6, 2) := by decide +kernel
theorem dX7_tell_135 : decode cX7_tell 135 = .ok (.invokevirtual 62, 3) := by decide +kernel
theorem dX7_tell_138 : decode cX7_tell 138 = .ok (.iinc 4 2, 3) := by decide +kernel
theorem dX7_tell_141 : decode cX7_tell 141 = .ok (.goto (-104), 3) := by decide +kernel
theorem dX7_tell_144 : decode cX7_tell 144 = .ok (.return_, 1) := by decide +kernel
theorem dX7_tellText_0 : decode cX7_tellText 0 = .ok (.iconst 0, 1) := by decide +kernel
theorem dX7_tellText_1 : decode cX7_tellText 1 = .ok (.istore 4, 2) := by decide +kernel
theorem dX7_tellText_3 : decode cX7_tellText 3 = .ok (.iload 4, 2) := by decide +kernel
theorem dX7_tellText_5 : decode cX7_tellText 5 = .ok (.iload_n 3, 1) := by decide +kernel
theorem dX7_tellText_6 : decode cX7_tellText 6 = .ok (.if_icmp .ge 56, 3) := by decide +kernel
theorem dX7_tellText_9 : decode cX7_tellText 9 = .ok (.aload_n 0, 1) := by decide +kernel
theorem dX7_tellText_10 : decode cX7_tellText 10 = .ok (.iload_n 1, 1) := by decide +kernel
theorem dX7_tellText_11 : decode cX7_tellText 11 = .ok (.iload 4, 2) := by decide +kernel
theorem dX7_tellText_13 : decode cX7_tellText 13 = .ok (.invokevirtual 70, 3) := by decide +kernel
theorem dX7_tellText_16 : decode cX7_tellText 16 = .ok (.istore 5, 2) := by decide +kernel
theorem dX7_tellText_18 : decode cX7_tellText 18 = .ok (.iload 5, 2) := by decide +kernel
theorem dX7_tellText_20 : decode cX7_tellText 20 = .ok (.bipush 64, 2) := by decide +kernel
theorem dX7_tellText_22 : decode cX7_tellText 22 = .ok (.if_icmp .lt 11, 3) := by decide +kernel
theorem dX7_tellText_25 : decode cX7_tellText 25 = .ok (.iload 5, 2) := by decide +kernel
theorem dX7_tellText_27 : decode cX7_tellText 27 = .ok (.bipush 64, 2) := by decide +kernel
theorem dX7_tellText_29 : decode cX7_tellText 29 = .ok (.isub, 1) := by decide +kernel
theorem dX7_tellText_30 : decode cX7_tellText 30 = .ok (.goto 5, 3) := by decide +kernel
theorem dX7_tellText_33 : decode cX7_tellText 33 = .ok (.iload 5, 2) := by decide +kernel
theorem dX7_tellText_35 : decode cX7_tellText 35 = .ok (.istore 6, 2) := by decide +kernel
theorem dX7_tellText_37 : decode cX7_tellText 37 = .ok (.aload_n 2, 1) := by decide +kernel
theorem dX7_tellText_38 : decode cX7_tellText 38 = .ok (.iload 5, 2) := by decide +kernel
theorem dX7_tellText_40 : decode cX7_tellText 40 = .ok (.ldc 34, 2) := by decide +kernel
theorem dX7_tellText_42 : decode cX7_tellText 42 = .ok (.if_icmp .ne 7, 3) := by decide +kernel
theorem dX7_tellText_45 : decode cX7_tellText 45 = .ok (.iconst 0, 1) := by decide +kernel
theorem dX7_tellText_46 : decode cX7_tellText 46 = .ok (.goto 5, 3) := by decide +kernel
theorem dX7_tellText_49 : decode cX7_tellText 49 = .ok (.iload 6, 2) := by decide +kernel
theorem dX7_tellText_51 : decode cX7_tellText 51 = .ok (.bipush 6, 2) := by decide +kernel
theorem dX7_tellText_53 : decode cX7_tellText 53 = .ok (.invokevirtual 62, 3) := by decide +kernel
theorem dX7_tellText_56 : decode cX7_tellText 56 = .ok (.iinc 4 1, 3) := by decide +kernel
theorem dX7_tellText_59 : decode cX7_tellText 59 = .ok (.goto (-56), 3) := by decide +kernel
theorem dX7_tellText_62 : decode cX7_tellText 62 = .ok (.return_, 1) := by decide +kernel
theorem dX8_init_0 : decode cX8_init 0 = .ok (.aload_n 0, 1) := by decide +kernel
theorem dX8_init_1 : decode cX8_init 1 = .ok (.invokespecial 1, 3) := by decide +kernel
theorem dX8_init_4 : decode cX8_init 4 = .ok (.aload_n 0, 1) := by decide +kernel
theorem dX8_init_5 : decode cX8_init 5 = .ok (.bipush 9, 2) := by decide +kernel
theorem dX8_init_7 : decode cX8_init 7 = .ok (.newarray .int, 2) := by decide +kernel
theorem dX8_init_9 : decode cX8_init 9 = .ok (.putfield 9, 3) := by decide +kernel
theorem dX8_init_12 : decode cX8_init 12 = .ok (.aload_n 0, 1) := by decide +kernel
theorem dX8_init_13 : decode cX8_init 13 = .ok (.new 13, 3) := by decide +kernel
theorem dX8_init_16 : decode cX8_init 16 = .ok (.dup, 1) := by decide +kernel
theorem dX8_init_17 : decode cX8_init 17 = .ok (.sipush 2000, 3) := by decide +kernel
theorem dX8_init_20 : decode cX8_init 20 = .ok (.invokespecial 15, 3) := by decide +kernel
theorem dX8_init_23 : decode cX8_init 23 = .ok (.putfield 18, 3) := by decide +kernel
theorem dX8_init_26 : decode cX8_init 26 = .ok (.aload_n 0, 1) := by decide +kernel
theorem dX8_init_27 : decode cX8_init 27 = .ok (.new 13, 3) := by decide +kernel
theorem dX8_init_30 : decode cX8_init 30 = .ok (.dup, 1) := by decide +kernel
theorem dX8_init_31 : decode cX8_init 31 = .ok (.bipush 115, 2) := by decide +kernel
theorem dX8_init_33 : decode cX8_init 33 = .ok (.invokespecial 15, 3) := by decide +kernel
theorem dX8_init_36 : decode cX8_init 36 = .ok (.putfield 22, 3) := by decide +kernel
theorem dX8_init_39 : decode cX8_init 39 = .ok (.aload_n 0, 1) := by decide +kernel
theorem dX8_init_40 : decode cX8_init 40 = .ok (.new 25, 3) := by decide +kernel
theorem dX8_init_43 : decode cX8_init 43 = .ok (.dup, 1) := by decide +kernel
theorem dX8_init_44 : decode cX8_init 44 = .ok (.invokespecial 27, 3) := by decide +kernel
theorem dX8_init_47 : decode cX8_init 47 = .ok (.putfield 28, 3) := by decide +kernel
theorem dX8_init_50 : decode cX8_init 50 = .ok (.aload_n 0, 1) := by decide +kernel
theorem dX8_init_51 : decode cX8_init 51 = .ok (.new 32, 3) := by decide +kernel
theorem dX8_init_54 : decode cX8_init 54 = .ok (.dup, 1) := by decide +kernel
theorem dX8_init_55 : decode cX8_init 55 = .ok (.invokespecial 34, 3) := by decide +kernel
theorem dX8_init_58 : decode cX8_init 58 = .ok (.putfield 35, 3) := by decide +kernel
theorem dX8_init_61 : decode cX8_init 61 = .ok (.aload_n 0, 1) := by decide +kernel
theorem dX8_init_62 : decode cX8_init 62 = .ok (.new 39, 3) := by decide +kernel
theorem dX8_init_65 : decode cX8_init 65 = .ok (.dup, 1) := by decide +kernel
theorem dX8_init_66 : decode cX8_init 66 = .ok (.invokespecial 41, 3) := by decide +kernel
theorem dX8_init_69 : decode cX8_init 69 = .ok (.putfield 42, 3) := by decide +kernel
theorem dX8_init_72 : decode cX8_init 72 = .ok (.aload_n 0, 1) := by decide +kernel
theorem dX8_init_73 : decode cX8_init 73 = .ok (.new 46, 3) := by decide +kernel
theorem dX8_init_76 : decode cX8_init 76 = .ok (.dup, 1) := by decide +kernel
theorem dX8_init_77 : decode cX8_init 77 = .ok (.invokespecial 48, 3) := by decide +kernel
theorem dX8_init_80 : decode cX8_init 80 = .ok (.putfield 49, 3) := by decide +kernel
theorem dX8_init_83 : decode cX8_init 83 = .ok (.aload_n 0, 1) := by decide +kernel
theorem dX8_init_84 : decode cX8_init 84 = .ok (.new 53, 3) := by decide +kernel
theorem dX8_init_87 : decode cX8_init 87 = .ok (.dup, 1) := by decide +kernel
theorem dX8_init_88 : decode cX8_init 88 = .ok (.sipush 3240, 3) := by decide +kernel
theorem dX8_init_91 : decode cX8_init 91 = .ok (.invokespecial 55, 3) := by decide +kernel
theorem dX8_init_94 : decode cX8_init 94 = .ok (.putfield 56, 3) := by decide +kernel
theorem dX8_init_97 : decode cX8_init 97 = .ok (.aload_n 0, 1) := by decide +kernel
theorem dX8_init_98 : decode cX8_init 98 = .ok (.new 60, 3) := by decide +kernel
theorem dX8_init_101 : decode cX8_init 101 = .ok (.dup, 1) := by decide +kernel
theorem dX8_init_102 : decode cX8_init 102 = .ok (.invokespecial 62, 3) := by decide +kernel
theorem dX8_init_105 : decode cX8_init 105 = .ok (.putfield 63, 3) := by decide +kernel
theorem dX8_init_108 : decode cX8_init 108 = .ok (.aload_n 0, 1) := by decide +kernel
theorem dX8_init_109 : decode cX8_init 109 = .ok (.new 53, 3) := by decide +kernel
theorem dX8_init_112 : decode cX8_init 112 = .ok (.dup, 1) := by decide +kernel
theorem dX8_init_113 : decode cX8_init 113 = .ok (.sipush 424, 3) := by decide +kernel
theorem dX8_init_116 : decode cX8_init 116 = .ok (.invokespecial 55, 3) := by decide +kernel
theorem dX8_init_119 : decode cX8_init 119 = .ok (.putfield 67, 3) := by decide +kernel
theorem dX8_init_122 : decode cX8_init 122 = .ok (.return_, 1) := by decide +kernel
theorem dX8_feed_0 : decode cX8_feed 0 = .ok (.aload_n 0, 1) := by decide +kernel
theorem dX8_feed_1 : decode cX8_feed 1 = .ok (.getfield 18, 3) := by decide +kernel
theorem dX8_feed_4 : decode cX8_feed 4 = .ok (.bipush 20, 2) := by decide +kernel
theorem dX8_feed_6 : decode cX8_feed 6 = .ok (.invokevirtual 70, 3) := by decide +kernel
theorem dX8_feed_9 : decode cX8_feed 9 = .ok (.ifCond .ne 6, 3) := by decide +kernel
theorem dX8_feed_12 : decode cX8_feed 12 = .ok (.ldc 74, 2) := by decide +kernel
theorem dX8_feed_14 : decode cX8_feed 14 = .ok (.ireturn, 1) := by decide +kernel
theorem dX8_feed_15 : decode cX8_feed 15 = .ok (.aload_n 0, 1) := by decide +kernel
theorem dX8_feed_16 : decode cX8_feed 16 = .ok (.getfield 18, 3) := by decide +kernel
theorem dX8_feed_19 : decode cX8_feed 19 = .ok (.iload_n 1, 1) := by decide +kernel
theorem dX8_feed_20 : decode cX8_feed 20 = .ok (.invokevirtual 75, 3) := by decide +kernel
theorem dX8_feed_23 : decode cX8_feed 23 = .ok (.aload_n 0, 1) := by decide +kernel
theorem dX8_feed_24 : decode cX8_feed 24 = .ok (.getfield 18, 3) := by decide +kernel
theorem dX8_feed_27 : decode cX8_feed 27 = .ok (.iload_n 2, 1) := by decide +kernel
theorem dX8_feed_28 : decode cX8_feed 28 = .ok (.invokevirtual 75, 3) := by decide +kernel
theorem dX8_feed_31 : decode cX8_feed 31 = .ok (.aload_n 0, 1) := by decide +kernel
theorem dX8_feed_32 : decode cX8_feed 32 = .ok (.getfield 18, 3) := by decide +kernel
theorem dX8_feed_35 : decode cX8_feed 35 = .ok (.iload_n 3, 1) := by decide +kernel
theorem dX8_feed_36 : decode cX8_feed 36 = .ok (.invokevirtual 75, 3) := by decide +kernel
theorem dX8_feed_39 : decode cX8_feed 39 = .ok (.aload_n 0, 1) := by decide +kernel
theorem dX8_feed_40 : decode cX8_feed 40 = .ok (.getfield 18, 3) := by decide +kernel
theorem dX8_feed_43 : decode cX8_feed 43 = .ok (.iload 4, 2) := by decide +kernel
theorem dX8_feed_45 : decode cX8_feed 45 = .ok (.invokevirtual 75, 3) := by decide +kernel
theorem dX8_feed_48 : decode cX8_feed 48 = .ok (.aload_n 0, 1) := by decide +kernel
theorem dX8_feed_49 : decode cX8_feed 49 = .ok (.getfield 18, 3) := by decide +kernel
theorem dX8_feed_52 : decode cX8_feed 52 = .ok (.iload 5, 2) := by decide +kernel
theorem dX8_feed_54 : decode cX8_feed 54 = .ok (.invokevirtual 75, 3) := by decide +kernel
theorem dX8_feed_57 : decode cX8_feed 57 = .ok (.aload_n 0, 1) := by decide +kernel
theorem dX8_feed_58 : decode cX8_feed 58 = .ok (.getfield 18, 3) := by decide +kernel
theorem dX8_feed_61 : decode cX8_feed 61 = .ok (.getfield 78, 3) := by decide +kernel
theorem dX8_feed_64 : decode cX8_feed 64 = .ok (.ireturn, 1) := by decide +kernel
theorem dX8_end_0 : decode cX8_end 0 = .ok (.iload_n 1, 1) := by decide +kernel
theorem dX8_end_1 : decode cX8_end 1 = .ok (.ifCond .lt 14, 3) := by decide +kernel
theorem dX8_end_4 : decode cX8_end 4 = .ok (.iload_n 1, 1) := by decide +kernel
theorem dX8_end_5 : decode cX8_end 5 = .ok (.aload_n 0, 1) := by decide +kernel
theorem dX8_end_6 : decode cX8_end 6 = .ok (.getfield 18, 3) := by decide +kernel
theorem dX8_end_9 : decode cX8_end 9 = .ok (.getfield 78, 3) := by decide +kernel
theorem dX8_end_12 : decode cX8_end 12 = .ok (.if_icmp .le 5, 3) := by decide +kernel
theorem dX8_end_15 : decode cX8_end 15 = .ok (.iconst 0, 1) := by decide +kernel
theorem dX8_end_16 : decode cX8_end 16 = .ok (.ireturn, 1) := by decide +kernel
theorem dX8_end_17 : decode cX8_end 17 = .ok (.aload_n 0, 1) := by decide +kernel
theorem dX8_end_18 : decode cX8_end 18 = .ok (.getfield 18, 3) := by decide +kernel
theorem dX8_end_21 : decode cX8_end 21 = .ok (.iload_n 1, 1) := by decide +kernel
theorem dX8_end_22 : decode cX8_end 22 = .ok (.putfield 78, 3) := by decide +kernel
theorem dX8_end_25 : decode cX8_end 25 = .ok (.iconst 1, 1) := by decide +kernel
theorem dX8_end_26 : decode cX8_end 26 = .ok (.ireturn, 1) := by decide +kernel
theorem dX8_stream_0 : decode cX8_stream 0 = .ok (.aload_n 0, 1) := by decide +kernel
theorem dX8_stream_1 : decode cX8_stream 1 = .ok (.getfield 9, 3) := by decide +kernel
theorem dX8_stream_4 : decode cX8_stream 4 = .ok (.iconst 0, 1) := by decide +kernel
theorem dX8_stream_5 : decode cX8_stream 5 = .ok (.iaload, 1) := by decide +kernel
theorem dX8_stream_6 : decode cX8_stream 6 = .ok (.istore_n 1, 1) := by decide +kernel
theorem dX8_stream_7 : decode cX8_stream 7 = .ok (.iconst 0, 1) := by decide +kernel
theorem dX8_stream_8 : decode cX8_stream 8 = .ok (.istore_n 2, 1) := by decide +kernel
theorem dX8_stream_9 : decode cX8_stream 9 = .ok (.iload_n 2, 1) := by decide +kernel
theorem dX8_stream_10 : decode cX8_stream 10 = .ok (.aload_n 0, 1) := by decide +kernel
theorem dX8_stream_11 : decode cX8_stream 11 = .ok (.getfield 18, 3) := by decide +kernel
theorem dX8_stream_14 : decode cX8_stream 14 = .ok (.getfield 78, 3) := by decide +kernel
theorem dX8_stream_17 : decode cX8_stream 17 = .ok (.if_icmp .ge 65, 3) := by decide +kernel
theorem dX8_stream_20 : decode cX8_stream 20 = .ok (.aload_n 0, 1) := by decide +kernel
theorem dX8_stream_21 : decode cX8_stream 21 = .ok (.getfield 28, 3) := by decide +kernel
theorem dX8_stream_24 : decode cX8_stream 24 = .ok (.aload_n 0, 1) := by decide +kernel
theorem dX8_stream_25 : decode cX8_stream 25 = .ok (.getfield 18, 3) := by decide +kernel
theorem dX8_stream_28 : decode cX8_stream 28 = .ok (.iload_n 2, 1) := by decide +kernel
theorem dX8_stream_29 : decode cX8_stream 29 = .ok (.invokevirtual 82, 3) := by decide +kernel
theorem dX8_stream_32 : decode cX8_stream 32 = .ok (.invokevirtual 86, 3) := by decide +kernel
theorem dX8_stream_35 : decode cX8_stream 35 = .ok (.istore_n 3, 1) := by decide +kernel
theorem dX8_stream_36 : decode cX8_stream 36 = .ok (.iload_n 3, 1) := by decide +kernel
theorem dX8_stream_37 : decode cX8_stream 37 = .ok (.iconst 1, 1) := by decide +kernel
theorem dX8_stream_38 : decode cX8_stream 38 = .ok (.if_icmp .ne 16, 3) := by decide +kernel
theorem dX8_stream_41 : decode cX8_stream 41 = .ok (.aload_n 0, 1) := by decide +kernel
theorem dX8_stream_42 : decode cX8_stream 42 = .ok (.getfield 9, 3) := by decide +kernel
theorem dX8_stream_45 : decode cX8_stream 45 = .ok (.iconst 1, 1) := by decide +kernel
theorem dX8_stream_46 : decode cX8_stream 46 = .ok (.dup2, 1) := by decide +kernel
theorem dX8_stream_47 : decode cX8_stream 47 = .ok (.iaload, 1) := by decide +kernel
theorem dX8_stream_48 : decode cX8_stream 48 = .ok (.iconst 1, 1) := by decide +kernel
theorem dX8_stream_49 : decode cX8_stream 49 = .ok (.iadd, 1) := by decide +kernel
theorem dX8_stream_50 : decode cX8_stream 50 = .ok (.iastore, 1) := by decide +kernel
theorem dX8_stream_51 : decode cX8_stream 51 = .ok (.goto 25, 3) := by decide +kernel
theorem dX8_stream_54 : decode cX8_stream 54 = .ok (.iload_n 3, 1) := by decide +kernel
theorem dX8_stream_55 : decode cX8_stream 55 = .ok (.iconst 2, 1) := by decide +kernel
theorem dX8_stream_56 : decode cX8_stream 56 = .ok (.if_icmp .ne 20, 3) := by decide +kernel
theorem dX8_stream_59 : decode cX8_stream 59 = .ok (.aload_n 0, 1) := by decide +kernel
theorem dX8_stream_60 : decode cX8_stream 60 = .ok (.invokevirtual 89, 3) := by decide +kernel
theorem dX8_stream_63 : decode cX8_stream 63 = .ok (.istore 4, 2) := by decide +kernel
theorem dX8_stream_65 : decode cX8_stream 65 = .ok (.aload_n 0, 1) := by decide +kernel
theorem dX8_stream_66 : decode cX8_stream 66 = .ok (.getfield 9, 3) := by decide +kernel
theorem dX8_stream_69 : decode cX8_stream 69 = .ok (.iload 4, 2) := by decide +kernel
theorem dX8_stream_71 : decode cX8_stream 71 = .ok (.dup2, 1) := by decide +kernel
theorem dX8_stream_72 : decode cX8_stream 72 = .ok (.iaload, 1) := by decide +kernel
theorem dX8_stream_73 : decode cX8_stream 73 = .ok (.iconst 1, 1) := by decide +kernel
theorem dX8_stream_74 : decode cX8_stream 74 = .ok (.iadd, 1) := by decide +kernel
theorem dX8_stream_75 : decode cX8_stream 75 = .ok (.iastore, 1) := by decide +kernel
theorem dX8_stream_76 : decode cX8_stream 76 = .ok (.iinc 2 1, 3) := by decide +kernel
theorem dX8_stream_79 : decode cX8_stream 79 = .ok (.goto (-70), 3) := by decide +kernel
theorem dX8_stream_82 : decode cX8_stream 82 = .ok (.aload_n 0, 1) := by decide +kernel
theorem dX8_stream_83 : decode cX8_stream 83 = .ok (.getfield 18, 3) := by decide +kernel
theorem dX8_stream_86 : decode cX8_stream 86 = .ok (.iconst 0, 1) := by decide +kernel
theorem dX8_stream_87 : decode cX8_stream 87 = .ok (.putfield 78, 3) := by decide +kernel
theorem dX8_stream_90 : decode cX8_stream 90 = .ok (.aload_n 0, 1) := by decide +kernel
theorem dX8_stream_91 : decode cX8_stream 91 = .ok (.getfield 9, 3) := by decide +kernel
theorem dX8_stream_94 : decode cX8_stream 94 = .ok (.iconst 0, 1) := by decide +kernel
theorem dX8_stream_95 : decode cX8_stream 95 = .ok (.iaload, 1) := by decide +kernel
theorem dX8_stream_96 : decode cX8_stream 96 = .ok (.iload_n 1, 1) := by decide +kernel
theorem dX8_stream_97 : decode cX8_stream 97 = .ok (.isub, 1) := by decide +kernel
theorem dX8_stream_98 : decode cX8_stream 98 = .ok (.ireturn, 1) := by decide +kernel
theorem dX8_count_0 : decode cX8_count 0 = .ok (.iload_n 1, 1) := by decide +kernel
theorem dX8_count_1 : decode cX8_count 1 = .ok (.ifCond .lt 16, 3) := by decide +kernel
theorem dX8_count_4 : decode cX8_count 4 = .ok (.iload_n 1, 1) := by decide +kernel
theorem dX8_count_5 : decode cX8_count 5 = .ok (.bipush 9, 2) := by decide +kernel
theorem dX8_count_7 : decode cX8_count 7 = .ok (.if_icmp .ge 10, 3) := by decide +kernel
theorem dX8_count_10 : decode cX8_count 10 = .ok (.aload_n 0, 1) := by decide +kernel
theorem dX8_count_11 : decode cX8_count 11 = .ok (.getfield 9, 3) := by decide +kernel
theorem dX8_count_14 : decode cX8_count 14 = .ok (.iload_n 1, 1) := by decide +kernel
theorem dX8_count_15 : decode cX8_count 15 = .ok (.iaload, 1) := by decide +kernel
theorem dX8_count_16 : decode cX8_count 16 = .ok (.ireturn, 1) := by decide +kernel
theorem dX8_count_17 : decode cX8_count 17 = .ok (.iload_n 1, 1) := by decide +kernel
theorem dX8_count_18 : decode cX8_count 18 = .ok (.tableswitch 74 9 13 #[34, 42, 50, 58, 66], 34) := by decide +kernel
theorem dX8_count_52 : decode cX8_count 52 = .ok (.aload_n 0, 1) := by decide +kernel
theorem dX8_count_53 : decode cX8_count 53 = .ok (.getfield 63, 3) := by decide +kernel
theorem dX8_count_56 : decode cX8_count 56 = .ok (.getfield 93, 3) := by decide +kernel
theorem dX8_count_59 : decode cX8_count 59 = .ok (.ireturn, 1) := by decide +kernel
theorem dX8_count_60 : decode cX8_count 60 = .ok (.aload_n 0, 1) := by decide +kernel
theorem dX8_count_61 : decode cX8_count 61 = .ok (.getfield 18, 3) := by decide +kernel
theorem dX8_count_64 : decode cX8_count 64 = .ok (.getfield 78, 3) := by decide +kernel
theorem dX8_count_67 : decode cX8_count 67 = .ok (.ireturn, 1) := by decide +kernel
theorem dX8_count_68 : decode cX8_count 68 = .ok (.aload_n 0, 1) := by decide +kernel
theorem dX8_count_69 : decode cX8_count 69 = .ok (.getfield 22, 3) := by decide +kernel
theorem dX8_count_72 : decode cX8_count 72 = .ok (.getfield 78, 3) := by decide +kernel
theorem dX8_count_75 : decode cX8_count 75 = .ok (.ireturn, 1) := by decide +kernel
theorem dX8_count_76 : decode cX8_count 76 = .ok (.aload_n 0, 1) := by decide +kernel
theorem dX8_count_77 : decode cX8_count 77 = .ok (.getfield 28, 3) := by decide +kernel
theorem dX8_count_80 : decode cX8_count 80 = .ok (.invokevirtual 94, 3) := by decide +kernel
theorem dX8_count_83 : decode cX8_count 83 = .ok (.ireturn, 1) := by decide +kernel
theorem dX8_count_84 : decode cX8_count 84 = .ok (.aload_n 0, 1) := by decide +kernel
theorem dX8_count_85 : decode cX8_count 85 = .ok (.getfield 49, 3) := by decide +kernel
theorem dX8_count_88 : decode cX8_count 88 = .ok (.invokevirtual 97, 3) := by decide +kernel
theorem dX8_count_91 : decode cX8_count 91 = .ok (.ireturn, 1) := by decide +kernel
theorem dX8_count_92 : decode cX8_count 92 = .ok (.ldc 74, 2) := by decide +kernel
theorem dX8_count_94 : decode cX8_count 94 = .ok (.ireturn, 1) := by decide +kernel
theorem dX8_fix_0 : decode cX8_fix 0 = .ok (.iload_n 1, 1) := by decide +kernel
theorem dX8_fix_1 : decode cX8_fix 1 = .ok (.ifCond .lt 9, 3) := by decide +kernel
theorem dX8_fix_4 : decode cX8_fix 4 = .ok (.iload_n 1, 1) := by decide +kernel
theorem dX8_fix_5 : decode cX8_fix 5 = .ok (.bipush 18, 2) := by decide +kernel
theorem dX8_fix_7 : decode cX8_fix 7 = .ok (.if_icmp .lt 13, 3) := by decide +kernel
theorem dX8_fix_10 : decode cX8_fix 10 = .ok (.new 100, 3) := by decide +kernel
theorem dX8_fix_13 : decode cX8_fix 13 = .ok (.dup, 1) := by decide +kernel
theorem dX8_fix_14 : decode cX8_fix 14 = .ok (.ldc 102, 2) := by decide +kernel
theorem dX8_fix_16 : decode cX8_fix 16 = .ok (.invokespecial 104, 3) := by decide +kernel
theorem dX8_fix_19 : decode cX8_fix 19 = .ok (.athrow, 1) := by decide +kernel
theorem dX8_fix_20 : decode cX8_fix 20 = .ok (.aload_n 0, 1) := by decide +kernel
theorem dX8_fix_21 : decode cX8_fix 21 = .ok (.getfield 42, 3) := by decide +kernel
theorem dX8_fix_24 : decode cX8_fix 24 = .ok (.getfield 107, 3) := by decide +kernel
theorem dX8_fix_27 : decode cX8_fix 27 = .ok (.iload_n 1, 1) := by decide +kernel
theorem dX8_fix_28 : decode cX8_fix 28 = .ok (.iaload, 1) := by decide +kernel
theorem dX8_fix_29 : decode cX8_fix 29 = .ok (.ireturn, 1) := by decide +kernel
theorem dX8_find_0 : decode cX8_find 0 = .ok (.aload_n 0, 1) := by decide +kernel
theorem dX8_find_1 : decode cX8_find 1 = .ok (.getfield 63, 3) := by decide +kernel
theorem dX8_find_4 : decode cX8_find 4 = .ok (.iload_n 1, 1) := by decide +kernel
theorem dX8_find_5 : decode cX8_find 5 = .ok (.invokevirtual 110, 3) := by decide +kernel
theorem dX8_find_8 : decode cX8_find 8 = .ok (.ireturn, 1) := by decide +kernel
theorem dX8_vessel_0 : decode cX8_vessel 0 = .ok (.aload_n 0, 1) := by decide +kernel
theorem dX8_vessel_1 : decode cX8_vessel 1 = .ok (.getfield 63, 3) := by decide +kernel
theorem dX8_vessel_4 : decode cX8_vessel 4 = .ok (.iload_n 1, 1) := by decide +kernel
theorem dX8_vessel_5 : decode cX8_vessel 5 = .ok (.invokevirtual 113, 3) := by decide +kernel
theorem dX8_vessel_8 : decode cX8_vessel 8 = .ok (.astore_n 3, 1) := by decide +kernel
theorem dX8_vessel_9 : decode cX8_vessel 9 = .ok (.aload_n 3, 1) := by decide +kernel
theorem dX8_vessel_10 : decode cX8_vessel 10 = .ok (.ifnonnull 13, 3) := by decide +kernel
theorem dX8_vessel_13 : decode cX8_vessel 13 = .ok (.new 100, 3) := by decide +kernel
theorem dX8_vessel_16 : decode cX8_vessel 16 = .ok (.dup, 1) := by decide +kernel
theorem dX8_vessel_17 : decode cX8_vessel 17 = .ok (.ldc 116, 2) := by decide +kernel
theorem dX8_vessel_19 : decode cX8_vessel 19 = .ok (.invokespecial 104, 3) := by decide +kernel
theorem dX8_vessel_22 : decode cX8_vessel 22 = .ok (.athrow, 1) := by decide +kernel
theorem dX8_vessel_23 : decode cX8_vessel 23 = .ok (.iload_n 2, 1) := by decide +kernel
theorem dX8_vessel_24 : decode cX8_vessel 24 = .ok (.ifCond .lt 16, 3) := by decide +kernel
theorem dX8_vessel_27 : decode cX8_vessel 27 = .ok (.iload_n 2, 1) := by decide +kernel
theorem dX8_vessel_28 : decode cX8_vessel 28 = .ok (.bipush 24, 2) := by decide +kernel
theorem dX8_vessel_30 : decode cX8_vessel 30 = .ok (.if_icmp .ge 10, 3) := by decide +kernel
theorem dX8_vessel_33 : decode cX8_vessel 33 = .ok (.aload_n 3, 1) := by decide +kernel
theorem dX8_vessel_34 : decode cX8_vessel 34 = .ok (.getfield 120, 3) := by decide +kernel
theorem dX8_vessel_37 : decode cX8_vessel 37 = .ok (.iload_n 2, 1) := by decide +kernel
theorem dX8_vessel_38 : decode cX8_vessel 38 = .ok (.iaload, 1) := by decide +kernel
theorem dX8_vessel_39 : decode cX8_vessel 39 = .ok (.ireturn, 1) := by decide +kernel
theorem dX8_vessel_40 : decode cX8_vessel 40 = .ok (.iload_n 2, 1) := by decide +kernel
theorem dX8_vessel_41 : decode cX8_vessel 41 = .ok (.bipush 30, 2) := by decide +kernel
theorem dX8_vessel_43 : decode cX8_vessel 43 = .ok (.if_icmp .lt 9, 3) := by decide +kernel
theorem dX8_vessel_46 : decode cX8_vessel 46 = .ok (.iload_n 2, 1) := by decide +kernel
theorem dX8_vessel_47 : decode cX8_vessel 47 = .ok (.bipush 32, 2) := by decide +kernel
theorem dX8_vessel_49 : decode cX8_vessel 49 = .ok (.if_icmp .le 13, 3) := by decide +kernel
theorem dX8_vessel_52 : decode cX8_vessel 52 = .ok (.new 100, 3) := by decide +kernel
theorem dX8_vessel_55 : decode cX8_vessel 55 = .ok (.dup, 1) := by decide +kernel
theorem dX8_vessel_56 : decode cX8_vessel 56 = .ok (.ldc 123, 2) := by decide +kernel
theorem dX8_vessel_58 : decode cX8_vessel 58 = .ok (.invokespecial 104, 3) := by decide +kernel
theorem dX8_vessel_61 : decode cX8_vessel 61 = .ok (.athrow, 1) := by decide +kernel
theorem dX8_vessel_62 : decode cX8_vessel 62 = .ok (.aload_n 3, 1) := by decide +kernel
theorem dX8_vessel_63 : decode cX8_vessel 63 = .ok (.getfield 125, 3) := by decide +kernel
theorem dX8_vessel_66 : decode cX8_vessel 66 = .ok (.iload_n 2, 1) := by decide +kernel
theorem dX8_vessel_67 : decode cX8_vessel 67 = .ok (.bipush 30, 2) := by decide +kernel
theorem dX8_vessel_69 : decode cX8_vessel 69 = .ok (.isub, 1) := by decide +kernel
theorem dX8_vessel_70 : decode cX8_vessel 70 = .ok (.iaload, 1) := by decide +kernel
theorem dX8_vessel_71 : decode cX8_vessel 71 = .ok (.ireturn, 1) := by decide +kernel
theorem dX8_letter_0 : decode cX8_letter 0 = .ok (.aload_n 0, 1) := by decide +kernel
theorem dX8_letter_1 : decode cX8_letter 1 = .ok (.getfield 63, 3) := by decide +kernel
theorem dX8_letter_4 : decode cX8_letter 4 = .ok (.iload_n 1, 1) := by decide +kernel
theorem dX8_letter_5 : decode cX8_letter 5 = .ok (.invokevirtual 113, 3) := by decide +kernel
theorem dX8_letter_8 : decode cX8_letter 8 = .ok (.astore 4, 2) := by decide +kernel
theorem dX8_letter_10 : decode cX8_letter 10 = .ok (.aload 4, 2) := by decide +kernel
theorem dX8_letter_12 : decode cX8_letter 12 = .ok (.ifnonnull 8, 3) := by decide +kernel
theorem dX8_letter_15 : decode cX8_letter 15 = .ok (.ldc 74, 2) := by decide +kernel
theorem dX8_letter_17 : decode cX8_letter 17 = .ok (.goto 10, 3) := by decide +kernel
theorem dX8_letter_20 : decode cX8_letter 20 = .ok (.aload 4, 2) := by decide +kernel
theorem dX8_letter_22 : decode cX8_letter 22 = .ok (.iload_n 2, 1) := by decide +kernel
theorem dX8_letter_23 : decode cX8_letter 23 = .ok (.iload_n 3, 1) := by decide +kernel
theorem dX8_letter_24 : decode cX8_letter 24 = .ok (.invokevirtual 128, 3) := by decide +kernel
theorem dX8_letter_27 : decode cX8_letter 27 = .ok (.ireturn, 1) := by decide +kernel
theorem dX8_bits_0 : decode cX8_bits 0 = .ok (.iload_n 2, 1) := by decide +kernel
theorem dX8_bits_1 : decode cX8_bits 1 = .ok (.iconst 1, 1) := by decide +kernel
theorem dX8_bits_2 : decode cX8_bits 2 = .ok (.if_icmp .lt 26, 3) := by decide +kernel
theorem dX8_bits_5 : decode cX8_bits 5 = .ok (.iload_n 2, 1) := by decide +kernel
theorem dX8_bits_6 : decode cX8_bits 6 = .ok (.bipush 32, 2) := by decide +kernel
theorem dX8_bits_8 : decode cX8_bits 8 = .ok (.if_icmp .gt 20, 3) := by decide +kernel
theorem dX8_bits_11 : decode cX8_bits 11 = .ok (.iload_n 1, 1) := by decide +kernel
theorem dX8_bits_12 : decode cX8_bits 12 = .ok (.ifCond .lt 16, 3) := by decide +kernel
theorem dX8_bits_15 : decode cX8_bits 15 = .ok (.iload_n 1, 1) := by decide +kernel
theorem dX8_bits_16 : decode cX8_bits 16 = .ok (.aload_n 0, 1) := by decide +kernel
theorem dX8_bits_17 : decode cX8_bits 17 = .ok (.getfield 56, 3) := by decide +kernel
theorem dX8_bits_20 : decode cX8_bits 20 = .ok (.getfield 132, 3) := by decide +kernel
theorem dX8_bits_23 : decode cX8_bits 23 = .ok (.iload_n 2, 1) := by decide +kernel
theorem dX8_bits_24 : decode cX8_bits 24 = .ok (.isub, 1) := by decide +kernel
theorem dX8_bits_25 : decode cX8_bits 25 = .ok (.if_icmp .le 13, 3) := by decide +kernel
theorem dX8_bits_28 : decode cX8_bits 28 = .ok (.new 100, 3) := by decide +kernel
theorem dX8_bits_31 : decode cX8_bits 31 = .ok (.dup, 1) := by decide +kernel
theorem dX8_bits_32 : decode cX8_bits 32 = .ok (.ldc 135, 2) := by decide +kernel
theorem dX8_bits_34 : decode cX8_bits 34 = .ok (.invokespecial 104, 3) := by decide +kernel
theorem dX8_bits_37 : decode cX8_bits 37 = .ok (.athrow, 1) := by decide +kernel
theorem dX8_bits_38 : decode cX8_bits 38 = .ok (.aload_n 0, 1) := by decide +kernel
theorem dX8_bits_39 : decode cX8_bits 39 = .ok (.getfield 56, 3) := by decide +kernel
theorem dX8_bits_42 : decode cX8_bits 42 = .ok (.iload_n 1, 1) := by decide +kernel
theorem dX8_bits_43 : decode cX8_bits 43 = .ok (.iload_n 2, 1) := by decide +kernel
theorem dX8_bits_44 : decode cX8_bits 44 = .ok (.invokevirtual 137, 3) := by decide +kernel
theorem dX8_bits_47 : decode cX8_bits 47 = .ok (.ireturn, 1) := by decide +kernel
theorem dX8_send_0 : decode cX8_send 0 = .ok (.aload_n 0, 1) := by decide +kernel
theorem dX8_send_1 : decode cX8_send 1 = .ok (.getfield 63, 3) := by decide +kernel
theorem dX8_send_4 : decode cX8_send 4 = .ok (.iload_n 1, 1) := by decide +kernel
theorem dX8_send_5 : decode cX8_send 5 = .ok (.invokevirtual 113, 3) := by decide +kernel
theorem dX8_send_8 : decode cX8_send 8 = .ok (.astore 4, 2) := by decide +kernel
theorem dX8_send_10 : decode cX8_send 10 = .ok (.aload 4, 2) := by decide +kernel
theorem dX8_send_12 : decode cX8_send 12 = .ok (.ifnonnull 13, 3) := by decide +kernel
theorem dX8_send_15 : decode cX8_send 15 = .ok (.new 100, 3) := by decide +kernel
theorem dX8_send_18 : decode cX8_send 18 = .ok (.dup, 1) := by decide +kernel
theorem dX8_send_19 : decode cX8_send 19 = .ok (.ldc 116, 2) := by decide +kernel
theorem dX8_send_21 : decode cX8_send 21 = .ok (.invokespecial 104, 3) := by decide +kernel
theorem dX8_send_24 : decode cX8_send 24 = .ok (.athrow, 1) := by decide +kernel
theorem dX8_send_25 : decode cX8_send 25 = .ok (.iload_n 2, 1) := by decide +kernel
theorem dX8_send_26 : decode cX8_send 26 = .ok (.iconst 1, 1) := by decide +kernel
theorem dX8_send_27 : decode cX8_send 27 = .ok (.if_icmp .eq 24, 3) := by decide +kernel
theorem dX8_send_30 : decode cX8_send 30 = .ok (.iload_n 2, 1) := by decide +kernel
theorem dX8_send_31 : decode cX8_send 31 = .ok (.iconst 5, 1) := by decide +kernel
theorem dX8_send_32 : decode cX8_send 32 = .ok (.if_icmp .eq 19, 3) := by decide +kernel
theorem dX8_send_35 : decode cX8_send 35 = .ok (.iload_n 2, 1) := by decide +kernel
theorem dX8_send_36 : decode cX8_send 36 = .ok (.bipush 18, 2) := by decide +kernel
theorem dX8_send_38 : decode cX8_send 38 = .ok (.if_icmp .eq 13, 3) := by decide +kernel
theorem dX8_send_41 : decode cX8_send 41 = .ok (.new 140, 3) := by decide +kernel
theorem dX8_send_44 : decode cX8_send 44 = .ok (.dup, 1) := by decide +kernel
theorem dX8_send_45 : decode cX8_send 45 = .ok (.ldc 142, 2) := by decide +kernel
theorem dX8_send_47 : decode cX8_send 47 = .ok (.invokespecial 144, 3) := by decide +kernel
theorem dX8_send_50 : decode cX8_send 50 = .ok (.athrow, 1) := by decide +kernel
theorem dX8_send_51 : decode cX8_send 51 = .ok (.iload_n 2, 1) := by decide +kernel
theorem dX8_send_52 : decode cX8_send 52 = .ok (.iconst 5, 1) := by decide +kernel
theorem dX8_send_53 : decode cX8_send 53 = .ok (.if_icmp .ne 23, 3) := by decide +kernel
theorem dX8_send_56 : decode cX8_send 56 = .ok (.iload_n 3, 1) := by decide +kernel
theorem dX8_send_57 : decode cX8_send 57 = .ok (.ifCond .lt 9, 3) := by decide +kernel
theorem dX8_send_60 : decode cX8_send 60 = .ok (.iload_n 3, 1) := by decide +kernel
theorem dX8_send_61 : decode cX8_send 61 = .ok (.bipush 9, 2) := by decide +kernel
theorem dX8_send_63 : decode cX8_send 63 = .ok (.if_icmp .le 13, 3) := by decide +kernel
theorem dX8_send_66 : decode cX8_send 66 = .ok (.new 140, 3) := by decide +kernel
theorem dX8_send_69 : decode cX8_send 69 = .ok (.dup, 1) := by decide +kernel
theorem dX8_send_70 : decode cX8_send 70 = .ok (.ldc 145, 2) := by decide +kernel
theorem dX8_send_72 : decode cX8_send 72 = .ok (.invokespecial 144, 3) := by decide +kernel
theorem dX8_send_75 : decode cX8_send 75 = .ok (.athrow, 1) := by decide +kernel
theorem dX8_send_76 : decode cX8_send 76 = .ok (.aload 4, 2) := by decide +kernel
theorem dX8_send_78 : decode cX8_send 78 = .ok (.iload_n 2, 1) := by decide +kernel
theorem dX8_send_79 : decode cX8_send 79 = .ok (.aload_n 0, 1) := by decide +kernel
theorem dX8_send_80 : decode cX8_send 80 = .ok (.getfield 67, 3) := by decide +kernel
theorem dX8_send_83 : decode cX8_send 83 = .ok (.invokevirtual 147, 3) := by decide +kernel
theorem dX8_send_86 : decode cX8_send 86 = .ok (.aload_n 0, 1) := by decide +kernel
theorem dX8_send_87 : decode cX8_send 87 = .ok (.getfield 22, 3) := by decide +kernel
theorem dX8_send_90 : decode cX8_send 90 = .ok (.iconst 0, 1) := by decide +kernel
theorem dX8_send_91 : decode cX8_send 91 = .ok (.putfield 78, 3) := by decide +kernel
theorem dX8_send_94 : decode cX8_send 94 = .ok (.aload_n 0, 1) := by decide +kernel
theorem dX8_send_95 : decode cX8_send 95 = .ok (.getfield 67, 3) := by decide +kernel
theorem dX8_send_98 : decode cX8_send 98 = .ok (.getfield 132, 3) := by decide +kernel
theorem dX8_send_101 : decode cX8_send 101 = .ok (.iconst 5, 1) := by decide +kernel
theorem dX8_send_102 : decode cX8_send 102 = .ok (.iadd, 1) := by decide +kernel
theorem dX8_send_103 : decode cX8_send 103 = .ok (.bipush 6, 2) := by decide +kernel
theorem dX8_send_105 : decode cX8_send 105 = .ok (.idiv, 1) := by decide +kernel
theorem dX8_send_106 : decode cX8_send 106 = .ok (.istore 5, 2) := by decide +kernel
theorem dX8_send_108 : decode cX8_send 108 = .ok (.iload_n 2, 1) := by decide +kernel
theorem dX8_send_109 : decode cX8_send 109 = .ok (.iconst 5, 1) := by decide +kernel
theorem dX8_send_110 : decode cX8_send 110 = .ok (.if_icmp .ne 27, 3) := by decide +kernel
theorem dX8_send_113 : decode cX8_send 113 = .ok (.aload_n 0, 1) := by decide +kernel
theorem dX8_send_114 : decode cX8_send 114 = .ok (.ldc 151, 2) := by decide +kernel
theorem dX8_send_116 : decode cX8_send 116 = .ok (.iload_n 3, 1) := by decide +kernel
theorem dX8_send_117 : decode cX8_send 117 = .ok (.iconst 0, 1) := by decide +kernel
theorem dX8_send_118 : decode cX8_send 118 = .ok (.bipush 60, 2) := by decide +kernel
theorem dX8_send_120 : decode cX8_send 120 = .ok (.invokevirtual 153, 3) := by decide +kernel
theorem dX8_send_123 : decode cX8_send 123 = .ok (.aload_n 0, 1) := by decide +kernel
theorem dX8_send_124 : decode cX8_send 124 = .ok (.ldc 157, 2) := by decide +kernel
theorem dX8_send_126 : decode cX8_send 126 = .ok (.iload_n 3, 1) := by decide +kernel
theorem dX8_send_127 : decode cX8_send 127 = .ok (.bipush 60, 2) := by decide +kernel
theorem dX8_send_129 : decode cX8_send 129 = .ok (.iload 5, 2) := by decide +kernel
theorem dX8_send_131 : decode cX8_send 131 = .ok (.invokevirtual 153, 3) := by decide +kernel
theorem dX8_send_134 : decode cX8_send 134 = .ok (.goto 14, 3) := by decide +kernel
theorem dX8_send_137 : decode cX8_send 137 = .ok (.aload_n 0, 1) := by decide +kernel
theorem dX8_send_138 : decode cX8_send 138 = .ok (.ldc 159, 2) := by decide +kernel
theorem dX8_send_140 : decode cX8_send 140 = .ok (.ldc 74, 2) := by decide +kernel
theorem dX8_send_142 : decode cX8_send 142 = .ok (.iconst 0, 1) := by decide +kernel
theorem dX8_send_143 : decode cX8_send 143 = .ok (.iload 5, 2) := by decide +kernel
theorem dX8_send_145 : decode cX8_send 145 = .ok (.invokevirtual 153, 3) := by decide +kernel
theorem dX8_send_148 : decode cX8_send 148 = .ok (.aload_n 0, 1) := by decide +kernel
theorem dX8_send_149 : decode cX8_send 149 = .ok (.getfield 22, 3) := by decide +kernel
theorem dX8_send_152 : decode cX8_send 152 = .ok (.getfield 78, 3) := by decide +kernel
theorem dX8_send_155 : decode cX8_send 155 = .ok (.ireturn, 1) := by decide +kernel
theorem dX8_out_0 : decode cX8_out 0 = .ok (.aload_n 0, 1) := by decide +kernel
theorem dX8_out_1 : decode cX8_out 1 = .ok (.getfield 22, 3) := by decide +kernel
theorem dX8_out_4 : decode cX8_out 4 = .ok (.iload_n 1, 1) := by decide +kernel
theorem dX8_out_5 : decode cX8_out 5 = .ok (.invokevirtual 82, 3) := by decide +kernel
theorem dX8_out_8 : decode cX8_out 8 = .ok (.ireturn, 1) := by decide +kernel
theorem dX8_again_0 : decode cX8_again 0 = .ok (.aload_n 0, 1) := by decide +kernel
theorem dX8_again_1 : decode cX8_again 1 = .ok (.getfield 18, 3) := by decide +kernel
theorem dX8_again_4 : decode cX8_again 4 = .ok (.aload_n 0, 1) := by decide +kernel
theorem dX8_again_5 : decode cX8_again 5 = .ok (.getfield 22, 3) := by decide +kernel
theorem dX8_again_8 : decode cX8_again 8 = .ok (.getfield 78, 3) := by decide +kernel
theorem dX8_again_11 : decode cX8_again 11 = .ok (.invokevirtual 70, 3) := by decide +kernel
theorem dX8_again_14 : decode cX8_again 14 = .ok (.ifCond .ne 6, 3) := by decide +kernel
theorem dX8_again_17 : decode cX8_again 17 = .ok (.ldc 74, 2) := by decide +kernel
theorem dX8_again_19 : decode cX8_again 19 = .ok (.ireturn, 1) := by decide +kernel
theorem dX8_again_20 : decode cX8_again 20 = .ok (.iconst 0, 1) := by decide +kernel
theorem dX8_again_21 : decode cX8_again 21 = .ok (.istore_n 1, 1) := by decide +kernel
theorem dX8_again_22 : decode cX8_again 22 = .ok (.iload_n 1, 1) := by decide +kernel
theorem dX8_again_23 : decode cX8_again 23 = .ok (.aload_n 0, 1) := by decide +kernel
theorem dX8_again_24 : decode cX8_again 24 = .ok (.getfield 22, 3) := by decide +kernel
theorem dX8_again_27 : decode cX8_again 27 = .ok (.getfield 78, 3) := by decide +kernel
theorem dX8_again_30 : decode cX8_again 30 = .ok (.if_icmp .ge 24, 3) := by decide +kernel
theorem dX8_again_33 : decode cX8_again 33 = .ok (.aload_n 0, 1) := by decide +kernel
theorem dX8_again_34 : decode cX8_again 34 = .ok (.getfield 18, 3) := by decide +kernel
theorem dX8_again_37 : decode cX8_again 37 = .ok (.aload_n 0, 1) := by decide +kernel
theorem dX8_again_38 : decode cX8_again 38 = .ok (.getfield 22, 3) := by decide +kernel
theorem dX8_again_41 : decode cX8_again 41 = .ok (.iload_n 1, 1) := by decide +kernel
theorem dX8_again_42 : decode cX8_again 42 = .ok (.invokevirtual 82, 3) := by decide +kernel
theorem dX8_again_45 : decode cX8_again 45 = .ok (.invokevirtual 161, 3) := by decide +kernel
theorem dX8_again_48 : decode cX8_again 48 = .ok (.iinc 1 1, 3) := by decide +kernel
theorem dX8_again_51 : decode cX8_again 51 = .ok (.goto (-29), 3) := by decide +kernel
theorem dX8_again_54 : decode cX8_again 54 = .ok (.aload_n 0, 1) := by decide +kernel
theorem dX8_again_55 : decode cX8_again 55 = .ok (.getfield 18, 3) := by decide +kernel
theorem dX8_again_58 : decode cX8_again 58 = .ok (.getfield 78, 3) := by decide +kernel
theorem dX8_again_61 : decode cX8_again 61 = .ok (.ireturn, 1) := by decide +kernel
theorem dX8_clear_0 : decode cX8_clear 0 = .ok (.aload_n 0, 1) := by decide +kernel
theorem dX8_clear_1 : decode cX8_clear 1 = .ok (.getfield 9, 3) := by decide +kernel
theorem dX8_clear_4 : decode cX8_clear 4 = .ok (.iconst 0, 1) := by decide +kernel
theorem dX8_clear_5 : decode cX8_clear 5 = .ok (.invokestatic 164, 3) := by decide +kernel
theorem dX8_clear_8 : decode cX8_clear 8 = .ok (.aload_n 0, 1) := by decide +kernel
theorem dX8_clear_9 : decode cX8_clear 9 = .ok (.getfield 28, 3) := by decide +kernel
theorem dX8_clear_12 : decode cX8_clear 12 = .ok (.invokevirtual 170, 3) := by decide +kernel
theorem dX8_clear_15 : decode cX8_clear 15 = .ok (.aload_n 0, 1) := by decide +kernel
theorem dX8_clear_16 : decode cX8_clear 16 = .ok (.getfield 42, 3) := by decide +kernel
theorem dX8_clear_19 : decode cX8_clear 19 = .ok (.invokevirtual 173, 3) := by decide +kernel
theorem dX8_clear_22 : decode cX8_clear 22 = .ok (.aload_n 0, 1) := by decide +kernel
theorem dX8_clear_23 : decode cX8_clear 23 = .ok (.getfield 49, 3) := by decide +kernel
theorem dX8_clear_26 : decode cX8_clear 26 = .ok (.invokevirtual 174, 3) := by decide +kernel
theorem dX8_clear_29 : decode cX8_clear 29 = .ok (.aload_n 0, 1) := by decide +kernel
theorem dX8_clear_30 : decode cX8_clear 30 = .ok (.getfield 56, 3) := by decide +kernel
theorem dX8_clear_33 : decode cX8_clear 33 = .ok (.invokevirtual 175, 3) := by decide +kernel
theorem dX8_clear_36 : decode cX8_clear 36 = .ok (.aload_n 0, 1) := by decide +kernel
theorem dX8_clear_37 : decode cX8_clear 37 = .ok (.getfield 63, 3) := by decide +kernel
theorem dX8_clear_40 : decode cX8_clear 40 = .ok (.iconst 0, 1) := by decide +kernel
theorem dX8_clear_41 : decode cX8_clear 41 = .ok (.putfield 93, 3) := by decide +kernel
theorem dX8_clear_44 : decode cX8_clear 44 = .ok (.return_, 1) := by decide +kernel
theorem dX8_judge_0 : decode cX8_judge 0 = .ok (.aload_n 0, 1) := by decide +kernel
theorem dX8_judge_1 : decode cX8_judge 1 = .ok (.getfield 28, 3) := by decide +kernel
theorem dX8_judge_4 : decode cX8_judge 4 = .ok (.getfield 178, 3) := by decide +kernel
theorem dX8_judge_7 : decode cX8_judge 7 = .ok (.aload_n 0, 1) := by decide +kernel
theorem dX8_judge_8 : decode cX8_judge 8 = .ok (.getfield 28, 3) := by decide +kernel
theorem dX8_judge_11 : decode cX8_judge 11 = .ok (.getfield 181, 3) := by decide +kernel
theorem dX8_judge_14 : decode cX8_judge 14 = .ok (.if_icmp .eq 5, 3) := by decide +kernel
theorem dX8_judge_17 : decode cX8_judge 17 = .ok (.iconst 2, 1) := by decide +kernel
theorem dX8_judge_18 : decode cX8_judge 18 = .ok (.ireturn, 1) := by decide +kernel
theorem dX8_judge_19 : decode cX8_judge 19 = .ok (.aload_n 0, 1) := by decide +kernel
theorem dX8_judge_20 : decode cX8_judge 20 = .ok (.getfield 35, 3) := by decide +kernel
theorem dX8_judge_23 : decode cX8_judge 23 = .ok (.aload_n 0, 1) := by decide +kernel
theorem dX8_judge_24 : decode cX8_judge 24 = .ok (.getfield 28, 3) := by decide +kernel
theorem dX8_judge_27 : decode cX8_judge 27 = .ok (.invokevirtual 184, 3) := by decide +kernel
theorem dX8_judge_30 : decode cX8_judge 30 = .ok (.aload_n 0, 1) := by decide +kernel
theorem dX8_judge_31 : decode cX8_judge 31 = .ok (.getfield 35, 3) := by decide +kernel
theorem dX8_judge_34 : decode cX8_judge 34 = .ok (.aload_n 0, 1) := by decide +kernel
theorem dX8_judge_35 : decode cX8_judge 35 = .ok (.getfield 28, 3) := by decide +kernel
theorem dX8_judge_38 : decode cX8_judge 38 = .ok (.getfield 188, 3) := by decide +kernel
theorem dX8_judge_41 : decode cX8_judge 41 = .ok (.invokevirtual 191, 3) := by decide +kernel
theorem dX8_judge_44 : decode cX8_judge 44 = .ok (.tableswitch 85 1 4 #[32, 47, 62, 77], 32) := by decide +kernel
theorem dX8_judge_76 : decode cX8_judge 76 = .ok (.aload_n 0, 1) := by decide +kernel
theorem dX8_judge_77 : decode cX8_judge 77 = .ok (.getfield 42, 3) := by decide +kernel
theorem dX8_judge_80 : decode cX8_judge 80 = .ok (.aload_n 0, 1) := by decide +kernel
theorem dX8_judge_81 : decode cX8_judge 81 = .ok (.getfield 35, 3) := by decide +kernel
theorem dX8_judge_84 : decode cX8_judge 84 = .ok (.invokevirtual 194, 3) := by decide +kernel
theorem dX8_judge_87 : decode cX8_judge 87 = .ok (.istore_n 1, 1) := by decide +kernel
theorem dX8_judge_88 : decode cX8_judge 88 = .ok (.goto 43, 3) := by decide +kernel
theorem dX8_judge_91 : decode cX8_judge 91 = .ok (.aload_n 0, 1) := by decide +kernel
theorem dX8_judge_92 : decode cX8_judge 92 = .ok (.getfield 42, 3) := by decide +kernel
theorem dX8_judge_95 : decode cX8_judge 95 = .ok (.aload_n 0, 1) := by decide +kernel
theorem dX8_judge_96 : decode cX8_judge 96 = .ok (.getfield 35, 3) := by decide +kernel
theorem dX8_judge_99 : decode cX8_judge 99 = .ok (.invokevirtual 198, 3) := by decide +kernel
theorem dX8_judge_102 : decode cX8_judge 102 = .ok (.istore_n 1, 1) := by decide +kernel
theorem dX8_judge_103 : decode cX8_judge 103 = .ok (.goto 28, 3) := by decide +kernel
theorem dX8_judge_106 : decode cX8_judge 106 = .ok (.aload_n 0, 1) := by decide +kernel
theorem dX8_judge_107 : decode cX8_judge 107 = .ok (.getfield 42, 3) := by decide +kernel
theorem dX8_judge_110 : decode cX8_judge 110 = .ok (.aload_n 0, 1) := by decide +kernel
theorem dX8_judge_111 : decode cX8_judge 111 = .ok (.getfield 35, 3) := by decide +kernel
theorem dX8_judge_114 : decode cX8_judge 114 = .ok (.invokevirtual 201, 3) := by decide +kernel
theorem dX8_judge_117 : decode cX8_judge 117 = .ok (.istore_n 1, 1) := by decide +kernel
theorem dX8_judge_118 : decode cX8_judge 118 = .ok (.goto 13, 3) := by decide +kernel
theorem dX8_judge_121 : decode cX8_judge 121 = .ok (.aload_n 0, 1) := by decide +kernel
theorem dX8_judge_122 : decode cX8_judge 122 = .ok (.invokevirtual 204, 3) := by decide +kernel
theorem dX8_judge_125 : decode cX8_judge 125 = .ok (.istore_n 1, 1) := by decide +kernel
theorem dX8_judge_126 : decode cX8_judge 126 = .ok (.goto 5, 3) := by decide +kernel
theorem dX8_judge_129 : decode cX8_judge 129 = .ok (.iconst 3, 1) := by decide +kernel
theorem dX8_judge_130 : decode cX8_judge 130 = .ok (.ireturn, 1) := by decide +kernel
theorem dX8_judge_131 : decode cX8_judge 131 = .ok (.iload_n 1, 1) := by decide +kernel
theorem dX8_judge_132 : decode cX8_judge 132 = .ok (.ifCond .eq 7, 3) := by decide +kernel
theorem dX8_judge_135 : decode cX8_judge 135 = .ok (.iconst 0, 1) := by decide +kernel
theorem dX8_judge_136 : decode cX8_judge 136 = .ok (.goto 4, 3) := by decide +kernel
theorem dX8_judge_139 : decode cX8_judge 139 = .ok (.iconst 4, 1) := by decide +kernel
theorem dX8_judge_140 : decode cX8_judge 140 = .ok (.ireturn, 1) := by decide +kernel
theorem dX8_takePart_0 : decode cX8_takePart 0 = .ok (.aload_n 0, 1) := by decide +kernel
theorem dX8_takePart_1 : decode cX8_takePart 1 = .ok (.getfield 35, 3) := by decide +kernel
theorem dX8_takePart_4 : decode cX8_takePart 4 = .ok (.getfield 208, 3) := by decide +kernel
theorem dX8_takePart_7 : decode cX8_takePart 7 = .ok (.bipush 7, 2) := by decide +kernel
theorem dX8_takePart_9 : decode cX8_takePart 9 = .ok (.if_icmp .eq 5, 3) := by decide +kernel
theorem dX8_takePart_12 : decode cX8_takePart 12 = .ok (.iconst 0, 1) := by decide +kernel
theorem dX8_takePart_13 : decode cX8_takePart 13 = .ok (.ireturn, 1) := by decide +kernel
theorem dX8_takePart_14 : decode cX8_takePart 14 = .ok (.aload_n 0, 1) := by decide +kernel
theorem dX8_takePart_15 : decode cX8_takePart 15 = .ok (.getfield 35, 3) := by decide +kernel
theorem dX8_takePart_18 : decode cX8_takePart 18 = .ok (.iconst 1, 1) := by decide +kernel
theorem dX8_takePart_19 : decode cX8_takePart 19 = .ok (.iconst 1, 1) := by decide +kernel
theorem dX8_takePart_20 : decode cX8_takePart 20 = .ok (.bipush 9, 2) := by decide +kernel
theorem dX8_takePart_22 : decode cX8_takePart 22 = .ok (.invokevirtual 211, 3) := by decide +kernel
theorem dX8_takePart_25 : decode cX8_takePart 25 = .ok (.istore_n 1, 1) := by decide +kernel
theorem dX8_takePart_26 : decode cX8_takePart 26 = .ok (.aload_n 0, 1) := by decide +kernel
theorem dX8_takePart_27 : decode cX8_takePart 27 = .ok (.getfield 35, 3) := by decide +kernel
theorem dX8_takePart_30 : decode cX8_takePart 30 = .ok (.iconst 2, 1) := by decide +kernel
theorem dX8_takePart_31 : decode cX8_takePart 31 = .ok (.iconst 1, 1) := by decide +kernel
theorem dX8_takePart_32 : decode cX8_takePart 32 = .ok (.iload_n 1, 1) := by decide +kernel
theorem dX8_takePart_33 : decode cX8_takePart 33 = .ok (.invokevirtual 211, 3) := by decide +kernel
theorem dX8_takePart_36 : decode cX8_takePart 36 = .ok (.istore_n 2, 1) := by decide +kernel
theorem dX8_takePart_37 : decode cX8_takePart 37 = .ok (.aload_n 0, 1) := by decide +kernel
theorem dX8_takePart_38 : decode cX8_takePart 38 = .ok (.getfield 35, 3) := by decide +kernel
theorem dX8_takePart_41 : decode cX8_takePart 41 = .ok (.iconst 3, 1) := by decide +kernel
theorem dX8_takePart_42 : decode cX8_takePart 42 = .ok (.invokevirtual 215, 3) := by decide +kernel
theorem dX8_takePart_45 : decode cX8_takePart 45 = .ok (.ifCond .eq 8, 3) := by decide +kernel
theorem dX8_takePart_48 : decode cX8_takePart 48 = .ok (.bipush 10, 2) := by decide +kernel
theorem dX8_takePart_50 : decode cX8_takePart 50 = .ok (.goto 14, 3) := by decide +kernel
theorem dX8_takePart_53 : decode cX8_takePart 53 = .ok (.aload_n 0, 1) := by decide +kernel
theorem dX8_takePart_54 : decode cX8_takePart 54 = .ok (.getfield 35, 3) := by decide +kernel
theorem dX8_takePart_57 : decode cX8_takePart 57 = .ok (.iconst 3, 1) := by decide +kernel
theorem dX8_takePart_58 : decode cX8_takePart 58 = .ok (.iconst 0, 1) := by decide +kernel
theorem dX8_takePart_59 : decode cX8_takePart 59 = .ok (.bipush 9, 2) := by decide +kernel
theorem dX8_takePart_61 : decode cX8_takePart 61 = .ok (.invokevirtual 211, 3) := by decide +kernel
theorem dX8_takePart_64 : decode cX8_takePart 64 = .ok (.istore_n 3, 1) := by decide +kernel
theorem dX8_takePart_65 : decode cX8_takePart 65 = .ok (.aload_n 0, 1) := by decide +kernel
theorem dX8_takePart_66 : decode cX8_takePart 66 = .ok (.getfield 35, 3) := by decide +kernel
theorem dX8_takePart_69 : decode cX8_takePart 69 = .ok (.iconst 4, 1) := by decide +kernel
theorem dX8_takePart_70 : decode cX8_takePart 70 = .ok (.ldc 218, 2) := by decide +kernel
theorem dX8_takePart_72 : decode cX8_takePart 72 = .ok (.invokevirtual 220, 3) := by decide +kernel
theorem dX8_takePart_75 : decode cX8_takePart 75 = .ok (.pop, 1) := by decide +kernel
theorem dX8_takePart_76 : decode cX8_takePart 76 = .ok (.aload_n 0, 1) := by decide +kernel
theorem dX8_takePart_77 : decode cX8_takePart 77 = .ok (.getfield 35, 3) := by decide +kernel
theorem dX8_takePart_80 : decode cX8_takePart 80 = .ok (.iconst 5, 1) := by decide +kernel
theorem dX8_takePart_81 : decode cX8_takePart 81 = .ok (.invokevirtual 224, 3) := by decide +kernel
theorem dX8_takePart_84 : decode cX8_takePart 84 = .ok (.aload_n 0, 1) := by decide +kernel
theorem dX8_takePart_85 : decode cX8_takePart 85 = .ok (.getfield 35, 3) := by decide +kernel
theorem dX8_takePart_88 : decode cX8_takePart 88 = .ok (.bipush 6, 2) := by decide +kernel
theorem dX8_takePart_90 : decode cX8_takePart 90 = .ok (.iconst 0, 1) := by decide +kernel
theorem dX8_takePart_91 : decode cX8_takePart 91 = .ok (.iconst 5, 1) := by decide +kernel
theorem dX8_takePart_92 : decode cX8_takePart 92 = .ok (.invokevirtual 211, 3) := by decide +kernel
theorem dX8_takePart_95 : decode cX8_takePart 95 = .ok (.istore 4, 2) := by decide +kernel
theorem dX8_takePart_97 : decode cX8_takePart 97 = .ok (.aload_n 0, 1) := by decide +kernel
theorem dX8_takePart_98 : decode cX8_takePart 98 = .ok (.getfield 35, 3) := by decide +kernel
theorem dX8_takePart_101 : decode cX8_takePart 101 = .ok (.getfield 227, 3) := by decide +kernel
theorem dX8_takePart_104 : decode cX8_takePart 104 = .ok (.ifCond .ne 5, 3) := by decide +kernel
theorem dX8_takePart_107 : decode cX8_takePart 107 = .ok (.iconst 0, 1) := by decide +kernel
theorem dX8_takePart_108 : decode cX8_takePart 108 = .ok (.ireturn, 1) := by decide +kernel
theorem dX8_takePart_109 : decode cX8_takePart 109 = .ok (.aload_n 0, 1) := by decide +kernel
theorem dX8_takePart_110 : decode cX8_takePart 110 = .ok (.iload_n 3, 1) := by decide +kernel
theorem dX8_takePart_111 : decode cX8_takePart 111 = .ok (.iload_n 1, 1) := by decide +kernel
theorem dX8_takePart_112 : decode cX8_takePart 112 = .ok (.iload_n 2, 1) := by decide +kernel
theorem dX8_takePart_113 : decode cX8_takePart 113 = .ok (.invokevirtual 231, 3) := by decide +kernel
theorem dX8_takePart_116 : decode cX8_takePart 116 = .ok (.ifCond .eq 53, 3) := by decide +kernel
theorem dX8_takePart_119 : decode cX8_takePart 119 = .ok (.aload_n 0, 1) := by decide +kernel
theorem dX8_takePart_120 : decode cX8_takePart 120 = .ok (.getfield 49, 3) := by decide +kernel
theorem dX8_takePart_123 : decode cX8_takePart 123 = .ok (.iload_n 3, 1) := by decide +kernel
theorem dX8_takePart_124 : decode cX8_takePart 124 = .ok (.iload_n 1, 1) := by decide +kernel
theorem dX8_takePart_125 : decode cX8_takePart 125 = .ok (.invokevirtual 235, 3) := by decide +kernel
theorem dX8_takePart_128 : decode cX8_takePart 128 = .ok (.astore 5, 2) := by decide +kernel
theorem dX8_takePart_130 : decode cX8_takePart 130 = .ok (.aload_n 0, 1) := by decide +kernel
theorem dX8_takePart_131 : decode cX8_takePart 131 = .ok (.getfield 35, 3) := by decide +kernel
theorem dX8_takePart_134 : decode cX8_takePart 134 = .ok (.iconst 5, 1) := by decide +kernel
theorem dX8_takePart_135 : decode cX8_takePart 135 = .ok (.iload 4, 2) := by decide +kernel
theorem dX8_takePart_137 : decode cX8_takePart 137 = .ok (.aload 5, 2) := by decide +kernel
theorem dX8_takePart_139 : decode cX8_takePart 139 = .ok (.invokevirtual 239, 3) := by decide +kernel
theorem dX8_takePart_142 : decode cX8_takePart 142 = .ok (.iload_n 2, 1) := by decide +kernel
theorem dX8_takePart_143 : decode cX8_takePart 143 = .ok (.iload_n 1, 1) := by decide +kernel
theorem dX8_takePart_144 : decode cX8_takePart 144 = .ok (.if_icmp .ne 25, 3) := by decide +kernel
theorem dX8_takePart_147 : decode cX8_takePart 147 = .ok (.aload_n 0, 1) := by decide +kernel
theorem dX8_takePart_148 : decode cX8_takePart 148 = .ok (.getfield 56, 3) := by decide +kernel
theorem dX8_takePart_151 : decode cX8_takePart 151 = .ok (.aload 5, 2) := by decide +kernel
theorem dX8_takePart_153 : decode cX8_takePart 153 = .ok (.invokevirtual 243, 3) := by decide +kernel
theorem dX8_takePart_156 : decode cX8_takePart 156 = .ok (.aload_n 0, 1) := by decide +kernel
theorem dX8_takePart_157 : decode cX8_takePart 157 = .ok (.getfield 49, 3) := by decide +kernel
theorem dX8_takePart_160 : decode cX8_takePart 160 = .ok (.iload_n 3, 1) := by decide +kernel
theorem dX8_takePart_161 : decode cX8_takePart 161 = .ok (.invokevirtual 247, 3) := by decide +kernel
theorem dX8_takePart_164 : decode cX8_takePart 164 = .ok (.pop, 1) := by decide +kernel
theorem dX8_takePart_165 : decode cX8_takePart 165 = .ok (.aload_n 0, 1) := by decide +kernel
theorem dX8_takePart_166 : decode cX8_takePart 166 = .ok (.invokevirtual 250, 3) := by decide +kernel
theorem dX8_takePart_169 : decode cX8_takePart 169 = .ok (.iconst 1, 1) := by decide +kernel
theorem dX8_takePart_170 : decode cX8_takePart 170 = .ok (.ireturn, 1) := by decide +kernel
theorem dX8_isInOrder_0 : decode cX8_isInOrder 0 = .ok (.iload_n 3, 1) := by decide +kernel
theorem dX8_isInOrder_1 : decode cX8_isInOrder 1 = .ok (.iconst 1, 1) := by decide +kernel
theorem dX8_isInOrder_2 : decode cX8_isInOrder 2 = .ok (.if_icmp .ne 27, 3) := by decide +kernel
theorem dX8_isInOrder_5 : decode cX8_isInOrder 5 = .ok (.aload_n 0, 1) := by decide +kernel
theorem dX8_isInOrder_6 : decode cX8_isInOrder 6 = .ok (.getfield 49, 3) := by decide +kernel
theorem dX8_isInOrder_9 : decode cX8_isInOrder 9 = .ok (.iload_n 1, 1) := by decide +kernel
theorem dX8_isInOrder_10 : decode cX8_isInOrder 10 = .ok (.invokevirtual 247, 3) := by decide +kernel
theorem dX8_isInOrder_13 : decode cX8_isInOrder 13 = .ok (.ifCond .eq 14, 3) := by decide +kernel
theorem dX8_isInOrder_16 : decode cX8_isInOrder 16 = .ok (.aload_n 0, 1) := by decide +kernel
theorem dX8_isInOrder_17 : decode cX8_isInOrder 17 = .ok (.getfield 9, 3) := by decide +kernel
theorem dX8_isInOrder_20 : decode cX8_isInOrder 20 = .ok (.bipush 7, 2) := by decide +kernel
theorem dX8_isInOrder_22 : decode cX8_isInOrder 22 = .ok (.dup2, 1) := by decide +kernel
theorem dX8_isInOrder_23 : decode cX8_isInOrder 23 = .ok (.iaload, 1) := by decide +kernel
theorem dX8_isInOrder_24 : decode cX8_isInOrder 24 = .ok (.iconst 1, 1) := by decide +kernel
theorem dX8_isInOrder_25 : decode cX8_isInOrder 25 = .ok (.iadd, 1) := by decide +kernel
theorem dX8_isInOrder_26 : decode cX8_isInOrder 26 = .ok (.iastore, 1) := by decide +kernel
theorem dX8_isInOrder_27 : decode cX8_isInOrder 27 = .ok (.iconst 1, 1) := by decide +kernel
theorem dX8_isInOrder_28 : decode cX8_isInOrder 28 = .ok (.ireturn, 1) := by decide +kernel
theorem dX8_isInOrder_29 : decode cX8_isInOrder 29 = .ok (.aload_n 0, 1) := by decide +kernel
theorem dX8_isInOrder_30 : decode cX8_isInOrder 30 = .ok (.getfield 49, 3) := by decide +kernel
theorem dX8_isInOrder_33 : decode cX8_isInOrder 33 = .ok (.iload_n 1, 1) := by decide +kernel
theorem dX8_isInOrder_34 : decode cX8_isInOrder 34 = .ok (.iload_n 2, 1) := by decide +kernel
theorem dX8_isInOrder_35 : decode cX8_isInOrder 35 = .ok (.iload_n 3, 1) := by decide +kernel
theorem dX8_isInOrder_36 : decode cX8_isInOrder 36 = .ok (.invokevirtual 253, 3) := by decide +kernel
theorem dX8_isInOrder_39 : decode cX8_isInOrder 39 = .ok (.ifCond .eq 5, 3) := by decide +kernel
theorem dX8_isInOrder_42 : decode cX8_isInOrder 42 = .ok (.iconst 1, 1) := by decide +kernel
theorem dX8_isInOrder_43 : decode cX8_isInOrder 43 = .ok (.ireturn, 1) := by decide +kernel
theorem dX8_isInOrder_44 : decode cX8_isInOrder 44 = .ok (.aload_n 0, 1) := by decide +kernel
theorem dX8_isInOrder_45 : decode cX8_isInOrder 45 = .ok (.getfield 49, 3) := by decide +kernel
theorem dX8_isInOrder_48 : decode cX8_isInOrder 48 = .ok (.iload_n 1, 1) := by decide +kernel
theorem dX8_isInOrder_49 : decode cX8_isInOrder 49 = .ok (.invokevirtual 247, 3) := by decide +kernel
theorem dX8_isInOrder_52 : decode cX8_isInOrder 52 = .ok (.pop, 1) := by decide +kernel
theorem dX8_isInOrder_53 : decode cX8_isInOrder 53 = .ok (.aload_n 0, 1) := by decide +kernel
theorem dX8_isInOrder_54 : decode cX8_isInOrder 54 = .ok (.getfield 9, 3) := by decide +kernel
theorem dX8_isInOrder_57 : decode cX8_isInOrder 57 = .ok (.bipush 7, 2) := by decide +kernel
theorem dX8_isInOrder_59 : decode cX8_isInOrder 59 = .ok (.dup2, 1) := by decide +kernel
theorem dX8_isInOrder_60 : decode cX8_isInOrder 60 = .ok (.iaload, 1) := by decide +kernel
theorem dX8_isInOrder_61 : decode cX8_isInOrder 61 = .ok (.iconst 1, 1) := by decide +kernel
theorem dX8_isInOrder_62 : decode cX8_isInOrder 62 = .ok (.iadd, 1) := by decide +kernel
theorem dX8_isInOrder_63 : decode cX8_isInOrder 63 = .ok (.iastore, 1) := by decide +kernel
theorem dX8_isInOrder_64 : decode cX8_isInOrder 64 = .ok (.iconst 0, 1) := by decide +kernel
theorem dX8_isInOrder_65 : decode cX8_isInOrder 65 = .ok (.ireturn, 1) := by decide +kernel
theorem dX8_receive_0 : decode cX8_receive 0 = .ok (.aload_n 0, 1) := by decide +kernel
theorem dX8_receive_1 : decode cX8_receive 1 = .ok (.getfield 56, 3) := by decide +kernel
theorem dX8_receive_4 : decode cX8_receive 4 = .ok (.getfield 132, 3) := by decide +kernel
theorem dX8_receive_7 : decode cX8_receive 7 = .ok (.bipush 38, 2) := by decide +kernel
theorem dX8_receive_9 : decode cX8_receive 9 = .ok (.if_icmp .ge 8, 3) := by decide +kernel
theorem dX8_receive_12 : decode cX8_receive 12 = .ok (.ldc 74, 2) := by decide +kernel
theorem dX8_receive_14 : decode cX8_receive 14 = .ok (.goto 13, 3) := by decide +kernel
theorem dX8_receive_17 : decode cX8_receive 17 = .ok (.aload_n 0, 1) := by decide +kernel
theorem dX8_receive_18 : decode cX8_receive 18 = .ok (.getfield 56, 3) := by decide +kernel
theorem dX8_receive_21 : decode cX8_receive 21 = .ok (.iconst 0, 1) := by decide +kernel
theorem dX8_receive_22 : decode cX8_receive 22 = .ok (.bipush 6, 2) := by decide +kernel
theorem dX8_receive_24 : decode cX8_receive 24 = .ok (.invokevirtual 137, 3) := by decide +kernel
theorem dX8_receive_27 : decode cX8_receive 27 = .ok (.istore_n 1, 1) := by decide +kernel
theorem dX8_receive_28 : decode cX8_receive 28 = .ok (.iload_n 1, 1) := by decide +kernel
theorem dX8_receive_29 : decode cX8_receive 29 = .ok (.ldc 74, 2) := by decide +kernel
theorem dX8_receive_31 : decode cX8_receive 31 = .ok (.if_icmp .eq 17, 3) := by decide +kernel
theorem dX8_receive_34 : decode cX8_receive 34 = .ok (.iload_n 1, 1) := by decide +kernel
theorem dX8_receive_35 : decode cX8_receive 35 = .ok (.invokestatic 256, 3) := by decide +kernel
theorem dX8_receive_38 : decode cX8_receive 38 = .ok (.aload_n 0, 1) := by decide +kernel
theorem dX8_receive_39 : decode cX8_receive 39 = .ok (.getfield 56, 3) := by decide +kernel
theorem dX8_receive_42 : decode cX8_receive 42 = .ok (.getfield 132, 3) := by decide +kernel
theorem dX8_receive_45 : decode cX8_receive 45 = .ok (.if_icmp .eq 15, 3) := by decide +kernel
theorem dX8_receive_48 : decode cX8_receive 48 = .ok (.aload_n 0, 1) := by decide +kernel
theorem dX8_receive_49 : decode cX8_receive 49 = .ok (.getfield 9, 3) := by decide +kernel
theorem dX8_receive_52 : decode cX8_receive 52 = .ok (.bipush 6, 2) := by decide +kernel
theorem dX8_receive_54 : decode cX8_receive 54 = .ok (.dup2, 1) := by decide +kernel
theorem dX8_receive_55 : decode cX8_receive 55 = .ok (.iaload, 1) := by decide +kernel
theorem dX8_receive_56 : decode cX8_receive 56 = .ok (.iconst 1, 1) := by decide +kernel
theorem dX8_receive_57 : decode cX8_receive 57 = .ok (.iadd, 1) := by decide +kernel
theorem dX8_receive_58 : decode cX8_receive 58 = .ok (.iastore, 1) := by decide +kernel
theorem dX8_receive_59 : decode cX8_receive 59 = .ok (.return_, 1) := by decide +kernel
theorem dX8_receive_60 : decode cX8_receive 60 = .ok (.aload_n 0, 1) := by decide +kernel
theorem dX8_receive_61 : decode cX8_receive 61 = .ok (.getfield 9, 3) := by decide +kernel
theorem dX8_receive_64 : decode cX8_receive 64 = .ok (.iconst 5, 1) := by decide +kernel
theorem dX8_receive_65 : decode cX8_receive 65 = .ok (.dup2, 1) := by decide +kernel
theorem dX8_receive_66 : decode cX8_receive 66 = .ok (.iaload, 1) := by decide +kernel
theorem dX8_receive_67 : decode cX8_receive 67 = .ok (.iconst 1, 1) := by decide +kernel
theorem dX8_receive_68 : decode cX8_receive 68 = .ok (.iadd, 1) := by decide +kernel
theorem dX8_receive_69 : decode cX8_receive 69 = .ok (.iastore, 1) := by decide +kernel
theorem dX8_receive_70 : decode cX8_receive 70 = .ok (.aload_n 0, 1) := by decide +kernel
theorem dX8_receive_71 : decode cX8_receive 71 = .ok (.getfield 63, 3) := by decide +kernel
theorem dX8_receive_74 : decode cX8_receive 74 = .ok (.aload_n 0, 1) := by decide +kernel
theorem dX8_receive_75 : decode cX8_receive 75 = .ok (.getfield 56, 3) := by decide +kernel
theorem dX8_receive_78 : decode cX8_receive 78 = .ok (.bipush 8, 2) := by decide +kernel
theorem dX8_receive_80 : decode cX8_receive 80 = .ok (.bipush 30, 2) := by decide +kernel
theorem dX8_receive_82 : decode cX8_receive 82 = .ok (.invokevirtual 137, 3) := by decide +kernel
theorem dX8_receive_85 : decode cX8_receive 85 = .ok (.invokevirtual 259, 3) := by decide +kernel
theorem dX8_receive_88 : decode cX8_receive 88 = .ok (.astore_n 2, 1) := by decide +kernel
theorem dX8_receive_89 : decode cX8_receive 89 = .ok (.aload_n 2, 1) := by decide +kernel
theorem dX8_receive_90 : decode cX8_receive 90 = .ok (.ifnonnull 15, 3) := by decide +kernel
theorem dX8_receive_93 : decode cX8_receive 93 = .ok (.aload_n 0, 1) := by decide +kernel
theorem dX8_receive_94 : decode cX8_receive 94 = .ok (.getfield 9, 3) := by decide +kernel
theorem dX8_receive_97 : decode cX8_receive 97 = .ok (.bipush 8, 2) := by decide +kernel
theorem dX8_receive_99 : decode cX8_receive 99 = .ok (.dup2, 1) := by decide +kernel
theorem dX8_receive_100 : decode cX8_receive 100 = .ok (.iaload, 1) := by decide +kernel
theorem dX8_receive_101 : decode cX8_receive 101 = .ok (.iconst 1, 1) := by decide +kernel
theorem dX8_receive_102 : decode cX8_receive 102 = .ok (.iadd, 1) := by decide +kernel
theorem dX8_receive_103 : decode cX8_receive 103 = .ok (.iastore, 1) := by decide +kernel
theorem dX8_receive_104 : decode cX8_receive 104 = .ok (.return_, 1) := by decide +kernel
theorem dX8_receive_105 : decode cX8_receive 105 = .ok (.aload_n 2, 1) := by decide +kernel
theorem dX8_receive_106 : decode cX8_receive 106 = .ok (.iload_n 1, 1) := by decide +kernel
theorem dX8_receive_107 : decode cX8_receive 107 = .ok (.aload_n 0, 1) := by decide +kernel
theorem dX8_receive_108 : decode cX8_receive 108 = .ok (.getfield 56, 3) := by decide +kernel
theorem dX8_receive_111 : decode cX8_receive 111 = .ok (.invokevirtual 262, 3) := by decide +kernel
theorem dX8_receive_114 : decode cX8_receive 114 = .ok (.return_, 1) := by decide +kernel
theorem dX8_writeSentence_0 : decode cX8_writeSentence 0 = .ok (.aload_n 0, 1) := by decide +kernel
theorem dX8_writeSentence_1 : decode cX8_writeSentence 1 = .ok (.getfield 22, 3) := by decide +kernel
theorem dX8_writeSentence_4 : decode cX8_writeSentence 4 = .ok (.getfield 78, 3) := by decide +kernel
theorem dX8_writeSentence_7 : decode cX8_writeSentence 7 = .ok (.istore 5, 2) := by decide +kernel
theorem dX8_writeSentence_9 : decode cX8_writeSentence 9 = .ok (.aload_n 0, 1) := by decide +kernel
theorem dX8_writeSentence_10 : decode cX8_writeSentence 10 = .ok (.getfield 22, 3) := by decide +kernel
theorem dX8_writeSentence_13 : decode cX8_writeSentence 13 = .ok (.ldc_w 265, 3) := by decide +kernel
theorem dX8_writeSentence_16 : decode cX8_writeSentence 16 = .ok (.invokevirtual 267, 3) := by decide +kernel
theorem dX8_writeSentence_19 : decode cX8_writeSentence 19 = .ok (.aload_n 0, 1) := by decide +kernel
theorem dX8_writeSentence_20 : decode cX8_writeSentence 20 = .ok (.getfield 22, 3) := by decide +kernel
theorem dX8_writeSentence_23 : decode cX8_writeSentence 23 = .ok (.aload_n 1, 1) := by decide +kernel
theorem dX8_writeSentence_24 : decode cX8_writeSentence 24 = .ok (.invokevirtual 267, 3) := by decide +kernel
theorem dX8_writeSentence_27 : decode cX8_writeSentence 27 = .ok (.iload_n 2, 1) := by decide +kernel
theorem dX8_writeSentence_28 : decode cX8_writeSentence 28 = .ok (.ldc 74, 2) := by decide +kernel
theorem dX8_writeSentence_30 : decode cX8_writeSentence 30 = .ok (.if_icmp .eq 14, 3) := by decide +kernel
theorem dX8_writeSentence_33 : decode cX8_writeSentence 33 = .ok (.aload_n 0, 1) := by decide +kernel
theorem dX8_writeSentence_34 : decode cX8_writeSentence 34 = .ok (.getfield 22, 3) := by decide +kernel
theorem dX8_writeSentence_37 : decode cX8_writeSentence 37 = .ok (.bipush 48, 2) := by decide +kernel
theorem dX8_writeSentence_39 : decode cX8_writeSentence 39 = .ok (.iload_n 2, 1) := by decide +kernel
theorem dX8_writeSentence_40 : decode cX8_writeSentence 40 = .ok (.iadd, 1) := by decide +kernel
theorem dX8_writeSentence_41 : decode cX8_writeSentence 41 = .ok (.invokevirtual 161, 3) := by decide +kernel
theorem dX8_writeSentence_44 : decode cX8_writeSentence 44 = .ok (.aload_n 0, 1) := by decide +kernel
theorem dX8_writeSentence_45 : decode cX8_writeSentence 45 = .ok (.getfield 22, 3) := by decide +kernel
theorem dX8_writeSentence_48 : decode cX8_writeSentence 48 = .ok (.ldc_w 270, 3) := by decide +kernel
theorem dX8_writeSentence_51 : decode cX8_writeSentence 51 = .ok (.invokevirtual 267, 3) := by decide +kernel
theorem dX8_writeSentence_54 : decode cX8_writeSentence 54 = .ok (.iload_n 3, 1) := by decide +kernel
theorem dX8_writeSentence_55 : decode cX8_writeSentence 55 = .ok (.istore 6, 2) := by decide +kernel
theorem dX8_writeSentence_57 : decode cX8_writeSentence 57 = .ok (.iload 6, 2) := by decide +kernel
theorem dX8_writeSentence_59 : decode cX8_writeSentence 59 = .ok (.iload 4, 2) := by decide +kernel
theorem dX8_writeSentence_61 : decode cX8_writeSentence 61 = .ok (.if_icmp .ge 52, 3) := by decide +kernel
theorem dX8_writeSentence_64 : decode cX8_writeSentence 64 = .ok (.aload_n 0, 1) := by decide +kernel
theorem dX8_writeSentence_65 : decode cX8_writeSentence 65 = .ok (.getfield 67, 3) := by decide +kernel
theorem dX8_writeSentence_68 : decode cX8_writeSentence 68 = .ok (.bipush 6, 2) := by decide +kernel
theorem dX8_writeSentence_70 : decode cX8_writeSentence 70 = .ok (.iload 6, 2) := by decide +kernel
theorem dX8_writeSentence_72 : decode cX8_writeSentence 72 = .ok (.imul, 1) := by decide +kernel
theorem dX8_writeSentence_73 : decode cX8_writeSentence 73 = .ok (.bipush 6, 2) := by decide +kernel
theorem dX8_writeSentence_75 : decode cX8_writeSentence 75 = .ok (.invokevirtual 137, 3) := by decide +kernel
theorem dX8_writeSentence_78 : decode cX8_writeSentence 78 = .ok (.istore 7, 2) := by decide +kernel
theorem dX8_writeSentence_80 : decode cX8_writeSentence 80 = .ok (.aload_n 0, 1) := by decide +kernel
theorem dX8_writeSentence_81 : decode cX8_writeSentence 81 = .ok (.getfield 22, 3) := by decide +kernel
theorem dX8_writeSentence_84 : decode cX8_writeSentence 84 = .ok (.iload 7, 2) := by decide +kernel
theorem dX8_writeSentence_86 : decode cX8_writeSentence 86 = .ok (.bipush 40, 2) := by decide +kernel
theorem dX8_writeSentence_88 : decode cX8_writeSentence 88 = .ok (.if_icmp .ge 11, 3) := by decide +kernel
theorem dX8_writeSentence_91 : decode cX8_writeSentence 91 = .ok (.iload 7, 2) := by decide +kernel
theorem dX8_writeSentence_93 : decode cX8_writeSentence 93 = .ok (.bipush 48, 2) := by decide +kernel
theorem dX8_writeSentence_95 : decode cX8_writeSentence 95 = .ok (.iadd, 1) := by decide +kernel
theorem dX8_writeSentence_96 : decode cX8_writeSentence 96 = .ok (.goto 8, 3) := by decide +kernel
theorem dX8_writeSentence_99 : decode cX8_writeSentence 99 = .ok (.iload 7, 2) := by decide +kernel
theorem dX8_writeSentence_101 : decode cX8_writeSentence 101 = .ok (.bipush 56, 2) := by decide +kernel
theorem dX8_writeSentence_103 : decode cX8_writeSentence 103 = .ok (.iadd, 1) := by decide +kernel
theorem dX8_writeSentence_104 : decode cX8_writeSentence 104 = .ok (.invokevirtual 161, 3) := by decide +kernel
theorem dX8_writeSentence_107 : decode cX8_writeSentence 107 = .ok (.iinc 6 1, 3) := by decide +kernel
theorem dX8_writeSentence_110 : decode cX8_writeSentence 110 = .ok (.goto (-53), 3) := by decide +kernel
theorem dX8_writeSentence_113 : decode cX8_writeSentence 113 = .ok (.bipush 6, 2) := by decide +kernel
theorem dX8_writeSentence_115 : decode cX8_writeSentence 115 = .ok (.iload 4, 2) := by decide +kernel
theorem dX8_writeSentence_117 : decode cX8_writeSentence 117 = .ok (.imul, 1) := by decide +kernel
theorem dX8_writeSentence_118 : decode cX8_writeSentence 118 = .ok (.aload_n 0, 1) := by decide +kernel
theorem dX8_writeSentence_119 : decode cX8_writeSentence 119 = .ok (.getfield 67, 3) := by decide +kernel
theorem dX8_writeSentence_122 : decode cX8_writeSentence 122 = .ok (.getfield 132, 3) := by decide +kernel
theorem dX8_writeSentence_125 : decode cX8_writeSentence 125 = .ok (.isub, 1) := by decide +kernel
theorem dX8_writeSentence_126 : decode cX8_writeSentence 126 = .ok (.istore 6, 2) := by decide +kernel
theorem dX8_writeSentence_128 : decode cX8_writeSentence 128 = .ok (.aload_n 0, 1) := by decide +kernel
theorem dX8_writeSentence_129 : decode cX8_writeSentence 129 = .ok (.getfield 22, 3) := by decide +kernel
theorem dX8_writeSentence_132 : decode cX8_writeSentence 132 = .ok (.bipush 44, 2) := by decide +kernel
theorem dX8_writeSentence_134 : decode cX8_writeSentence 134 = .ok (.invokevirtual 161, 3) := by decide +kernel
theorem dX8_writeSentence_137 : decode cX8_writeSentence 137 = .ok (.aload_n 0, 1) := by decide +kernel
theorem dX8_writeSentence_138 : decode cX8_writeSentence 138 = .ok (.getfield 22, 3) := by decide +kernel
theorem dX8_writeSentence_141 : decode cX8_writeSentence 141 = .ok (.bipush 48, 2) := by decide +kernel
theorem dX8_writeSentence_143 : decode cX8_writeSentence 143 = .ok (.iload 6, 2) := by decide +kernel
theorem dX8_writeSentence_145 : decode cX8_writeSentence 145 = .ok (.ifCond .le 8, 3) := by decide +kernel
theorem dX8_writeSentence_148 : decode cX8_writeSentence 148 = .ok (.iload 6, 2) := by decide +kernel
theorem dX8_writeSentence_150 : decode cX8_writeSentence 150 = .ok (.goto 4, 3) := by decide +kernel
theorem dX8_writeSentence_153 : decode cX8_writeSentence 153 = .ok (.iconst 0, 1) := by decide +kernel
theorem dX8_writeSentence_154 : decode cX8_writeSentence 154 = .ok (.iadd, 1) := by decide +kernel
theorem dX8_writeSentence_155 : decode cX8_writeSentence 155 = .ok (.invokevirtual 161, 3) := by decide +kernel
theorem dX8_writeSentence_158 : decode cX8_writeSentence 158 = .ok (.aload_n 0, 1) := by decide +kernel
theorem dX8_writeSentence_159 : decode cX8_writeSentence 159 = .ok (.iload 5, 2) := by decide +kernel
theorem dX8_writeSentence_161 : decode cX8_writeSentence 161 = .ok (.invokevirtual 272, 3) := by decide +kernel
theorem dX8_writeSentence_164 : decode cX8_writeSentence 164 = .ok (.return_, 1) := by decide +kernel
theorem dX8_closeSentence_0 : decode cX8_closeSentence 0 = .ok (.iconst 0, 1) := by decide +kernel
theorem dX8_closeSentence_1 : decode cX8_closeSentence 1 = .ok (.istore_n 2, 1) := by decide +kernel
theorem dX8_closeSentence_2 : decode cX8_closeSentence 2 = .ok (.iload_n 1, 1) := by decide +kernel
theorem dX8_closeSentence_3 : decode cX8_closeSentence 3 = .ok (.iconst 1, 1) := by decide +kernel
theorem dX8_closeSentence_4 : decode cX8_closeSentence 4 = .ok (.iadd, 1) := by decide +kernel
theorem dX8_closeSentence_5 : decode cX8_closeSentence 5 = .ok (.istore_n 3, 1) := by decide +kernel
theorem dX8_closeSentence_6 : decode cX8_closeSentence 6 = .ok (.iload_n 3, 1) := by decide +kernel
theorem dX8_closeSentence_7 : decode cX8_closeSentence 7 = .ok (.aload_n 0, 1) := by decide +kernel
theorem dX8_closeSentence_8 : decode cX8_closeSentence 8 = .ok (.getfield 22, 3) := by decide +kernel
theorem dX8_closeSentence_11 : decode cX8_closeSentence 11 = .ok (.getfield 78, 3) := by decide +kernel
theorem dX8_closeSentence_14 : decode cX8_closeSentence 14 = .ok (.if_icmp .ge 20, 3) := by decide +kernel
theorem dX8_closeSentence_17 : decode cX8_closeSentence 17 = .ok (.iload_n 2, 1) := by decide +kernel
theorem dX8_closeSentence_18 : decode cX8_closeSentence 18 = .ok (.aload_n 0, 1) := by decide +kernel
theorem dX8_closeSentence_19 : decode cX8_closeSentence 19 = .ok (.getfield 22, 3) := by decide +kernel
theorem dX8_closeSentence_22 : decode cX8_closeSentence 22 = .ok (.iload_n 3, 1) := by decide +kernel
theorem dX8_closeSentence_23 : decode cX8_closeSentence 23 = .ok (.invokevirtual 82, 3) := by decide +kernel
theorem dX8_closeSentence_26 : decode cX8_closeSentence 26 = .ok (.ixor, 1) := by decide +kernel
theorem dX8_closeSentence_27 : decode cX8_closeSentence 27 = .ok (.istore_n 2, 1) := by decide +kernel
theorem dX8_closeSentence_28 : decode cX8_closeSentence 28 = .ok (.iinc 3 1, 3) := by decide +kernel
theorem dX8_closeSentence_31 : decode cX8_closeSentence 31 = .ok (.goto (-25), 3) := by decide +kernel
theorem dX8_closeSentence_34 : decode cX8_closeSentence 34 = .ok (.aload_n 0, 1) := by decide +kernel
theorem dX8_closeSentence_35 : decode cX8_closeSentence 35 = .ok (.getfield 22, 3) := by decide +kernel
theorem dX8_closeSentence_38 : decode cX8_closeSentence 38 = .ok (.bipush 42, 2) := by decide +kernel
theorem dX8_closeSentence_40 : decode cX8_closeSentence 40 = .ok (.invokevirtual 161, 3) := by decide +kernel
theorem dX8_closeSentence_43 : decode cX8_closeSentence 43 = .ok (.aload_n 0, 1) := by decide +kernel
theorem dX8_closeSentence_44 : decode cX8_closeSentence 44 = .ok (.getfield 22, 3) := by decide +kernel
theorem dX8_closeSentence_47 : decode cX8_closeSentence 47 = .ok (.iload_n 2, 1) := by decide +kernel
theorem dX8_closeSentence_48 : decode cX8_closeSentence 48 = .ok (.iconst 4, 1) := by decide +kernel
theorem dX8_closeSentence_49 : decode cX8_closeSentence 49 = .ok (.ishr, 1) := by decide +kernel
theorem dX8_closeSentence_50 : decode cX8_closeSentence 50 = .ok (.bipush 15, 2) := by decide +kernel
theorem dX8_closeSentence_52 : decode cX8_closeSentence 52 = .ok (.iand, 1) := by decide +kernel
theorem dX8_closeSentence_53 : decode cX8_closeSentence 53 = .ok (.invokestatic 275, 3) := by decide +kernel
theorem dX8_closeSentence_56 : decode cX8_closeSentence 56 = .ok (.invokevirtual 161, 3) := by decide +kernel
theorem dX8_closeSentence_59 : decode cX8_closeSentence 59 = .ok (.aload_n 0, 1) := by decide +kernel
theorem dX8_closeSentence_60 : decode cX8_closeSentence 60 = .ok (.getfield 22, 3) := by decide +kernel
theorem dX8_closeSentence_63 : decode cX8_closeSentence 63 = .ok (.iload_n 2, 1) := by decide +kernel
theorem dX8_closeSentence_64 : decode cX8_closeSentence 64 = .ok (.bipush 15, 2) := by decide +kernel
theorem dX8_closeSentence_66 : decode cX8_closeSentence 66 = .ok (.iand, 1) := by decide +kernel
theorem dX8_closeSentence_67 : decode cX8_closeSentence 67 = .ok (.invokestatic 275, 3) := by decide +kernel
theorem dX8_closeSentence_70 : decode cX8_closeSentence 70 = .ok (.invokevirtual 161, 3) := by decide +kernel
theorem dX8_closeSentence_73 : decode cX8_closeSentence 73 = .ok (.aload_n 0, 1) := by decide +kernel
theorem dX8_closeSentence_74 : decode cX8_closeSentence 74 = .ok (.getfield 22, 3) := by decide +kernel
theorem dX8_closeSentence_77 : decode cX8_closeSentence 77 = .ok (.bipush 13, 2) := by decide +kernel
theorem dX8_closeSentence_79 : decode cX8_closeSentence 79 = .ok (.invokevirtual 161, 3) := by decide +kernel
theorem dX8_closeSentence_82 : decode cX8_closeSentence 82 = .ok (.aload_n 0, 1) := by decide +kernel
theorem dX8_closeSentence_83 : decode cX8_closeSentence 83 = .ok (.getfield 22, 3) := by decide +kernel
theorem dX8_closeSentence_86 : decode cX8_closeSentence 86 = .ok (.bipush 10, 2) := by decide +kernel
theorem dX8_closeSentence_88 : decode cX8_closeSentence 88 = .ok (.invokevirtual 161, 3) := by decide +kernel
theorem dX8_closeSentence_91 : decode cX8_closeSentence 91 = .ok (.return_, 1) := by decide +kernel
theorem dX8_sixteen_0 : decode cX8_sixteen 0 = .ok (.iload_n 0, 1) := by decide +kernel
theorem dX8_sixteen_1 : decode cX8_sixteen 1 = .ok (.bipush 10, 2) := by decide +kernel
theorem dX8_sixteen_3 : decode cX8_sixteen 3 = .ok (.if_icmp .ge 10, 3) := by decide +kernel
theorem dX8_sixteen_6 : decode cX8_sixteen 6 = .ok (.bipush 48, 2) := by decide +kernel
theorem dX8_sixteen_8 : decode cX8_sixteen 8 = .ok (.iload_n 0, 1) := by decide +kernel
theorem dX8_sixteen_9 : decode cX8_sixteen 9 = .ok (.iadd, 1) := by decide +kernel
theorem dX8_sixteen_10 : decode cX8_sixteen 10 = .ok (.goto 10, 3) := by decide +kernel
theorem dX8_sixteen_13 : decode cX8_sixteen 13 = .ok (.bipush 65, 2) := by decide +kernel
theorem dX8_sixteen_15 : decode cX8_sixteen 15 = .ok (.iload_n 0, 1) := by decide +kernel
theorem dX8_sixteen_16 : decode cX8_sixteen 16 = .ok (.iadd, 1) := by decide +kernel
theorem dX8_sixteen_17 : decode cX8_sixteen 17 = .ok (.bipush 10, 2) := by decide +kernel
theorem dX8_sixteen_19 : decode cX8_sixteen 19 = .ok (.isub, 1) := by decide +kernel
theorem dX8_sixteen_20 : decode cX8_sixteen 20 = .ok (.ireturn, 1) := by decide +kernel
theorem dJ11_isValidCodePoint_9a6ad_0 : decode cJ11_isValidCodePoint_9a6ad 0 = .ok (.iload_n 0, 1) := by decide +kernel
theorem dJ11_isValidCodePoint_9a6ad_1 : decode cJ11_isValidCodePoint_9a6ad 1 = .ok (.bipush 16, 2) := by decide +kernel
theorem dJ11_isValidCodePoint_9a6ad_3 : decode cJ11_isValidCodePoint_9a6ad 3 = .ok (.iushr, 1) := by decide +kernel
theorem dJ11_isValidCodePoint_9a6ad_4 : decode cJ11_isValidCodePoint_9a6ad 4 = .ok (.istore_n 1, 1) := by decide +kernel
theorem dJ11_isValidCodePoint_9a6ad_5 : decode cJ11_isValidCodePoint_9a6ad 5 = .ok (.iload_n 1, 1) := by decide +kernel
theorem dJ11_isValidCodePoint_9a6ad_6 : decode cJ11_isValidCodePoint_9a6ad 6 = .ok (.bipush 17, 2) := by decide +kernel
theorem dJ11_isValidCodePoint_9a6ad_8 : decode cJ11_isValidCodePoint_9a6ad 8 = .ok (.if_icmp .ge 7, 3) := by decide +kernel
theorem dJ11_isValidCodePoint_9a6ad_11 : decode cJ11_isValidCodePoint_9a6ad 11 = .ok (.iconst 1, 1) := by decide +kernel
theorem dJ11_isValidCodePoint_9a6ad_12 : decode cJ11_isValidCodePoint_9a6ad 12 = .ok (.goto 4, 3) := by decide +kernel
theorem dJ11_isValidCodePoint_9a6ad_15 : decode cJ11_isValidCodePoint_9a6ad 15 = .ok (.iconst 0, 1) := by decide +kernel
theorem dJ11_isValidCodePoint_9a6ad_16 : decode cJ11_isValidCodePoint_9a6ad 16 = .ok (.ireturn, 1) := by decide +kernel
theorem dJ11_highSurrogate_5068e_0 : decode cJ11_highSurrogate_5068e 0 = .ok (.iload_n 0, 1) := by decide +kernel
theorem dJ11_highSurrogate_5068e_1 : decode cJ11_highSurrogate_5068e 1 = .ok (.bipush 10, 2) := by decide +kernel
theorem dJ11_highSurrogate_5068e_3 : decode cJ11_highSurrogate_5068e 3 = .ok (.iushr, 1) := by decide +kernel
theorem dJ11_highSurrogate_5068e_4 : decode cJ11_highSurrogate_5068e 4 = .ok (.ldc 110, 2) := by decide +kernel
theorem dJ11_highSurrogate_5068e_6 : decode cJ11_highSurrogate_5068e 6 = .ok (.iadd, 1) := by decide +kernel
theorem dJ11_highSurrogate_5068e_7 : decode cJ11_highSurrogate_5068e 7 = .ok (.i2c, 1) := by decide +kernel
theorem dJ11_highSurrogate_5068e_8 : decode cJ11_highSurrogate_5068e 8 = .ok (.ireturn, 1) := by decide +kernel
theorem dJ11_lowSurrogate_5068e_0 : decode cJ11_lowSurrogate_5068e 0 = .ok (.iload_n 0, 1) := by decide +kernel
theorem dJ11_lowSurrogate_5068e_1 : decode cJ11_lowSurrogate_5068e 1 = .ok (.sipush 1023, 3) := by decide +kernel
theorem dJ11_lowSurrogate_5068e_4 : decode cJ11_lowSurrogate_5068e 4 = .ok (.iand, 1) := by decide +kernel
theorem dJ11_lowSurrogate_5068e_5 : decode cJ11_lowSurrogate_5068e 5 = .ok (.ldc 76, 2) := by decide +kernel
theorem dJ11_lowSurrogate_5068e_7 : decode cJ11_lowSurrogate_5068e 7 = .ok (.iadd, 1) := by decide +kernel
theorem dJ11_lowSurrogate_5068e_8 : decode cJ11_lowSurrogate_5068e 8 = .ok (.i2c, 1) := by decide +kernel
theorem dJ11_lowSurrogate_5068e_9 : decode cJ11_lowSurrogate_5068e 9 = .ok (.ireturn, 1) := by decide +kernel
theorem dJ9_max_7cf53_0 : decode cJ9_max_7cf53 0 = .ok (.iload_n 0, 1) := by decide +kernel
theorem dJ9_max_7cf53_1 : decode cJ9_max_7cf53 1 = .ok (.iload_n 1, 1) := by decide +kernel
theorem dJ9_max_7cf53_2 : decode cJ9_max_7cf53 2 = .ok (.if_icmp .lt 7, 3) := by decide +kernel
theorem dJ9_max_7cf53_5 : decode cJ9_max_7cf53 5 = .ok (.iload_n 0, 1) := by decide +kernel
theorem dJ9_max_7cf53_6 : decode cJ9_max_7cf53 6 = .ok (.goto 4, 3) := by decide +kernel
theorem dJ9_max_7cf53_9 : decode cJ9_max_7cf53 9 = .ok (.iload_n 1, 1) := by decide +kernel
theorem dJ9_max_7cf53_10 : decode cJ9_max_7cf53 10 = .ok (.ireturn, 1) := by decide +kernel
theorem dJ9_min_7cf53_0 : decode cJ9_min_7cf53 0 = .ok (.iload_n 0, 1) := by decide +kernel
theorem dJ9_min_7cf53_1 : decode cJ9_min_7cf53 1 = .ok (.iload_n 1, 1) := by decide +kernel
theorem dJ9_min_7cf53_2 : decode cJ9_min_7cf53 2 = .ok (.if_icmp .gt 7, 3) := by decide +kernel
theorem dJ9_min_7cf53_5 : decode cJ9_min_7cf53 5 = .ok (.iload_n 0, 1) := by decide +kernel
theorem dJ9_min_7cf53_6 : decode cJ9_min_7cf53 6 = .ok (.goto 4, 3) := by decide +kernel
theorem dJ9_min_7cf53_9 : decode cJ9_min_7cf53 9 = .ok (.iload_n 1, 1) := by decide +kernel
theorem dJ9_min_7cf53_10 : decode cJ9_min_7cf53 10 = .ok (.ireturn, 1) := by decide +kernel
theorem dJ0_length_8abf5_0 : decode cJ0_length_8abf5 0 = .ok (.aload_n 0, 1) := by decide +kernel
theorem dJ0_length_8abf5_1 : decode cJ0_length_8abf5 1 = .ok (.getfield 9, 3) := by decide +kernel
theorem dJ0_length_8abf5_4 : decode cJ0_length_8abf5 4 = .ok (.arraylength, 1) := by decide +kernel
theorem dJ0_length_8abf5_5 : decode cJ0_length_8abf5 5 = .ok (.aload_n 0, 1) := by decide +kernel
theorem dJ0_length_8abf5_6 : decode cJ0_length_8abf5 6 = .ok (.invokevirtual 335, 3) := by decide +kernel
theorem dJ0_length_8abf5_9 : decode cJ0_length_8abf5 9 = .ok (.ishr, 1) := by decide +kernel
theorem dJ0_length_8abf5_10 : decode cJ0_length_8abf5 10 = .ok (.ireturn, 1) := by decide +kernel
theorem dJ0_charAt_5068e_0 : decode cJ0_charAt_5068e 0 = .ok (.aload_n 0, 1) := by decide +kernel
theorem dJ0_charAt_5068e_1 : decode cJ0_charAt_5068e 1 = .ok (.invokevirtual 492, 3) := by decide +kernel
theorem dJ0_charAt_5068e_4 : decode cJ0_charAt_5068e 4 = .ok (.ifCond .eq 12, 3) := by decide +kernel
theorem dJ0_charAt_5068e_7 : decode cJ0_charAt_5068e 7 = .ok (.aload_n 0, 1) := by decide +kernel
theorem dJ0_charAt_5068e_8 : decode cJ0_charAt_5068e 8 = .ok (.getfield 9, 3) := by decide +kernel
theorem dJ0_charAt_5068e_11 : decode cJ0_charAt_5068e 11 = .ok (.iload_n 1, 1) := by decide +kernel
theorem dJ0_charAt_5068e_12 : decode cJ0_charAt_5068e 12 = .ok (.invokestatic 495, 3) := by decide +kernel
theorem dJ0_charAt_5068e_15 : decode cJ0_charAt_5068e 15 = .ok (.ireturn, 1) := by decide +kernel
theorem dJ0_charAt_5068e_16 : decode cJ0_charAt_5068e 16 = .ok (.aload_n 0, 1) := by decide +kernel
theorem dJ0_charAt_5068e_17 : decode cJ0_charAt_5068e 17 = .ok (.getfield 9, 3) := by decide +kernel
theorem dJ0_charAt_5068e_20 : decode cJ0_charAt_5068e 20 = .ok (.iload_n 1, 1) := by decide +kernel
theorem dJ0_charAt_5068e_21 : decode cJ0_charAt_5068e 21 = .ok (.invokestatic 498, 3) := by decide +kernel
theorem dJ0_charAt_5068e_24 : decode cJ0_charAt_5068e 24 = .ok (.ireturn, 1) := by decide +kernel
theorem dJ0_indexOf_0f7a4_0 : decode cJ0_indexOf_0f7a4 0 = .ok (.aload_n 0, 1) := by decide +kernel
theorem dJ0_indexOf_0f7a4_1 : decode cJ0_indexOf_0f7a4 1 = .ok (.iload_n 1, 1) := by decide +kernel
theorem dJ0_indexOf_0f7a4_2 : decode cJ0_indexOf_0f7a4 2 = .ok (.iconst 0, 1) := by decide +kernel
theorem dJ0_indexOf_0f7a4_3 : decode cJ0_indexOf_0f7a4 3 = .ok (.invokevirtual 633, 3) := by decide +kernel
theorem dJ0_indexOf_0f7a4_6 : decode cJ0_indexOf_0f7a4 6 = .ok (.ireturn, 1) := by decide +kernel
theorem dJ0_indexOf_7cf53_0 : decode cJ0_indexOf_7cf53 0 = .ok (.aload_n 0, 1) := by decide +kernel
theorem dJ0_indexOf_7cf53_1 : decode cJ0_indexOf_7cf53 1 = .ok (.invokevirtual 492, 3) := by decide +kernel
theorem dJ0_indexOf_7cf53_4 : decode cJ0_indexOf_7cf53 4 = .ok (.ifCond .eq 19, 3) := by decide +kernel
theorem dJ0_indexOf_7cf53_7 : decode cJ0_indexOf_7cf53 7 = .ok (.aload_n 0, 1) := by decide +kernel
theorem dJ0_indexOf_7cf53_8 : decode cJ0_indexOf_7cf53 8 = .ok (.getfield 9, 3) := by decide +kernel
theorem dJ0_indexOf_7cf53_11 : decode cJ0_indexOf_7cf53 11 = .ok (.iload_n 1, 1) := by decide +kernel
theorem dJ0_indexOf_7cf53_12 : decode cJ0_indexOf_7cf53 12 = .ok (.iload_n 2, 1) := by decide +kernel
theorem dJ0_indexOf_7cf53_13 : decode cJ0_indexOf_7cf53 13 = .ok (.aload_n 0, 1) := by decide +kernel
theorem dJ0_indexOf_7cf53_14 : decode cJ0_indexOf_7cf53 14 = .ok (.invokevirtual 505, 3) := by decide +kernel
theorem dJ0_indexOf_7cf53_17 : decode cJ0_indexOf_7cf53 17 = .ok (.invokestatic 637, 3) := by decide +kernel
theorem dJ0_indexOf_7cf53_20 : decode cJ0_indexOf_7cf53 20 = .ok (.goto 16, 3) := by decide +kernel
theorem dJ0_indexOf_7cf53_23 : decode cJ0_indexOf_7cf53 23 = .ok (.aload_n 0, 1) := by decide +kernel
theorem dJ0_indexOf_7cf53_24 : decode cJ0_indexOf_7cf53 24 = .ok (.getfield 9, 3) := by decide +kernel
theorem dJ0_indexOf_7cf53_27 : decode cJ0_indexOf_7cf53 27 = .ok (.iload_n 1, 1) := by decide +kernel
theorem dJ0_indexOf_7cf53_28 : decode cJ0_indexOf_7cf53 28 = .ok (.iload_n 2, 1) := by decide +kernel
theorem dJ0_indexOf_7cf53_29 : decode cJ0_indexOf_7cf53 29 = .ok (.aload_n 0, 1) := by decide +kernel
theorem dJ0_indexOf_7cf53_30 : decode cJ0_indexOf_7cf53 30 = .ok (.invokevirtual 505, 3) := by decide +kernel
theorem dJ0_indexOf_7cf53_33 : decode cJ0_indexOf_7cf53 33 = .ok (.invokestatic 640, 3) := by decide +kernel
theorem dJ0_indexOf_7cf53_36 : decode cJ0_indexOf_7cf53 36 = .ok (.ireturn, 1) := by decide +kernel
theorem dJ0_coder_7d493_0 : decode cJ0_coder_7d493 0 = .ok (.getstatic 38, 3) := by decide +kernel
theorem dJ0_coder_7d493_3 : decode cJ0_coder_7d493 3 = .ok (.ifCond .eq 10, 3) := by decide +kernel
theorem dJ0_coder_7d493_6 : decode cJ0_coder_7d493 6 = .ok (.aload_n 0, 1) := by decide +kernel
theorem dJ0_coder_7d493_7 : decode cJ0_coder_7d493 7 = .ok (.getfield 15, 3) := by decide +kernel
theorem dJ0_coder_7d493_10 : decode cJ0_coder_7d493 10 = .ok (.goto 4, 3) := by decide +kernel
theorem dJ0_coder_7d493_13 : decode cJ0_coder_7d493 13 = .ok (.iconst 1, 1) := by decide +kernel
theorem dJ0_coder_7d493_14 : decode cJ0_coder_7d493 14 = .ok (.ireturn, 1) := by decide +kernel
theorem dJ0_isLatin1_aae02_0 : decode cJ0_isLatin1_aae02 0 = .ok (.getstatic 38, 3) := by decide +kernel
theorem dJ0_isLatin1_aae02_3 : decode cJ0_isLatin1_aae02 3 = .ok (.ifCond .eq 14, 3) := by decide +kernel
theorem dJ0_isLatin1_aae02_6 : decode cJ0_isLatin1_aae02 6 = .ok (.aload_n 0, 1) := by decide +kernel
theorem dJ0_isLatin1_aae02_7 : decode cJ0_isLatin1_aae02 7 = .ok (.getfield 15, 3) := by decide +kernel
theorem dJ0_isLatin1_aae02_10 : decode cJ0_isLatin1_aae02 10 = .ok (.ifCond .ne 7, 3) := by decide +kernel
theorem dJ0_isLatin1_aae02_13 : decode cJ0_isLatin1_aae02 13 = .ok (.iconst 1, 1) := by decide +kernel
theorem dJ0_isLatin1_aae02_14 : decode cJ0_isLatin1_aae02 14 = .ok (.goto 4, 3) := by decide +kernel
theorem dJ0_isLatin1_aae02_17 : decode cJ0_isLatin1_aae02 17 = .ok (.iconst 0, 1) := by decide +kernel
theorem dJ0_isLatin1_aae02_18 : decode cJ0_isLatin1_aae02 18 = .ok (.ireturn, 1) := by decide +kernel
theorem dJ0_checkIndex_df160_0 : decode cJ0_checkIndex_df160 0 = .ok (.iload_n 0, 1) := by decide +kernel
theorem dJ0_checkIndex_df160_1 : decode cJ0_checkIndex_df160 1 = .ok (.iload_n 1, 1) := by decide +kernel
theorem dJ0_checkIndex_df160_2 : decode cJ0_checkIndex_df160 2 = .ok (.getstatic 1053, 3) := by decide +kernel
theorem dJ0_checkIndex_df160_5 : decode cJ0_checkIndex_df160 5 = .ok (.invokestatic 1059, 3) := by decide +kernel
theorem dJ0_checkIndex_df160_8 : decode cJ0_checkIndex_df160 8 = .ok (.pop, 1) := by decide +kernel
theorem dJ0_checkIndex_df160_9 : decode cJ0_checkIndex_df160 9 = .ok (.return_, 1) := by decide +kernel
theorem dJ0_checkBoundsBeginEnd_23922_0 : decode cJ0_checkBoundsBeginEnd_23922 0 = .ok (.iload_n 0, 1) := by decide +kernel
theorem dJ0_checkBoundsBeginEnd_23922_1 : decode cJ0_checkBoundsBeginEnd_23922 1 = .ok (.iload_n 1, 1) := by decide +kernel
theorem dJ0_checkBoundsBeginEnd_23922_2 : decode cJ0_checkBoundsBeginEnd_23922 2 = .ok (.iload_n 2, 1) := by decide +kernel
theorem dJ0_checkBoundsBeginEnd_23922_3 : decode cJ0_checkBoundsBeginEnd_23922 3 = .ok (.getstatic 1053, 3) := by decide +kernel
theorem dJ0_checkBoundsBeginEnd_23922_6 : decode cJ0_checkBoundsBeginEnd_23922 6 = .ok (.invokestatic 1062, 3) := by decide +kernel
theorem dJ0_checkBoundsBeginEnd_23922_9 : decode cJ0_checkBoundsBeginEnd_23922 9 = .ok (.pop, 1) := by decide +kernel
theorem dJ0_checkBoundsBeginEnd_23922_10 : decode cJ0_checkBoundsBeginEnd_23922 10 = .ok (.return_, 1) := by decide +kernel
theorem dJ1_charAt_3b067_0 : decode cJ1_charAt_3b067 0 = .ok (.iload_n 1, 1) := by decide +kernel
theorem dJ1_charAt_3b067_1 : decode cJ1_charAt_3b067 1 = .ok (.aload_n 0, 1) := by decide +kernel
theorem dJ1_charAt_3b067_2 : decode cJ1_charAt_3b067 2 = .ok (.arraylength, 1) := by decide +kernel
theorem dJ1_charAt_3b067_3 : decode cJ1_charAt_3b067 3 = .ok (.invokestatic 9, 3) := by decide +kernel
theorem dJ1_charAt_3b067_6 : decode cJ1_charAt_3b067 6 = .ok (.aload_n 0, 1) := by decide +kernel
theorem dJ1_charAt_3b067_7 : decode cJ1_charAt_3b067 7 = .ok (.iload_n 1, 1) := by decide +kernel
theorem dJ1_charAt_3b067_8 : decode cJ1_charAt_3b067 8 = .ok (.baload, 1) := by decide +kernel
theorem dJ1_charAt_3b067_9 : decode cJ1_charAt_3b067 9 = .ok (.sipush 255, 3) := by decide +kernel
theorem dJ1_charAt_3b067_12 : decode cJ1_charAt_3b067 12 = .ok (.iand, 1) := by decide +kernel
theorem dJ1_charAt_3b067_13 : decode cJ1_charAt_3b067 13 = .ok (.i2c, 1) := by decide +kernel
theorem dJ1_charAt_3b067_14 : decode cJ1_charAt_3b067 14 = .ok (.ireturn, 1) := by decide +kernel
theorem dJ1_canEncode_9a6ad_0 : decode cJ1_canEncode_9a6ad 0 = .ok (.iload_n 0, 1) := by decide +kernel
theorem dJ1_canEncode_9a6ad_1 : decode cJ1_canEncode_9a6ad 1 = .ok (.ifCond .lt 14, 3) := by decide +kernel
theorem dJ1_canEncode_9a6ad_4 : decode cJ1_canEncode_9a6ad 4 = .ok (.iload_n 0, 1) := by decide +kernel
theorem dJ1_canEncode_9a6ad_5 : decode cJ1_canEncode_9a6ad 5 = .ok (.sipush 255, 3) := by decide +kernel
theorem dJ1_canEncode_9a6ad_8 : decode cJ1_canEncode_9a6ad 8 = .ok (.if_icmp .gt 7, 3) := by decide +kernel
theorem dJ1_canEncode_9a6ad_11 : decode cJ1_canEncode_9a6ad 11 = .ok (.iconst 1, 1) := by decide +kernel
theorem dJ1_canEncode_9a6ad_12 : decode cJ1_canEncode_9a6ad 12 = .ok (.goto 4, 3) := by decide +kernel
theorem dJ1_canEncode_9a6ad_15 : decode cJ1_canEncode_9a6ad 15 = .ok (.iconst 0, 1) := by decide +kernel
theorem dJ1_canEncode_9a6ad_16 : decode cJ1_canEncode_9a6ad 16 = .ok (.ireturn, 1) := by decide +kernel
theorem dJ1_indexOf_4cfef_0 : decode cJ1_indexOf_4cfef 0 = .ok (.iload_n 1, 1) := by decide +kernel
theorem dJ1_indexOf_4cfef_1 : decode cJ1_indexOf_4cfef 1 = .ok (.invokestatic 88, 3) := by decide +kernel
theorem dJ1_indexOf_4cfef_4 : decode cJ1_indexOf_4cfef 4 = .ok (.ifCond .ne 5, 3) := by decide +kernel
theorem dJ1_indexOf_4cfef_7 : decode cJ1_indexOf_4cfef 7 = .ok (.iconst (-1), 1) := by decide +kernel
theorem dJ1_indexOf_4cfef_8 : decode cJ1_indexOf_4cfef 8 = .ok (.ireturn, 1) := by decide +kernel
theorem dJ1_indexOf_4cfef_9 : decode cJ1_indexOf_4cfef 9 = .ok (.iload_n 2, 1) := by decide +kernel
theorem dJ1_indexOf_4cfef_10 : decode cJ1_indexOf_4cfef 10 = .ok (.iconst 0, 1) := by decide +kernel
theorem dJ1_indexOf_4cfef_11 : decode cJ1_indexOf_4cfef 11 = .ok (.invokestatic 92, 3) := by decide +kernel
theorem dJ1_indexOf_4cfef_14 : decode cJ1_indexOf_4cfef 14 = .ok (.istore_n 2, 1) := by decide +kernel
theorem dJ1_indexOf_4cfef_15 : decode cJ1_indexOf_4cfef 15 = .ok (.iload_n 3, 1) := by decide +kernel
theorem dJ1_indexOf_4cfef_16 : decode cJ1_indexOf_4cfef 16 = .ok (.aload_n 0, 1) := by decide +kernel
theorem dJ1_indexOf_4cfef_17 : decode cJ1_indexOf_4cfef 17 = .ok (.arraylength, 1) := by decide +kernel
theorem dJ1_indexOf_4cfef_18 : decode cJ1_indexOf_4cfef 18 = .ok (.invokestatic 38, 3) := by decide +kernel
theorem dJ1_indexOf_4cfef_21 : decode cJ1_indexOf_4cfef 21 = .ok (.istore_n 3, 1) := by decide +kernel
theorem dJ1_indexOf_4cfef_22 : decode cJ1_indexOf_4cfef 22 = .ok (.iload_n 2, 1) := by decide +kernel
theorem dJ1_indexOf_4cfef_23 : decode cJ1_indexOf_4cfef 23 = .ok (.iload_n 3, 1) := by decide +kernel
theorem dJ1_indexOf_4cfef_24 : decode cJ1_indexOf_4cfef 24 = .ok (.if_icmp .lt 5, 3) := by decide +kernel
theorem dJ1_indexOf_4cfef_27 : decode cJ1_indexOf_4cfef 27 = .ok (.iconst (-1), 1) := by decide +kernel
theorem dJ1_indexOf_4cfef_28 : decode cJ1_indexOf_4cfef 28 = .ok (.ireturn, 1) := by decide +kernel
theorem dJ1_indexOf_4cfef_29 : decode cJ1_indexOf_4cfef 29 = .ok (.aload_n 0, 1) := by decide +kernel
theorem dJ1_indexOf_4cfef_30 : decode cJ1_indexOf_4cfef 30 = .ok (.iload_n 1, 1) := by decide +kernel
theorem dJ1_indexOf_4cfef_31 : decode cJ1_indexOf_4cfef 31 = .ok (.iload_n 2, 1) := by decide +kernel
theorem dJ1_indexOf_4cfef_32 : decode cJ1_indexOf_4cfef 32 = .ok (.iload_n 3, 1) := by decide +kernel
theorem dJ1_indexOf_4cfef_33 : decode cJ1_indexOf_4cfef 33 = .ok (.invokestatic 95, 3) := by decide +kernel
theorem dJ1_indexOf_4cfef_36 : decode cJ1_indexOf_4cfef 36 = .ok (.ireturn, 1) := by decide +kernel
theorem dJ1_indexOfChar_4cfef_0 : decode cJ1_indexOfChar_4cfef 0 = .ok (.iload_n 1, 1) := by decide +kernel
theorem dJ1_indexOfChar_4cfef_1 : decode cJ1_indexOfChar_4cfef 1 = .ok (.i2b, 1) := by decide +kernel
theorem dJ1_indexOfChar_4cfef_2 : decode cJ1_indexOfChar_4cfef 2 = .ok (.istore 4, 2) := by decide +kernel
theorem dJ1_indexOfChar_4cfef_4 : decode cJ1_indexOfChar_4cfef 4 = .ok (.iload_n 2, 1) := by decide +kernel
theorem dJ1_indexOfChar_4cfef_5 : decode cJ1_indexOfChar_4cfef 5 = .ok (.istore 5, 2) := by decide +kernel
theorem dJ1_indexOfChar_4cfef_7 : decode cJ1_indexOfChar_4cfef 7 = .ok (.iload 5, 2) := by decide +kernel
theorem dJ1_indexOfChar_4cfef_9 : decode cJ1_indexOfChar_4cfef 9 = .ok (.iload_n 3, 1) := by decide +kernel
theorem dJ1_indexOfChar_4cfef_10 : decode cJ1_indexOfChar_4cfef 10 = .ok (.if_icmp .ge 21, 3) := by decide +kernel
theorem dJ1_indexOfChar_4cfef_13 : decode cJ1_indexOfChar_4cfef 13 = .ok (.aload_n 0, 1) := by decide +kernel
theorem dJ1_indexOfChar_4cfef_14 : decode cJ1_indexOfChar_4cfef 14 = .ok (.iload 5, 2) := by decide +kernel
theorem dJ1_indexOfChar_4cfef_16 : decode cJ1_indexOfChar_4cfef 16 = .ok (.baload, 1) := by decide +kernel
theorem dJ1_indexOfChar_4cfef_17 : decode cJ1_indexOfChar_4cfef 17 = .ok (.iload 4, 2) := by decide +kernel
theorem dJ1_indexOfChar_4cfef_19 : decode cJ1_indexOfChar_4cfef 19 = .ok (.if_icmp .ne 6, 3) := by decide +kernel
theorem dJ1_indexOfChar_4cfef_22 : decode cJ1_indexOfChar_4cfef 22 = .ok (.iload 5, 2) := by decide +kernel
theorem dJ1_indexOfChar_4cfef_24 : decode cJ1_indexOfChar_4cfef 24 = .ok (.ireturn, 1) := by decide +kernel
theorem dJ1_indexOfChar_4cfef_25 : decode cJ1_indexOfChar_4cfef 25 = .ok (.iinc 5 1, 3) := by decide +kernel
theorem dJ1_indexOfChar_4cfef_28 : decode cJ1_indexOfChar_4cfef 28 = .ok (.goto (-21), 3) := by decide +kernel
theorem dJ1_indexOfChar_4cfef_31 : decode cJ1_indexOfChar_4cfef 31 = .ok (.iconst (-1), 1) := by decide +kernel
theorem dJ1_indexOfChar_4cfef_32 : decode cJ1_indexOfChar_4cfef 32 = .ok (.ireturn, 1) := by decide +kernel
theorem dJ2_getChar_3b067_0 : decode cJ2_getChar_3b067 0 = .ok (.getstatic 44, 3) := by decide +kernel
theorem dJ2_getChar_3b067_3 : decode cJ2_getChar_3b067 3 = .ok (.ifCond .ne 25, 3) := by decide +kernel
theorem dJ2_getChar_3b067_6 : decode cJ2_getChar_3b067 6 = .ok (.iload_n 1, 1) := by decide +kernel
theorem dJ2_getChar_3b067_7 : decode cJ2_getChar_3b067 7 = .ok (.ifCond .lt 11, 3) := by decide +kernel
theorem dJ2_getChar_3b067_10 : decode cJ2_getChar_3b067 10 = .ok (.iload_n 1, 1) := by decide +kernel
theorem dJ2_getChar_3b067_11 : decode cJ2_getChar_3b067 11 = .ok (.aload_n 0, 1) := by decide +kernel
theorem dJ2_getChar_3b067_12 : decode cJ2_getChar_3b067 12 = .ok (.invokestatic 48, 3) := by decide +kernel
theorem dJ2_getChar_3b067_15 : decode cJ2_getChar_3b067 15 = .ok (.if_icmp .lt 13, 3) := by decide +kernel
theorem dJ2_getChar_3b067_18 : decode cJ2_getChar_3b067 18 = .ok (.new 52, 3) := by decide +kernel
theorem dJ2_getChar_3b067_21 : decode cJ2_getChar_3b067 21 = .ok (.dup, 1) := by decide +kernel
theorem dJ2_getChar_3b067_22 : decode cJ2_getChar_3b067 22 = .ok (.ldc 54, 2) := by decide +kernel
theorem dJ2_getChar_3b067_24 : decode cJ2_getChar_3b067 24 = .ok (.invokespecial 56, 3) := by decide +kernel
theorem dJ2_getChar_3b067_27 : decode cJ2_getChar_3b067 27 = .ok (.athrow, 1) := by decide +kernel
theorem dJ2_getChar_3b067_28 : decode cJ2_getChar_3b067 28 = .ok (.iload_n 1, 1) := by decide +kernel
theorem dJ2_getChar_3b067_29 : decode cJ2_getChar_3b067 29 = .ok (.iconst 1, 1) := by decide +kernel
theorem dJ2_getChar_3b067_30 : decode cJ2_getChar_3b067 30 = .ok (.ishl, 1) := by decide +kernel
theorem dJ2_getChar_3b067_31 : decode cJ2_getChar_3b067 31 = .ok (.istore_n 1, 1) := by decide +kernel
theorem dJ2_getChar_3b067_32 : decode cJ2_getChar_3b067 32 = .ok (.aload_n 0, 1) := by decide +kernel
theorem dJ2_getChar_3b067_33 : decode cJ2_getChar_3b067 33 = .ok (.iload_n 1, 1) := by decide +kernel
theorem dJ2_getChar_3b067_34 : decode cJ2_getChar_3b067 34 = .ok (.iinc 1 1, 3) := by decide +kernel
theorem dJ2_getChar_3b067_37 : decode cJ2_getChar_3b067 37 = .ok (.baload, 1) := by decide +kernel
theorem dJ2_getChar_3b067_38 : decode cJ2_getChar_3b067 38 = .ok (.sipush 255, 3) := by decide +kernel
theorem dJ2_getChar_3b067_41 : decode cJ2_getChar_3b067 41 = .ok (.iand, 1) := by decide +kernel
theorem dJ2_getChar_3b067_42 : decode cJ2_getChar_3b067 42 = .ok (.getstatic 59, 3) := by decide +kernel
theorem dJ2_getChar_3b067_45 : decode cJ2_getChar_3b067 45 = .ok (.ishl, 1) := by decide +kernel
theorem dJ2_getChar_3b067_46 : decode cJ2_getChar_3b067 46 = .ok (.aload_n 0, 1) := by decide +kernel
theorem dJ2_getChar_3b067_47 : decode cJ2_getChar_3b067 47 = .ok (.iload_n 1, 1) := by decide +kernel
theorem dJ2_getChar_3b067_48 : decode cJ2_getChar_3b067 48 = .ok (.baload, 1) := by decide +kernel
theorem dJ2_getChar_3b067_49 : decode cJ2_getChar_3b067 49 = .ok (.sipush 255, 3) := by decide +kernel
theorem dJ2_getChar_3b067_52 : decode cJ2_getChar_3b067 52 = .ok (.iand, 1) := by decide +kernel
theorem dJ2_getChar_3b067_53 : decode cJ2_getChar_3b067 53 = .ok (.getstatic 63, 3) := by decide +kernel
theorem dJ2_getChar_3b067_56 : decode cJ2_getChar_3b067 56 = .ok (.ishl, 1) := by decide +kernel
theorem dJ2_getChar_3b067_57 : decode cJ2_getChar_3b067 57 = .ok (.ior, 1) := by decide +kernel
theorem dJ2_getChar_3b067_58 : decode cJ2_getChar_3b067 58 = .ok (.i2c, 1) := by decide +kernel
theorem dJ2_getChar_3b067_59 : decode cJ2_getChar_3b067 59 = .ok (.ireturn, 1) := by decide +kernel
theorem dJ2_length_9d52b_0 : decode cJ2_length_9d52b 0 = .ok (.aload_n 0, 1) := by decide +kernel
theorem dJ2_length_9d52b_1 : decode cJ2_length_9d52b 1 = .ok (.arraylength, 1) := by decide +kernel
theorem dJ2_length_9d52b_2 : decode cJ2_length_9d52b 2 = .ok (.iconst 1, 1) := by decide +kernel
theorem dJ2_length_9d52b_3 : decode cJ2_length_9d52b 3 = .ok (.ishr, 1) := by decide +kernel
theorem dJ2_length_9d52b_4 : decode cJ2_length_9d52b 4 = .ok (.ireturn, 1) := by decide +kernel
theorem dJ2_indexOf_4cfef_0 : decode cJ2_indexOf_4cfef 0 = .ok (.iload_n 2, 1) := by decide +kernel
theorem dJ2_indexOf_4cfef_1 : decode cJ2_indexOf_4cfef 1 = .ok (.iconst 0, 1) := by decide +kernel
theorem dJ2_indexOf_4cfef_2 : decode cJ2_indexOf_4cfef 2 = .ok (.invokestatic 224, 3) := by decide +kernel
theorem dJ2_indexOf_4cfef_5 : decode cJ2_indexOf_4cfef 5 = .ok (.istore_n 2, 1) := by decide +kernel
theorem dJ2_indexOf_4cfef_6 : decode cJ2_indexOf_4cfef 6 = .ok (.iload_n 3, 1) := by decide +kernel
theorem dJ2_indexOf_4cfef_7 : decode cJ2_indexOf_4cfef 7 = .ok (.aload_n 0, 1) := by decide +kernel
theorem dJ2_indexOf_4cfef_8 : decode cJ2_indexOf_4cfef 8 = .ok (.arraylength, 1) := by decide +kernel
theorem dJ2_indexOf_4cfef_9 : decode cJ2_indexOf_4cfef 9 = .ok (.iconst 1, 1) := by decide +kernel
theorem dJ2_indexOf_4cfef_10 : decode cJ2_indexOf_4cfef 10 = .ok (.ishr, 1) := by decide +kernel
theorem dJ2_indexOf_4cfef_11 : decode cJ2_indexOf_4cfef 11 = .ok (.invokestatic 183, 3) := by decide +kernel
theorem dJ2_indexOf_4cfef_14 : decode cJ2_indexOf_4cfef 14 = .ok (.istore_n 3, 1) := by decide +kernel
theorem dJ2_indexOf_4cfef_15 : decode cJ2_indexOf_4cfef 15 = .ok (.iload_n 2, 1) := by decide +kernel
theorem dJ2_indexOf_4cfef_16 : decode cJ2_indexOf_4cfef 16 = .ok (.iload_n 3, 1) := by decide +kernel
theorem dJ2_indexOf_4cfef_17 : decode cJ2_indexOf_4cfef 17 = .ok (.if_icmp .lt 5, 3) := by decide +kernel
theorem dJ2_indexOf_4cfef_20 : decode cJ2_indexOf_4cfef 20 = .ok (.iconst (-1), 1) := by decide +kernel
theorem dJ2_indexOf_4cfef_21 : decode cJ2_indexOf_4cfef 21 = .ok (.ireturn, 1) := by decide +kernel
theorem dJ2_indexOf_4cfef_22 : decode cJ2_indexOf_4cfef 22 = .ok (.iload_n 1, 1) := by decide +kernel
theorem dJ2_indexOf_4cfef_23 : decode cJ2_indexOf_4cfef 23 = .ok (.ldc 227, 2) := by decide +kernel
theorem dJ2_indexOf_4cfef_25 : decode cJ2_indexOf_4cfef 25 = .ok (.if_icmp .ge 11, 3) := by decide +kernel
theorem dJ2_indexOf_4cfef_28 : decode cJ2_indexOf_4cfef 28 = .ok (.aload_n 0, 1) := by decide +kernel
theorem dJ2_indexOf_4cfef_29 : decode cJ2_indexOf_4cfef 29 = .ok (.iload_n 1, 1) := by decide +kernel
theorem dJ2_indexOf_4cfef_30 : decode cJ2_indexOf_4cfef 30 = .ok (.iload_n 2, 1) := by decide +kernel
theorem dJ2_indexOf_4cfef_31 : decode cJ2_indexOf_4cfef 31 = .ok (.iload_n 3, 1) := by decide +kernel
theorem dJ2_indexOf_4cfef_32 : decode cJ2_indexOf_4cfef 32 = .ok (.invokestatic 228, 3) := by decide +kernel
theorem dJ2_indexOf_4cfef_35 : decode cJ2_indexOf_4cfef 35 = .ok (.ireturn, 1) := by decide +kernel
theorem dJ2_indexOf_4cfef_36 : decode cJ2_indexOf_4cfef 36 = .ok (.aload_n 0, 1) := by decide +kernel
theorem dJ2_indexOf_4cfef_37 : decode cJ2_indexOf_4cfef 37 = .ok (.iload_n 1, 1) := by decide +kernel
theorem dJ2_indexOf_4cfef_38 : decode cJ2_indexOf_4cfef 38 = .ok (.iload_n 2, 1) := by decide +kernel
theorem dJ2_indexOf_4cfef_39 : decode cJ2_indexOf_4cfef 39 = .ok (.iload_n 3, 1) := by decide +kernel
theorem dJ2_indexOf_4cfef_40 : decode cJ2_indexOf_4cfef 40 = .ok (.invokestatic 232, 3) := by decide +kernel
theorem dJ2_indexOf_4cfef_43 : decode cJ2_indexOf_4cfef 43 = .ok (.ireturn, 1) := by decide +kernel
theorem dJ2_indexOfChar_4cfef_0 : decode cJ2_indexOfChar_4cfef 0 = .ok (.iload_n 2, 1) := by decide +kernel
theorem dJ2_indexOfChar_4cfef_1 : decode cJ2_indexOfChar_4cfef 1 = .ok (.iload_n 3, 1) := by decide +kernel
theorem dJ2_indexOfChar_4cfef_2 : decode cJ2_indexOfChar_4cfef 2 = .ok (.aload_n 0, 1) := by decide +kernel
theorem dJ2_indexOfChar_4cfef_3 : decode cJ2_indexOfChar_4cfef 3 = .ok (.invokestatic 96, 3) := by decide +kernel
theorem dJ2_indexOfChar_4cfef_6 : decode cJ2_indexOfChar_4cfef 6 = .ok (.aload_n 0, 1) := by decide +kernel
theorem dJ2_indexOfChar_4cfef_7 : decode cJ2_indexOfChar_4cfef 7 = .ok (.iload_n 1, 1) := by decide +kernel
theorem dJ2_indexOfChar_4cfef_8 : decode cJ2_indexOfChar_4cfef 8 = .ok (.iload_n 2, 1) := by decide +kernel
theorem dJ2_indexOfChar_4cfef_9 : decode cJ2_indexOfChar_4cfef 9 = .ok (.iload_n 3, 1) := by decide +kernel
theorem dJ2_indexOfChar_4cfef_10 : decode cJ2_indexOfChar_4cfef 10 = .ok (.invokestatic 244, 3) := by decide +kernel
theorem dJ2_indexOfChar_4cfef_13 : decode cJ2_indexOfChar_4cfef 13 = .ok (.ireturn, 1) := by decide +kernel
theorem dJ2_indexOfCharUnsafe_4cfef_0 : decode cJ2_indexOfCharUnsafe_4cfef 0 = .ok (.iload_n 2, 1) := by decide +kernel
theorem dJ2_indexOfCharUnsafe_4cfef_1 : decode cJ2_indexOfCharUnsafe_4cfef 1 = .ok (.istore 4, 2) := by decide +kernel
theorem dJ2_indexOfCharUnsafe_4cfef_3 : decode cJ2_indexOfCharUnsafe_4cfef 3 = .ok (.iload 4, 2) := by decide +kernel
theorem dJ2_indexOfCharUnsafe_4cfef_5 : decode cJ2_indexOfCharUnsafe_4cfef 5 = .ok (.iload_n 3, 1) := by decide +kernel
theorem dJ2_indexOfCharUnsafe_4cfef_6 : decode cJ2_indexOfCharUnsafe_4cfef 6 = .ok (.if_icmp .ge 22, 3) := by decide +kernel
theorem dJ2_indexOfCharUnsafe_4cfef_9 : decode cJ2_indexOfCharUnsafe_4cfef 9 = .ok (.aload_n 0, 1) := by decide +kernel
theorem dJ2_indexOfCharUnsafe_4cfef_10 : decode cJ2_indexOfCharUnsafe_4cfef 10 = .ok (.iload 4, 2) := by decide +kernel
theorem dJ2_indexOfCharUnsafe_4cfef_12 : decode cJ2_indexOfCharUnsafe_4cfef 12 = .ok (.invokestatic 71, 3) := by decide +kernel
theorem dJ2_indexOfCharUnsafe_4cfef_15 : decode cJ2_indexOfCharUnsafe_4cfef 15 = .ok (.iload_n 1, 1) := by decide +kernel
theorem dJ2_indexOfCharUnsafe_4cfef_16 : decode cJ2_indexOfCharUnsafe_4cfef 16 = .ok (.if_icmp .ne 6, 3) := by decide +kernel
theorem dJ2_indexOfCharUnsafe_4cfef_19 : decode cJ2_indexOfCharUnsafe_4cfef 19 = .ok (.iload 4, 2) := by decide +kernel
theorem dJ2_indexOfCharUnsafe_4cfef_21 : decode cJ2_indexOfCharUnsafe_4cfef 21 = .ok (.ireturn, 1) := by decide +kernel
theorem dJ2_indexOfCharUnsafe_4cfef_22 : decode cJ2_indexOfCharUnsafe_4cfef 22 = .ok (.iinc 4 1, 3) := by decide +kernel
theorem dJ2_indexOfCharUnsafe_4cfef_25 : decode cJ2_indexOfCharUnsafe_4cfef 25 = .ok (.goto (-22), 3) := by decide +kernel
theorem dJ2_indexOfCharUnsafe_4cfef_28 : decode cJ2_indexOfCharUnsafe_4cfef 28 = .ok (.iconst (-1), 1) := by decide +kernel
theorem dJ2_indexOfCharUnsafe_4cfef_29 : decode cJ2_indexOfCharUnsafe_4cfef 29 = .ok (.ireturn, 1) := by decide +kernel
theorem dJ2_indexOfSupplementary_4cfef_0 : decode cJ2_indexOfSupplementary_4cfef 0 = .ok (.iload_n 1, 1) := by decide +kernel
theorem dJ2_indexOfSupplementary_4cfef_1 : decode cJ2_indexOfSupplementary_4cfef 1 = .ok (.invokestatic 164, 3) := by decide +kernel
theorem dJ2_indexOfSupplementary_4cfef_4 : decode cJ2_indexOfSupplementary_4cfef 4 = .ok (.ifCond .eq 65, 3) := by decide +kernel
theorem dJ2_indexOfSupplementary_4cfef_7 : decode cJ2_indexOfSupplementary_4cfef 7 = .ok (.iload_n 1, 1) := by decide +kernel
theorem dJ2_indexOfSupplementary_4cfef_8 : decode cJ2_indexOfSupplementary_4cfef 8 = .ok (.invokestatic 157, 3) := by decide +kernel
theorem dJ2_indexOfSupplementary_4cfef_11 : decode cJ2_indexOfSupplementary_4cfef 11 = .ok (.istore 4, 2) := by decide +kernel
theorem dJ2_indexOfSupplementary_4cfef_13 : decode cJ2_indexOfSupplementary_4cfef 13 = .ok (.iload_n 1, 1) := by decide +kernel
theorem dJ2_indexOfSupplementary_4cfef_14 : decode cJ2_indexOfSupplementary_4cfef 14 = .ok (.invokestatic 161, 3) := by decide +kernel
theorem dJ2_indexOfSupplementary_4cfef_17 : decode cJ2_indexOfSupplementary_4cfef 17 = .ok (.istore 5, 2) := by decide +kernel
theorem dJ2_indexOfSupplementary_4cfef_19 : decode cJ2_indexOfSupplementary_4cfef 19 = .ok (.iload_n 2, 1) := by decide +kernel
theorem dJ2_indexOfSupplementary_4cfef_20 : decode cJ2_indexOfSupplementary_4cfef 20 = .ok (.iload_n 3, 1) := by decide +kernel
theorem dJ2_indexOfSupplementary_4cfef_21 : decode cJ2_indexOfSupplementary_4cfef 21 = .ok (.aload_n 0, 1) := by decide +kernel
theorem dJ2_indexOfSupplementary_4cfef_22 : decode cJ2_indexOfSupplementary_4cfef 22 = .ok (.invokestatic 96, 3) := by decide +kernel
theorem dJ2_indexOfSupplementary_4cfef_25 : decode cJ2_indexOfSupplementary_4cfef 25 = .ok (.iload_n 2, 1) := by decide +kernel
theorem dJ2_indexOfSupplementary_4cfef_26 : decode cJ2_indexOfSupplementary_4cfef 26 = .ok (.istore 6, 2) := by decide +kernel
theorem dJ2_indexOfSupplementary_4cfef_28 : decode cJ2_indexOfSupplementary_4cfef 28 = .ok (.iload 6, 2) := by decide +kernel
theorem dJ2_indexOfSupplementary_4cfef_30 : decode cJ2_indexOfSupplementary_4cfef 30 = .ok (.iload_n 3, 1) := by decide +kernel
theorem dJ2_indexOfSupplementary_4cfef_31 : decode cJ2_indexOfSupplementary_4cfef 31 = .ok (.iconst 1, 1) := by decide +kernel
theorem dJ2_indexOfSupplementary_4cfef_32 : decode cJ2_indexOfSupplementary_4cfef 32 = .ok (.isub, 1) := by decide +kernel
theorem dJ2_indexOfSupplementary_4cfef_33 : decode cJ2_indexOfSupplementary_4cfef 33 = .ok (.if_icmp .ge 36, 3) := by decide +kernel
theorem dJ2_indexOfSupplementary_4cfef_36 : decode cJ2_indexOfSupplementary_4cfef 36 = .ok (.aload_n 0, 1) := by decide +kernel
theorem dJ2_indexOfSupplementary_4cfef_37 : decode cJ2_indexOfSupplementary_4cfef 37 = .ok (.iload 6, 2) := by decide +kernel
theorem dJ2_indexOfSupplementary_4cfef_39 : decode cJ2_indexOfSupplementary_4cfef 39 = .ok (.invokestatic 71, 3) := by decide +kernel
theorem dJ2_indexOfSupplementary_4cfef_42 : decode cJ2_indexOfSupplementary_4cfef 42 = .ok (.iload 4, 2) := by decide +kernel
theorem dJ2_indexOfSupplementary_4cfef_44 : decode cJ2_indexOfSupplementary_4cfef 44 = .ok (.if_icmp .ne 19, 3) := by decide +kernel
theorem dJ2_indexOfSupplementary_4cfef_47 : decode cJ2_indexOfSupplementary_4cfef 47 = .ok (.aload_n 0, 1) := by decide +kernel
theorem dJ2_indexOfSupplementary_4cfef_48 : decode cJ2_indexOfSupplementary_4cfef 48 = .ok (.iload 6, 2) := by decide +kernel
theorem dJ2_indexOfSupplementary_4cfef_50 : decode cJ2_indexOfSupplementary_4cfef 50 = .ok (.iconst 1, 1) := by decide +kernel
theorem dJ2_indexOfSupplementary_4cfef_51 : decode cJ2_indexOfSupplementary_4cfef 51 = .ok (.iadd, 1) := by decide +kernel
theorem dJ2_indexOfSupplementary_4cfef_52 : decode cJ2_indexOfSupplementary_4cfef 52 = .ok (.invokestatic 71, 3) := by decide +kernel
theorem dJ2_indexOfSupplementary_4cfef_55 : decode cJ2_indexOfSupplementary_4cfef 55 = .ok (.iload 5, 2) := by decide +kernel
theorem dJ2_indexOfSupplementary_4cfef_57 : decode cJ2_indexOfSupplementary_4cfef 57 = .ok (.if_icmp .ne 6, 3) := by decide +kernel
theorem dJ2_indexOfSupplementary_4cfef_60 : decode cJ2_indexOfSupplementary_4cfef 60 = .ok (.iload 6, 2) := by decide +kernel
theorem dJ2_indexOfSupplementary_4cfef_62 : decode cJ2_indexOfSupplementary_4cfef 62 = .ok (.ireturn, 1) := by decide +kernel
theorem dJ2_indexOfSupplementary_4cfef_63 : decode cJ2_indexOfSupplementary_4cfef 63 = .ok (.iinc 6 1, 3) := by decide +kernel
theorem dJ2_indexOfSupplementary_4cfef_66 : decode cJ2_indexOfSupplementary_4cfef 66 = .ok (.goto (-38), 3) := by decide +kernel
theorem dJ2_indexOfSupplementary_4cfef_69 : decode cJ2_indexOfSupplementary_4cfef 69 = .ok (.iconst (-1), 1) := by decide +kernel
theorem dJ2_indexOfSupplementary_4cfef_70 : decode cJ2_indexOfSupplementary_4cfef 70 = .ok (.ireturn, 1) := by decide +kernel
theorem dJ2_charAt_3b067_0 : decode cJ2_charAt_3b067 0 = .ok (.iload_n 1, 1) := by decide +kernel
theorem dJ2_charAt_3b067_1 : decode cJ2_charAt_3b067 1 = .ok (.aload_n 0, 1) := by decide +kernel
theorem dJ2_charAt_3b067_2 : decode cJ2_charAt_3b067 2 = .ok (.invokestatic 67, 3) := by decide +kernel
theorem dJ2_charAt_3b067_5 : decode cJ2_charAt_3b067 5 = .ok (.aload_n 0, 1) := by decide +kernel
theorem dJ2_charAt_3b067_6 : decode cJ2_charAt_3b067 6 = .ok (.iload_n 1, 1) := by decide +kernel
theorem dJ2_charAt_3b067_7 : decode cJ2_charAt_3b067 7 = .ok (.invokestatic 71, 3) := by decide +kernel
theorem dJ2_charAt_3b067_10 : decode cJ2_charAt_3b067 10 = .ok (.ireturn, 1) := by decide +kernel
theorem dJ2_checkIndex_2214a_0 : decode cJ2_checkIndex_2214a 0 = .ok (.iload_n 0, 1) := by decide +kernel
theorem dJ2_checkIndex_2214a_1 : decode cJ2_checkIndex_2214a 1 = .ok (.aload_n 1, 1) := by decide +kernel
theorem dJ2_checkIndex_2214a_2 : decode cJ2_checkIndex_2214a 2 = .ok (.invokestatic 48, 3) := by decide +kernel
theorem dJ2_checkIndex_2214a_5 : decode cJ2_checkIndex_2214a 5 = .ok (.invokestatic 414, 3) := by decide +kernel
theorem dJ2_checkIndex_2214a_8 : decode cJ2_checkIndex_2214a 8 = .ok (.return_, 1) := by decide +kernel
theorem dJ2_checkBoundsBeginEnd_d044e_0 : decode cJ2_checkBoundsBeginEnd_d044e 0 = .ok (.iload_n 0, 1) := by decide +kernel
theorem dJ2_checkBoundsBeginEnd_d044e_1 : decode cJ2_checkBoundsBeginEnd_d044e 1 = .ok (.iload_n 1, 1) := by decide +kernel
theorem dJ2_checkBoundsBeginEnd_d044e_2 : decode cJ2_checkBoundsBeginEnd_d044e 2 = .ok (.aload_n 2, 1) := by decide +kernel
theorem dJ2_checkBoundsBeginEnd_d044e_3 : decode cJ2_checkBoundsBeginEnd_d044e 3 = .ok (.invokestatic 48, 3) := by decide +kernel
theorem dJ2_checkBoundsBeginEnd_d044e_6 : decode cJ2_checkBoundsBeginEnd_d044e 6 = .ok (.invokestatic 241, 3) := by decide +kernel
theorem dJ2_checkBoundsBeginEnd_d044e_9 : decode cJ2_checkBoundsBeginEnd_d044e 9 = .ok (.return_, 1) := by decide +kernel
theorem dJ7_fill_53178_0 : decode cJ7_fill_53178 0 = .ok (.iconst 0, 1) := by decide +kernel
theorem dJ7_fill_53178_1 : decode cJ7_fill_53178 1 = .ok (.istore_n 2, 1) := by decide +kernel
theorem dJ7_fill_53178_2 : decode cJ7_fill_53178 2 = .ok (.aload_n 0, 1) := by decide +kernel
theorem dJ7_fill_53178_3 : decode cJ7_fill_53178 3 = .ok (.arraylength, 1) := by decide +kernel
theorem dJ7_fill_53178_4 : decode cJ7_fill_53178 4 = .ok (.istore_n 3, 1) := by decide +kernel
theorem dJ7_fill_53178_5 : decode cJ7_fill_53178 5 = .ok (.iload_n 2, 1) := by decide +kernel
theorem dJ7_fill_53178_6 : decode cJ7_fill_53178 6 = .ok (.iload_n 3, 1) := by decide +kernel
theorem dJ7_fill_53178_7 : decode cJ7_fill_53178 7 = .ok (.if_icmp .ge 13, 3) := by decide +kernel
theorem dJ7_fill_53178_10 : decode cJ7_fill_53178 10 = .ok (.aload_n 0, 1) := by decide +kernel
theorem dJ7_fill_53178_11 : decode cJ7_fill_53178 11 = .ok (.iload_n 2, 1) := by decide +kernel
theorem dJ7_fill_53178_12 : decode cJ7_fill_53178 12 = .ok (.iload_n 1, 1) := by decide +kernel
theorem dJ7_fill_53178_13 : decode cJ7_fill_53178 13 = .ok (.iastore, 1) := by decide +kernel
theorem dJ7_fill_53178_14 : decode cJ7_fill_53178 14 = .ok (.iinc 2 1, 3) := by decide +kernel
theorem dJ7_fill_53178_17 : decode cJ7_fill_53178 17 = .ok (.goto (-12), 3) := by decide +kernel
theorem dJ7_fill_53178_20 : decode cJ7_fill_53178 20 = .ok (.return_, 1) := by decide +kernel
theorem dJ3_checkIndex_8e157_0 : decode cJ3_checkIndex_8e157 0 = .ok (.iload_n 0, 1) := by decide +kernel
theorem dJ3_checkIndex_8e157_1 : decode cJ3_checkIndex_8e157 1 = .ok (.ifCond .lt 8, 3) := by decide +kernel
theorem dJ3_checkIndex_8e157_4 : decode cJ3_checkIndex_8e157 4 = .ok (.iload_n 0, 1) := by decide +kernel
theorem dJ3_checkIndex_8e157_5 : decode cJ3_checkIndex_8e157 5 = .ok (.iload_n 1, 1) := by decide +kernel
theorem dJ3_checkIndex_8e157_6 : decode cJ3_checkIndex_8e157 6 = .ok (.if_icmp .lt 10, 3) := by decide +kernel
theorem dJ3_checkIndex_8e157_9 : decode cJ3_checkIndex_8e157 9 = .ok (.aload_n 2, 1) := by decide +kernel
theorem dJ3_checkIndex_8e157_10 : decode cJ3_checkIndex_8e157 10 = .ok (.iload_n 0, 1) := by decide +kernel
theorem dJ3_checkIndex_8e157_11 : decode cJ3_checkIndex_8e157 11 = .ok (.iload_n 1, 1) := by decide +kernel
theorem dJ3_checkIndex_8e157_12 : decode cJ3_checkIndex_8e157 12 = .ok (.invokestatic 95, 3) := by decide +kernel
theorem dJ3_checkIndex_8e157_15 : decode cJ3_checkIndex_8e157 15 = .ok (.athrow, 1) := by decide +kernel
theorem dJ3_checkIndex_8e157_16 : decode cJ3_checkIndex_8e157 16 = .ok (.iload_n 0, 1) := by decide +kernel
theorem dJ3_checkIndex_8e157_17 : decode cJ3_checkIndex_8e157 17 = .ok (.ireturn, 1) := by decide +kernel
theorem dJ3_checkFromToIndex_8c36e_0 : decode cJ3_checkFromToIndex_8c36e 0 = .ok (.iload_n 0, 1) := by decide +kernel
theorem dJ3_checkFromToIndex_8c36e_1 : decode cJ3_checkFromToIndex_8c36e 1 = .ok (.ifCond .lt 13, 3) := by decide +kernel
theorem dJ3_checkFromToIndex_8c36e_4 : decode cJ3_checkFromToIndex_8c36e 4 = .ok (.iload_n 0, 1) := by decide +kernel
theorem dJ3_checkFromToIndex_8c36e_5 : decode cJ3_checkFromToIndex_8c36e 5 = .ok (.iload_n 1, 1) := by decide +kernel
theorem dJ3_checkFromToIndex_8c36e_6 : decode cJ3_checkFromToIndex_8c36e 6 = .ok (.if_icmp .gt 8, 3) := by decide +kernel
theorem dJ3_checkFromToIndex_8c36e_9 : decode cJ3_checkFromToIndex_8c36e 9 = .ok (.iload_n 1, 1) := by decide +kernel
theorem dJ3_checkFromToIndex_8c36e_10 : decode cJ3_checkFromToIndex_8c36e 10 = .ok (.iload_n 2, 1) := by decide +kernel
theorem dJ3_checkFromToIndex_8c36e_11 : decode cJ3_checkFromToIndex_8c36e 11 = .ok (.if_icmp .le 11, 3) := by decide +kernel
theorem dJ3_checkFromToIndex_8c36e_14 : decode cJ3_checkFromToIndex_8c36e 14 = .ok (.aload_n 3, 1) := by decide +kernel
theorem dJ3_checkFromToIndex_8c36e_15 : decode cJ3_checkFromToIndex_8c36e 15 = .ok (.iload_n 0, 1) := by decide +kernel
theorem dJ3_checkFromToIndex_8c36e_16 : decode cJ3_checkFromToIndex_8c36e 16 = .ok (.iload_n 1, 1) := by decide +kernel
theorem dJ3_checkFromToIndex_8c36e_17 : decode cJ3_checkFromToIndex_8c36e 17 = .ok (.iload_n 2, 1) := by decide +kernel
theorem dJ3_checkFromToIndex_8c36e_18 : decode cJ3_checkFromToIndex_8c36e 18 = .ok (.invokestatic 99, 3) := by decide +kernel
theorem dJ3_checkFromToIndex_8c36e_21 : decode cJ3_checkFromToIndex_8c36e 21 = .ok (.athrow, 1) := by decide +kernel
theorem dJ3_checkFromToIndex_8c36e_22 : decode cJ3_checkFromToIndex_8c36e 22 = .ok (.iload_n 0, 1) := by decide +kernel
theorem dJ3_checkFromToIndex_8c36e_23 : decode cJ3_checkFromToIndex_8c36e 23 = .ok (.ireturn, 1) := by decide +kernel
theorem dL_fix_0 : decode cL_fix 0 = .ok (.aload_n 2, 1) := by decide +kernel
theorem dL_fix_1 : decode cL_fix 1 = .ok (.iconst 0, 1) := by decide +kernel
theorem dL_fix_2 : decode cL_fix 2 = .ok (.aload_n 0, 1) := by decide +kernel
theorem dL_fix_3 : decode cL_fix 3 = .ok (.iload_n 1, 1) := by decide +kernel
theorem dL_fix_4 : decode cL_fix 4 = .ok (.invokevirtual 7, 3) := by decide +kernel
theorem dL_fix_7 : decode cL_fix 7 = .ok (.i2l, 1) := by decide +kernel
theorem dL_fix_8 : decode cL_fix 8 = .ok (.lastore, 1) := by decide +kernel
theorem dL_fix_9 : decode cL_fix 9 = .ok (.goto 6, 3) := by decide +kernel
theorem dL_fix_12 : decode cL_fix 12 = .ok (.astore_n 3, 1) := by decide +kernel
theorem dL_fix_13 : decode cL_fix 13 = .ok (.iconst 1, 1) := by decide +kernel
theorem dL_fix_14 : decode cL_fix 14 = .ok (.ireturn, 1) := by decide +kernel
theorem dL_fix_15 : decode cL_fix 15 = .ok (.iconst 0, 1) := by decide +kernel
theorem dL_fix_16 : decode cL_fix 16 = .ok (.ireturn, 1) := by decide +kernel
theorem dL_vessel_0 : decode cL_vessel 0 = .ok (.aload_n 3, 1) := by decide +kernel
theorem dL_vessel_1 : decode cL_vessel 1 = .ok (.iconst 0, 1) := by decide +kernel
theorem dL_vessel_2 : decode cL_vessel 2 = .ok (.aload_n 0, 1) := by decide +kernel
theorem dL_vessel_3 : decode cL_vessel 3 = .ok (.iload_n 1, 1) := by decide +kernel
theorem dL_vessel_4 : decode cL_vessel 4 = .ok (.iload_n 2, 1) := by decide +kernel
theorem dL_vessel_5 : decode cL_vessel 5 = .ok (.invokevirtual 15, 3) := by decide +kernel
theorem dL_vessel_8 : decode cL_vessel 8 = .ok (.i2l, 1) := by decide +kernel
theorem dL_vessel_9 : decode cL_vessel 9 = .ok (.lastore, 1) := by decide +kernel
theorem dL_vessel_10 : decode cL_vessel 10 = .ok (.goto 7, 3) := by decide +kernel
theorem dL_vessel_13 : decode cL_vessel 13 = .ok (.astore 4, 2) := by decide +kernel
theorem dL_vessel_15 : decode cL_vessel 15 = .ok (.iconst 1, 1) := by decide +kernel
theorem dL_vessel_16 : decode cL_vessel 16 = .ok (.ireturn, 1) := by decide +kernel
theorem dL_vessel_17 : decode cL_vessel 17 = .ok (.iconst 0, 1) := by decide +kernel
theorem dL_vessel_18 : decode cL_vessel 18 = .ok (.ireturn, 1) := by decide +kernel
theorem dL_bits_0 : decode cL_bits 0 = .ok (.aload_n 3, 1) := by decide +kernel
theorem dL_bits_1 : decode cL_bits 1 = .ok (.iconst 0, 1) := by decide +kernel
theorem dL_bits_2 : decode cL_bits 2 = .ok (.aload_n 0, 1) := by decide +kernel
theorem dL_bits_3 : decode cL_bits 3 = .ok (.iload_n 1, 1) := by decide +kernel
theorem dL_bits_4 : decode cL_bits 4 = .ok (.iload_n 2, 1) := by decide +kernel
theorem dL_bits_5 : decode cL_bits 5 = .ok (.invokevirtual 19, 3) := by decide +kernel
theorem dL_bits_8 : decode cL_bits 8 = .ok (.i2l, 1) := by decide +kernel
theorem dL_bits_9 : decode cL_bits 9 = .ok (.lastore, 1) := by decide +kernel
theorem dL_bits_10 : decode cL_bits 10 = .ok (.goto 7, 3) := by decide +kernel
theorem dL_bits_13 : decode cL_bits 13 = .ok (.astore 4, 2) := by decide +kernel
theorem dL_bits_15 : decode cL_bits 15 = .ok (.iconst 1, 1) := by decide +kernel
theorem dL_bits_16 : decode cL_bits 16 = .ok (.ireturn, 1) := by decide +kernel
theorem dL_bits_17 : decode cL_bits 17 = .ok (.iconst 0, 1) := by decide +kernel
theorem dL_bits_18 : decode cL_bits 18 = .ok (.ireturn, 1) := by decide +kernel
theorem dL_send_0 : decode cL_send 0 = .ok (.aload 4, 2) := by decide +kernel
theorem dL_send_2 : decode cL_send 2 = .ok (.iconst 0, 1) := by decide +kernel
theorem dL_send_3 : decode cL_send 3 = .ok (.aload_n 0, 1) := by decide +kernel
theorem dL_send_4 : decode cL_send 4 = .ok (.iload_n 1, 1) := by decide +kernel
theorem dL_send_5 : decode cL_send 5 = .ok (.iload_n 2, 1) := by decide +kernel
theorem dL_send_6 : decode cL_send 6 = .ok (.iload_n 3, 1) := by decide +kernel
theorem dL_send_7 : decode cL_send 7 = .ok (.invokevirtual 22, 3) := by decide +kernel
theorem dL_send_10 : decode cL_send 10 = .ok (.i2l, 1) := by decide +kernel
theorem dL_send_11 : decode cL_send 11 = .ok (.lastore, 1) := by decide +kernel
theorem dL_send_12 : decode cL_send 12 = .ok (.goto 11, 3) := by decide +kernel
theorem dL_send_15 : decode cL_send 15 = .ok (.astore 5, 2) := by decide +kernel
theorem dL_send_17 : decode cL_send 17 = .ok (.iconst 1, 1) := by decide +kernel
theorem dL_send_18 : decode cL_send 18 = .ok (.ireturn, 1) := by decide +kernel
theorem dL_send_19 : decode cL_send 19 = .ok (.astore 5, 2) := by decide +kernel
theorem dL_send_21 : decode cL_send 21 = .ok (.iconst 2, 1) := by decide +kernel
theorem dL_send_22 : decode cL_send 22 = .ok (.ireturn, 1) := by decide +kernel
theorem dL_send_23 : decode cL_send 23 = .ok (.iconst 0, 1) := by decide +kernel
theorem dL_send_24 : decode cL_send 24 = .ok (.ireturn, 1) := by decide +kernel
theorem dL_law_0 : decode cL_law 0 = .ok (.new 8, 3) := by decide +kernel
theorem dL_law_3 : decode cL_law 3 = .ok (.dup, 1) := by decide +kernel
theorem dL_law_4 : decode cL_law 4 = .ok (.invokespecial 28, 3) := by decide +kernel
theorem dL_law_7 : decode cL_law 7 = .ok (.astore_n 1, 1) := by decide +kernel
theorem dL_law_8 : decode cL_law 8 = .ok (.new 29, 3) := by decide +kernel
theorem dL_law_11 : decode cL_law 11 = .ok (.dup, 1) := by decide +kernel
theorem dL_law_12 : decode cL_law 12 = .ok (.invokespecial 31, 3) := by decide +kernel
theorem dL_law_15 : decode cL_law 15 = .ok (.astore_n 2, 1) := by decide +kernel
theorem dL_law_16 : decode cL_law 16 = .ok (.iconst 1, 1) := by decide +kernel
theorem dL_law_17 : decode cL_law 17 = .ok (.newarray .long, 2) := by decide +kernel
theorem dL_law_19 : decode cL_law 19 = .ok (.astore_n 3, 1) := by decide +kernel
theorem dL_law_20 : decode cL_law 20 = .ok (.iconst 0, 1) := by decide +kernel
theorem dL_law_21 : decode cL_law 21 = .ok (.istore 4, 2) := by decide +kernel
theorem dL_law_23 : decode cL_law 23 = .ok (.iload 4, 2) := by decide +kernel
theorem dL_law_25 : decode cL_law 25 = .ok (.aload_n 0, 1) := by decide +kernel
theorem dL_law_26 : decode cL_law 26 = .ok (.arraylength, 1) := by decide +kernel
theorem dL_law_27 : decode cL_law 27 = .ok (.bipush 6, 2) := by decide +kernel
theorem dL_law_29 : decode cL_law 29 = .ok (.isub, 1) := by decide +kernel
theorem dL_law_30 : decode cL_law 30 = .ok (.if_icmp .gt 615, 3) := by decide +kernel
theorem dL_law_33 : decode cL_law 33 = .ok (.aload_n 0, 1) := by decide +kernel
theorem dL_law_34 : decode cL_law 34 = .ok (.iload 4, 2) := by decide +kernel
theorem dL_law_36 : decode cL_law 36 = .ok (.iaload, 1) := by decide +kernel
theorem dL_law_37 : decode cL_law 37 = .ok (.bipush 15, 2) := by decide +kernel
theorem dL_law_39 : decode cL_law 39 = .ok (.iand, 1) := by decide +kernel
theorem dL_law_40 : decode cL_law 40 = .ok (.tableswitch 599 0 12 #[68, 141, 166, 179, 204, 260, 285, 353, 402, 470, 550, 575, 588], 68) := by decide +kernel
theorem dL_law_108 : decode cL_law 108 = .ok (.aload_n 1, 1) := by decide +kernel
theorem dL_law_109 : decode cL_law 109 = .ok (.aload_n 0, 1) := by decide +kernel
theorem dL_law_110 : decode cL_law 110 = .ok (.iload 4, 2) := by decide +kernel
theorem dL_law_112 : decode cL_law 112 = .ok (.iconst 1, 1) := by decide +kernel
theorem dL_law_113 : decode cL_law 113 = .ok (.iadd, 1) := by decide +kernel
theorem dL_law_114 : decode cL_law 114 = .ok (.iaload, 1) := by decide +kernel
theorem dL_law_115 : decode cL_law 115 = .ok (.aload_n 0, 1) := by decide +kernel
theorem dL_law_116 : decode cL_law 116 = .ok (.iload 4, 2) := by decide +kernel
theorem dL_law_118 : decode cL_law 118 = .ok (.iconst 2, 1) := by decide +kernel
theorem dL_law_119 : decode cL_law 119 = .ok (.iadd, 1) := by decide +kernel
theorem dL_law_120 : decode cL_law 120 = .ok (.iaload, 1) := by decide +kernel
theorem dL_law_121 : decode cL_law 121 = .ok (.aload_n 0, 1) := by decide +kernel
theorem dL_law_122 : decode cL_law 122 = .ok (.iload 4, 2) := by decide +kernel
theorem dL_law_124 : decode cL_law 124 = .ok (.iconst 3, 1) := by decide +kernel
theorem dL_law_125 : decode cL_law 125 = .ok (.iadd, 1) := by decide +kernel
theorem dL_law_126 : decode cL_law 126 = .ok (.iaload, 1) := by decide +kernel
theorem dL_law_127 : decode cL_law 127 = .ok (.aload_n 0, 1) := by decide +kernel
theorem dL_law_128 : decode cL_law 128 = .ok (.iload 4, 2) := by decide +kernel
theorem dL_law_130 : decode cL_law 130 = .ok (.iconst 4, 1) := by decide +kernel
theorem dL_law_131 : decode cL_law 131 = .ok (.iadd, 1) := by decide +kernel
theorem dL_law_132 : decode cL_law 132 = .ok (.iaload, 1) := by decide +kernel
theorem dL_law_133 : decode cL_law 133 = .ok (.aload_n 0, 1) := by decide +kernel
theorem dL_law_134 : decode cL_law 134 = .ok (.iload 4, 2) := by decide +kernel
theorem dL_law_136 : decode cL_law 136 = .ok (.iconst 5, 1) := by decide +kernel
theorem dL_law_137 : decode cL_law 137 = .ok (.iadd, 1) := by decide +kernel
theorem dL_law_138 : decode cL_law 138 = .ok (.iaload, 1) := by decide +kernel
theorem dL_law_139 : decode cL_law 139 = .ok (.invokevirtual 32, 3) := by decide +kernel
theorem dL_law_142 : decode cL_law 142 = .ok (.aload_n 2, 1) := by decide +kernel
theorem dL_law_143 : decode cL_law 143 = .ok (.aload_n 0, 1) := by decide +kernel
theorem dL_law_144 : decode cL_law 144 = .ok (.iload 4, 2) := by decide +kernel
theorem dL_law_146 : decode cL_law 146 = .ok (.iconst 1, 1) := by decide +kernel
theorem dL_law_147 : decode cL_law 147 = .ok (.iadd, 1) := by decide +kernel
theorem dL_law_148 : decode cL_law 148 = .ok (.iaload, 1) := by decide +kernel
theorem dL_law_149 : decode cL_law 149 = .ok (.aload_n 0, 1) := by decide +kernel
theorem dL_law_150 : decode cL_law 150 = .ok (.iload 4, 2) := by decide +kernel
theorem dL_law_152 : decode cL_law 152 = .ok (.iconst 2, 1) := by decide +kernel
theorem dL_law_153 : decode cL_law 153 = .ok (.iadd, 1) := by decide +kernel
theorem dL_law_154 : decode cL_law 154 = .ok (.iaload, 1) := by decide +kernel
theorem dL_law_155 : decode cL_law 155 = .ok (.aload_n 0, 1) := by decide +kernel
theorem dL_law_156 : decode cL_law 156 = .ok (.iload 4, 2) := by decide +kernel
theorem dL_law_158 : decode cL_law 158 = .ok (.iconst 3, 1) := by decide +kernel
theorem dL_law_159 : decode cL_law 159 = .ok (.iadd, 1) := by decide +kernel
theorem dL_law_160 : decode cL_law 160 = .ok (.iaload, 1) := by decide +kernel
theorem dL_law_161 : decode cL_law 161 = .ok (.aload_n 0, 1) := by decide +kernel
theorem dL_law_162 : decode cL_law 162 = .ok (.iload 4, 2) := by decide +kernel
theorem dL_law_164 : decode cL_law 164 = .ok (.iconst 4, 1) := by decide +kernel
theorem dL_law_165 : decode cL_law 165 = .ok (.iadd, 1) := by decide +kernel
theorem dL_law_166 : decode cL_law 166 = .ok (.iaload, 1) := by decide +kernel
theorem dL_law_167 : decode cL_law 167 = .ok (.aload_n 0, 1) := by decide +kernel
theorem dL_law_168 : decode cL_law 168 = .ok (.iload 4, 2) := by decide +kernel
theorem dL_law_170 : decode cL_law 170 = .ok (.iconst 5, 1) := by decide +kernel
theorem dL_law_171 : decode cL_law 171 = .ok (.iadd, 1) := by decide +kernel
theorem dL_law_172 : decode cL_law 172 = .ok (.iaload, 1) := by decide +kernel
theorem dL_law_173 : decode cL_law 173 = .ok (.invokevirtual 36, 3) := by decide +kernel
theorem dL_law_176 : decode cL_law 176 = .ok (.if_icmp .eq 463, 3) := by decide +kernel
theorem dL_law_179 : decode cL_law 179 = .ok (.iconst 0, 1) := by decide +kernel
theorem dL_law_180 : decode cL_law 180 = .ok (.ireturn, 1) := by decide +kernel
theorem dL_law_181 : decode cL_law 181 = .ok (.aload_n 1, 1) := by decide +kernel
theorem dL_law_182 : decode cL_law 182 = .ok (.aload_n 0, 1) := by decide +kernel
theorem dL_law_183 : decode cL_law 183 = .ok (.iload 4, 2) := by decide +kernel
theorem dL_law_185 : decode cL_law 185 = .ok (.iconst 1, 1) := by decide +kernel
theorem dL_law_186 : decode cL_law 186 = .ok (.iadd, 1) := by decide +kernel
theorem dL_law_187 : decode cL_law 187 = .ok (.iaload, 1) := by decide +kernel
theorem dL_law_188 : decode cL_law 188 = .ok (.invokevirtual 37, 3) := by decide +kernel
theorem dL_law_191 : decode cL_law 191 = .ok (.aload_n 2, 1) := by decide +kernel
theorem dL_law_192 : decode cL_law 192 = .ok (.aload_n 0, 1) := by decide +kernel
theorem dL_law_193 : decode cL_law 193 = .ok (.iload 4, 2) := by decide +kernel
theorem dL_law_195 : decode cL_law 195 = .ok (.iconst 1, 1) := by decide +kernel
theorem dL_law_196 : decode cL_law 196 = .ok (.iadd, 1) := by decide +kernel
theorem dL_law_197 : decode cL_law 197 = .ok (.iaload, 1) := by decide +kernel
theorem dL_law_198 : decode cL_law 198 = .ok (.invokevirtual 41, 3) := by decide +kernel
theorem dL_law_201 : decode cL_law 201 = .ok (.if_icmp .eq 438, 3) := by decide +kernel
theorem dL_law_204 : decode cL_law 204 = .ok (.iconst 0, 1) := by decide +kernel
theorem dL_law_205 : decode cL_law 205 = .ok (.ireturn, 1) := by decide +kernel
theorem dL_law_206 : decode cL_law 206 = .ok (.aload_n 1, 1) := by decide +kernel
theorem dL_law_207 : decode cL_law 207 = .ok (.invokevirtual 42, 3) := by decide +kernel
theorem dL_law_210 : decode cL_law 210 = .ok (.aload_n 2, 1) := by decide +kernel
theorem dL_law_211 : decode cL_law 211 = .ok (.invokevirtual 46, 3) := by decide +kernel
theorem dL_law_214 : decode cL_law 214 = .ok (.if_icmp .eq 425, 3) := by decide +kernel
theorem dL_law_217 : decode cL_law 217 = .ok (.iconst 0, 1) := by decide +kernel
theorem dL_law_218 : decode cL_law 218 = .ok (.ireturn, 1) := by decide +kernel
theorem dL_law_219 : decode cL_law 219 = .ok (.aload_n 1, 1) := by decide +kernel
theorem dL_law_220 : decode cL_law 220 = .ok (.aload_n 0, 1) := by decide +kernel
theorem dL_law_221 : decode cL_law 221 = .ok (.iload 4, 2) := by decide +kernel
theorem dL_law_223 : decode cL_law 223 = .ok (.iconst 1, 1) := by decide +kernel
theorem dL_law_224 : decode cL_law 224 = .ok (.iadd, 1) := by decide +kernel
theorem dL_law_225 : decode cL_law 225 = .ok (.iaload, 1) := by decide +kernel
theorem dL_law_226 : decode cL_law 226 = .ok (.invokevirtual 47, 3) := by decide +kernel
theorem dL_law_229 : decode cL_law 229 = .ok (.aload_n 2, 1) := by decide +kernel
theorem dL_law_230 : decode cL_law 230 = .ok (.aload_n 0, 1) := by decide +kernel
theorem dL_law_231 : decode cL_law 231 = .ok (.iload 4, 2) := by decide +kernel
theorem dL_law_233 : decode cL_law 233 = .ok (.iconst 1, 1) := by decide +kernel
theorem dL_law_234 : decode cL_law 234 = .ok (.iadd, 1) := by decide +kernel
theorem dL_law_235 : decode cL_law 235 = .ok (.iaload, 1) := by decide +kernel
theorem dL_law_236 : decode cL_law 236 = .ok (.invokevirtual 50, 3) := by decide +kernel
theorem dL_law_239 : decode cL_law 239 = .ok (.if_icmp .eq 400, 3) := by decide +kernel
theorem dL_law_242 : decode cL_law 242 = .ok (.iconst 0, 1) := by decide +kernel
theorem dL_law_243 : decode cL_law 243 = .ok (.ireturn, 1) := by decide +kernel
theorem dL_law_244 : decode cL_law 244 = .ok (.aload_n 1, 1) := by decide +kernel
theorem dL_law_245 : decode cL_law 245 = .ok (.aload_n 0, 1) := by decide +kernel
theorem dL_law_246 : decode cL_law 246 = .ok (.iload 4, 2) := by decide +kernel
theorem dL_law_248 : decode cL_law 248 = .ok (.iconst 1, 1) := by decide +kernel
theorem dL_law_249 : decode cL_law 249 = .ok (.iadd, 1) := by decide +kernel
theorem dL_law_250 : decode cL_law 250 = .ok (.iaload, 1) := by decide +kernel
theorem dL_law_251 : decode cL_law 251 = .ok (.aload_n 3, 1) := by decide +kernel
theorem dL_law_252 : decode cL_law 252 = .ok (.invokestatic 51, 3) := by decide +kernel
theorem dL_law_255 : decode cL_law 255 = .ok (.istore 5, 2) := by decide +kernel
theorem dL_law_257 : decode cL_law 257 = .ok (.aload_n 2, 1) := by decide +kernel
theorem dL_law_258 : decode cL_law 258 = .ok (.aload_n 0, 1) := by decide +kernel
theorem dL_law_259 : decode cL_law 259 = .ok (.iload 4, 2) := by decide +kernel
theorem dL_law_261 : decode cL_law 261 = .ok (.iconst 1, 1) := by decide +kernel
theorem dL_law_262 : decode cL_law 262 = .ok (.iadd, 1) := by decide +kernel
theorem dL_law_263 : decode cL_law 263 = .ok (.iaload, 1) := by decide +kernel
theorem dL_law_264 : decode cL_law 264 = .ok (.invokevirtual 56, 3) := by decide +kernel
theorem dL_law_267 : decode cL_law 267 = .ok (.istore 6, 2) := by decide +kernel
theorem dL_law_269 : decode cL_law 269 = .ok (.aload_n 2, 1) := by decide +kernel
theorem dL_law_270 : decode cL_law 270 = .ok (.invokevirtual 57, 3) := by decide +kernel
theorem dL_law_273 : decode cL_law 273 = .ok (.iload 5, 2) := by decide +kernel
theorem dL_law_275 : decode cL_law 275 = .ok (.if_icmp .eq 5, 3) := by decide +kernel
theorem dL_law_278 : decode cL_law 278 = .ok (.iconst 0, 1) := by decide +kernel
theorem dL_law_279 : decode cL_law 279 = .ok (.ireturn, 1) := by decide +kernel
theorem dL_law_280 : decode cL_law 280 = .ok (.iload 5, 2) := by decide +kernel
theorem dL_law_282 : decode cL_law 282 = .ok (.ifCond .ne 15, 3) := by decide +kernel
theorem dL_law_285 : decode cL_law 285 = .ok (.aload_n 3, 1) := by decide +kernel
theorem dL_law_286 : decode cL_law 286 = .ok (.iconst 0, 1) := by decide +kernel
theorem dL_law_287 : decode cL_law 287 = .ok (.laload, 1) := by decide +kernel
theorem dL_law_288 : decode cL_law 288 = .ok (.iload 6, 2) := by decide +kernel
theorem dL_law_290 : decode cL_law 290 = .ok (.i2l, 1) := by decide +kernel
theorem dL_law_291 : decode cL_law 291 = .ok (.lcmp, 1) := by decide +kernel
theorem dL_law_292 : decode cL_law 292 = .ok (.ifCond .eq 5, 3) := by decide +kernel
theorem dL_law_295 : decode cL_law 295 = .ok (.iconst 0, 1) := by decide +kernel
theorem dL_law_296 : decode cL_law 296 = .ok (.ireturn, 1) := by decide +kernel
theorem dL_law_297 : decode cL_law 297 = .ok (.goto 342, 3) := by decide +kernel
theorem dL_law_300 : decode cL_law 300 = .ok (.aload_n 1, 1) := by decide +kernel
theorem dL_law_301 : decode cL_law 301 = .ok (.aload_n 0, 1) := by decide +kernel
theorem dL_law_302 : decode cL_law 302 = .ok (.iload 4, 2) := by decide +kernel
theorem dL_law_304 : decode cL_law 304 = .ok (.iconst 1, 1) := by decide +kernel
theorem dL_law_305 : decode cL_law 305 = .ok (.iadd, 1) := by decide +kernel
theorem dL_law_306 : decode cL_law 306 = .ok (.iaload, 1) := by decide +kernel
theorem dL_law_307 : decode cL_law 307 = .ok (.invokevirtual 60, 3) := by decide +kernel
theorem dL_law_310 : decode cL_law 310 = .ok (.aload_n 2, 1) := by decide +kernel
theorem dL_law_311 : decode cL_law 311 = .ok (.aload_n 0, 1) := by decide +kernel
theorem dL_law_312 : decode cL_law 312 = .ok (.iload 4, 2) := by decide +kernel
theorem dL_law_314 : decode cL_law 314 = .ok (.iconst 1, 1) := by decide +kernel
theorem dL_law_315 : decode cL_law 315 = .ok (.iadd, 1) := by decide +kernel
theorem dL_law_316 : decode cL_law 316 = .ok (.iaload, 1) := by decide +kernel
theorem dL_law_317 : decode cL_law 317 = .ok (.invokevirtual 63, 3) := by decide +kernel
theorem dL_law_320 : decode cL_law 320 = .ok (.if_icmp .eq 319, 3) := by decide +kernel
theorem dL_law_323 : decode cL_law 323 = .ok (.iconst 0, 1) := by decide +kernel
theorem dL_law_324 : decode cL_law 324 = .ok (.ireturn, 1) := by decide +kernel
theorem dL_law_325 : decode cL_law 325 = .ok (.aload_n 1, 1) := by decide +kernel
theorem dL_law_326 : decode cL_law 326 = .ok (.aload_n 0, 1) := by decide +kernel
theorem dL_law_327 : decode cL_law 327 = .ok (.iload 4, 2) := by decide +kernel
theorem dL_law_329 : decode cL_law 329 = .ok (.iconst 1, 1) := by decide +kernel
theorem dL_law_330 : decode cL_law 330 = .ok (.iadd, 1) := by decide +kernel
theorem dL_law_331 : decode cL_law 331 = .ok (.iaload, 1) := by decide +kernel
theorem dL_law_332 : decode cL_law 332 = .ok (.aload_n 0, 1) := by decide +kernel
theorem dL_law_333 : decode cL_law 333 = .ok (.iload 4, 2) := by decide +kernel
theorem dL_law_335 : decode cL_law 335 = .ok (.iconst 2, 1) := by decide +kernel
theorem dL_law_336 : decode cL_law 336 = .ok (.iadd, 1) := by decide +kernel
theorem dL_law_337 : decode cL_law 337 = .ok (.iaload, 1) := by decide +kernel
theorem dL_law_338 : decode cL_law 338 = .ok (.aload_n 3, 1) := by decide +kernel
theorem dL_law_339 : decode cL_law 339 = .ok (.invokestatic 64, 3) := by decide +kernel
theorem dL_law_342 : decode cL_law 342 = .ok (.istore 5, 2) := by decide +kernel
theorem dL_law_344 : decode cL_law 344 = .ok (.aload_n 2, 1) := by decide +kernel
theorem dL_law_345 : decode cL_law 345 = .ok (.aload_n 0, 1) := by decide +kernel
theorem dL_law_346 : decode cL_law 346 = .ok (.iload 4, 2) := by decide +kernel
theorem dL_law_348 : decode cL_law 348 = .ok (.iconst 1, 1) := by decide +kernel
theorem dL_law_349 : decode cL_law 349 = .ok (.iadd, 1) := by decide +kernel
theorem dL_law_350 : decode cL_law 350 = .ok (.iaload, 1) := by decide +kernel
theorem dL_law_351 : decode cL_law 351 = .ok (.aload_n 0, 1) := by decide +kernel
theorem dL_law_352 : decode cL_law 352 = .ok (.iload 4, 2) := by decide +kernel
theorem dL_law_354 : decode cL_law 354 = .ok (.iconst 2, 1) := by decide +kernel
theorem dL_law_355 : decode cL_law 355 = .ok (.iadd, 1) := by decide +kernel
theorem dL_law_356 : decode cL_law 356 = .ok (.iaload, 1) := by decide +kernel
theorem dL_law_357 : decode cL_law 357 = .ok (.invokevirtual 67, 3) := by decide +kernel
theorem dL_law_360 : decode cL_law 360 = .ok (.istore 6, 2) := by decide +kernel
theorem dL_law_362 : decode cL_law 362 = .ok (.aload_n 2, 1) := by decide +kernel
theorem dL_law_363 : decode cL_law 363 = .ok (.invokevirtual 57, 3) := by decide +kernel
theorem dL_law_366 : decode cL_law 366 = .ok (.iload 5, 2) := by decide +kernel
theorem dL_law_368 : decode cL_law 368 = .ok (.if_icmp .eq 5, 3) := by decide +kernel
theorem dL_law_371 : decode cL_law 371 = .ok (.iconst 0, 1) := by decide +kernel
theorem dL_law_372 : decode cL_law 372 = .ok (.ireturn, 1) := by decide +kernel
theorem dL_law_373 : decode cL_law 373 = .ok (.iload 5, 2) := by decide +kernel
theorem dL_law_375 : decode cL_law 375 = .ok (.ifCond .ne 15, 3) := by decide +kernel
theorem dL_law_378 : decode cL_law 378 = .ok (.aload_n 3, 1) := by decide +kernel
theorem dL_law_379 : decode cL_law 379 = .ok (.iconst 0, 1) := by decide +kernel
theorem dL_law_380 : decode cL_law 380 = .ok (.laload, 1) := by decide +kernel
theorem dL_law_381 : decode cL_law 381 = .ok (.iload 6, 2) := by decide +kernel
theorem dL_law_383 : decode cL_law 383 = .ok (.i2l, 1) := by decide +kernel
theorem dL_law_384 : decode cL_law 384 = .ok (.lcmp, 1) := by decide +kernel
theorem dL_law_385 : decode cL_law 385 = .ok (.ifCond .eq 5, 3) := by decide +kernel
theorem dL_law_388 : decode cL_law 388 = .ok (.iconst 0, 1) := by decide +kernel
theorem dL_law_389 : decode cL_law 389 = .ok (.ireturn, 1) := by decide +kernel
theorem dL_law_390 : decode cL_law 390 = .ok (.goto 249, 3) := by decide +kernel
theorem dL_law_393 : decode cL_law 393 = .ok (.aload_n 1, 1) := by decide +kernel
theorem dL_law_394 : decode cL_law 394 = .ok (.aload_n 0, 1) := by decide +kernel
theorem dL_law_395 : decode cL_law 395 = .ok (.iload 4, 2) := by decide +kernel
theorem dL_law_397 : decode cL_law 397 = .ok (.iconst 1, 1) := by decide +kernel
theorem dL_law_398 : decode cL_law 398 = .ok (.iadd, 1) := by decide +kernel
theorem dL_law_399 : decode cL_law 399 = .ok (.iaload, 1) := by decide +kernel
theorem dL_law_400 : decode cL_law 400 = .ok (.aload_n 0, 1) := by decide +kernel
theorem dL_law_401 : decode cL_law 401 = .ok (.iload 4, 2) := by decide +kernel
theorem dL_law_403 : decode cL_law 403 = .ok (.iconst 2, 1) := by decide +kernel
theorem dL_law_404 : decode cL_law 404 = .ok (.iadd, 1) := by decide +kernel
theorem dL_law_405 : decode cL_law 405 = .ok (.iaload, 1) := by decide +kernel
theorem dL_law_406 : decode cL_law 406 = .ok (.aload_n 0, 1) := by decide +kernel
theorem dL_law_407 : decode cL_law 407 = .ok (.iload 4, 2) := by decide +kernel
theorem dL_law_409 : decode cL_law 409 = .ok (.iconst 3, 1) := by decide +kernel
theorem dL_law_410 : decode cL_law 410 = .ok (.iadd, 1) := by decide +kernel
theorem dL_law_411 : decode cL_law 411 = .ok (.iaload, 1) := by decide +kernel
theorem dL_law_412 : decode cL_law 412 = .ok (.invokevirtual 68, 3) := by decide +kernel
theorem dL_law_415 : decode cL_law 415 = .ok (.aload_n 2, 1) := by decide +kernel
theorem dL_law_416 : decode cL_law 416 = .ok (.aload_n 0, 1) := by decide +kernel
theorem dL_law_417 : decode cL_law 417 = .ok (.iload 4, 2) := by decide +kernel
theorem dL_law_419 : decode cL_law 419 = .ok (.iconst 1, 1) := by decide +kernel
theorem dL_law_420 : decode cL_law 420 = .ok (.iadd, 1) := by decide +kernel
theorem dL_law_421 : decode cL_law 421 = .ok (.iaload, 1) := by decide +kernel
theorem dL_law_422 : decode cL_law 422 = .ok (.aload_n 0, 1) := by decide +kernel
theorem dL_law_423 : decode cL_law 423 = .ok (.iload 4, 2) := by decide +kernel
theorem dL_law_425 : decode cL_law 425 = .ok (.iconst 2, 1) := by decide +kernel
theorem dL_law_426 : decode cL_law 426 = .ok (.iadd, 1) := by decide +kernel
theorem dL_law_427 : decode cL_law 427 = .ok (.iaload, 1) := by decide +kernel
theorem dL_law_428 : decode cL_law 428 = .ok (.aload_n 0, 1) := by decide +kernel
theorem dL_law_429 : decode cL_law 429 = .ok (.iload 4, 2) := by decide +kernel
theorem dL_law_431 : decode cL_law 431 = .ok (.iconst 3, 1) := by decide +kernel
theorem dL_law_432 : decode cL_law 432 = .ok (.iadd, 1) := by decide +kernel
theorem dL_law_433 : decode cL_law 433 = .ok (.iaload, 1) := by decide +kernel
theorem dL_law_434 : decode cL_law 434 = .ok (.invokevirtual 71, 3) := by decide +kernel
theorem dL_law_437 : decode cL_law 437 = .ok (.if_icmp .eq 202, 3) := by decide +kernel
theorem dL_law_440 : decode cL_law 440 = .ok (.iconst 0, 1) := by decide +kernel
theorem dL_law_441 : decode cL_law 441 = .ok (.ireturn, 1) := by decide +kernel
theorem dL_law_442 : decode cL_law 442 = .ok (.aload_n 1, 1) := by decide +kernel
theorem dL_law_443 : decode cL_law 443 = .ok (.aload_n 0, 1) := by decide +kernel
theorem dL_law_444 : decode cL_law 444 = .ok (.iload 4, 2) := by decide +kernel
theorem dL_law_446 : decode cL_law 446 = .ok (.iconst 1, 1) := by decide +kernel
theorem dL_law_447 : decode cL_law 447 = .ok (.iadd, 1) := by decide +kernel
theorem dL_law_448 : decode cL_law 448 = .ok (.iaload, 1) := by decide +kernel
theorem dL_law_449 : decode cL_law 449 = .ok (.aload_n 0, 1) := by decide +kernel
theorem dL_law_450 : decode cL_law 450 = .ok (.iload 4, 2) := by decide +kernel
theorem dL_law_452 : decode cL_law 452 = .ok (.iconst 2, 1) := by decide +kernel
theorem dL_law_453 : decode cL_law 453 = .ok (.iadd, 1) := by decide +kernel
theorem dL_law_454 : decode cL_law 454 = .ok (.iaload, 1) := by decide +kernel
theorem dL_law_455 : decode cL_law 455 = .ok (.aload_n 3, 1) := by decide +kernel
theorem dL_law_456 : decode cL_law 456 = .ok (.invokestatic 72, 3) := by decide +kernel
theorem dL_law_459 : decode cL_law 459 = .ok (.istore 5, 2) := by decide +kernel
theorem dL_law_461 : decode cL_law 461 = .ok (.aload_n 2, 1) := by decide +kernel
theorem dL_law_462 : decode cL_law 462 = .ok (.aload_n 0, 1) := by decide +kernel
theorem dL_law_463 : decode cL_law 463 = .ok (.iload 4, 2) := by decide +kernel
theorem dL_law_465 : decode cL_law 465 = .ok (.iconst 1, 1) := by decide +kernel
theorem dL_law_466 : decode cL_law 466 = .ok (.iadd, 1) := by decide +kernel
theorem dL_law_467 : decode cL_law 467 = .ok (.iaload, 1) := by decide +kernel
theorem dL_law_468 : decode cL_law 468 = .ok (.aload_n 0, 1) := by decide +kernel
theorem dL_law_469 : decode cL_law 469 = .ok (.iload 4, 2) := by decide +kernel
theorem dL_law_471 : decode cL_law 471 = .ok (.iconst 2, 1) := by decide +kernel
theorem dL_law_472 : decode cL_law 472 = .ok (.iadd, 1) := by decide +kernel
theorem dL_law_473 : decode cL_law 473 = .ok (.iaload, 1) := by decide +kernel
theorem dL_law_474 : decode cL_law 474 = .ok (.invokevirtual 74, 3) := by decide +kernel
theorem dL_law_477 : decode cL_law 477 = .ok (.istore 6, 2) := by decide +kernel
theorem dL_law_479 : decode cL_law 479 = .ok (.aload_n 2, 1) := by decide +kernel
theorem dL_law_480 : decode cL_law 480 = .ok (.invokevirtual 57, 3) := by decide +kernel
theorem dL_law_483 : decode cL_law 483 = .ok (.iload 5, 2) := by decide +kernel
theorem dL_law_485 : decode cL_law 485 = .ok (.if_icmp .eq 5, 3) := by decide +kernel
theorem dL_law_488 : decode cL_law 488 = .ok (.iconst 0, 1) := by decide +kernel
theorem dL_law_489 : decode cL_law 489 = .ok (.ireturn, 1) := by decide +kernel
theorem dL_law_490 : decode cL_law 490 = .ok (.iload 5, 2) := by decide +kernel
theorem dL_law_492 : decode cL_law 492 = .ok (.ifCond .ne 15, 3) := by decide +kernel
theorem dL_law_495 : decode cL_law 495 = .ok (.aload_n 3, 1) := by decide +kernel
theorem dL_law_496 : decode cL_law 496 = .ok (.iconst 0, 1) := by decide +kernel
theorem dL_law_497 : decode cL_law 497 = .ok (.laload, 1) := by decide +kernel
theorem dL_law_498 : decode cL_law 498 = .ok (.iload 6, 2) := by decide +kernel
theorem dL_law_500 : decode cL_law 500 = .ok (.i2l, 1) := by decide +kernel
theorem dL_law_501 : decode cL_law 501 = .ok (.lcmp, 1) := by decide +kernel
theorem dL_law_502 : decode cL_law 502 = .ok (.ifCond .eq 5, 3) := by decide +kernel
theorem dL_law_505 : decode cL_law 505 = .ok (.iconst 0, 1) := by decide +kernel
theorem dL_law_506 : decode cL_law 506 = .ok (.ireturn, 1) := by decide +kernel
theorem dL_law_507 : decode cL_law 507 = .ok (.goto 132, 3) := by decide +kernel
theorem dL_law_510 : decode cL_law 510 = .ok (.aload_n 1, 1) := by decide +kernel
theorem dL_law_511 : decode cL_law 511 = .ok (.aload_n 0, 1) := by decide +kernel
theorem dL_law_512 : decode cL_law 512 = .ok (.iload 4, 2) := by decide +kernel
theorem dL_law_514 : decode cL_law 514 = .ok (.iconst 1, 1) := by decide +kernel
theorem dL_law_515 : decode cL_law 515 = .ok (.iadd, 1) := by decide +kernel
theorem dL_law_516 : decode cL_law 516 = .ok (.iaload, 1) := by decide +kernel
theorem dL_law_517 : decode cL_law 517 = .ok (.aload_n 0, 1) := by decide +kernel
theorem dL_law_518 : decode cL_law 518 = .ok (.iload 4, 2) := by decide +kernel
theorem dL_law_520 : decode cL_law 520 = .ok (.iconst 2, 1) := by decide +kernel
theorem dL_law_521 : decode cL_law 521 = .ok (.iadd, 1) := by decide +kernel
theorem dL_law_522 : decode cL_law 522 = .ok (.iaload, 1) := by decide +kernel
theorem dL_law_523 : decode cL_law 523 = .ok (.aload_n 0, 1) := by decide +kernel
theorem dL_law_524 : decode cL_law 524 = .ok (.iload 4, 2) := by decide +kernel
theorem dL_law_526 : decode cL_law 526 = .ok (.iconst 3, 1) := by decide +kernel
theorem dL_law_527 : decode cL_law 527 = .ok (.iadd, 1) := by decide +kernel
theorem dL_law_528 : decode cL_law 528 = .ok (.iaload, 1) := by decide +kernel
theorem dL_law_529 : decode cL_law 529 = .ok (.aload_n 3, 1) := by decide +kernel
theorem dL_law_530 : decode cL_law 530 = .ok (.invokestatic 75, 3) := by decide +kernel
theorem dL_law_533 : decode cL_law 533 = .ok (.istore 5, 2) := by decide +kernel
theorem dL_law_535 : decode cL_law 535 = .ok (.aload_n 2, 1) := by decide +kernel
theorem dL_law_536 : decode cL_law 536 = .ok (.aload_n 0, 1) := by decide +kernel
theorem dL_law_537 : decode cL_law 537 = .ok (.iload 4, 2) := by decide +kernel
theorem dL_law_539 : decode cL_law 539 = .ok (.iconst 1, 1) := by decide +kernel
theorem dL_law_540 : decode cL_law 540 = .ok (.iadd, 1) := by decide +kernel
theorem dL_law_541 : decode cL_law 541 = .ok (.iaload, 1) := by decide +kernel
theorem dL_law_542 : decode cL_law 542 = .ok (.aload_n 0, 1) := by decide +kernel
theorem dL_law_543 : decode cL_law 543 = .ok (.iload 4, 2) := by decide +kernel
theorem dL_law_545 : decode cL_law 545 = .ok (.iconst 2, 1) := by decide +kernel
theorem dL_law_546 : decode cL_law 546 = .ok (.iadd, 1) := by decide +kernel
theorem dL_law_547 : decode cL_law 547 = .ok (.iaload, 1) := by decide +kernel
theorem dL_law_548 : decode cL_law 548 = .ok (.aload_n 0, 1) := by decide +kernel
theorem dL_law_549 : decode cL_law 549 = .ok (.iload 4, 2) := by decide +kernel
theorem dL_law_551 : decode cL_law 551 = .ok (.iconst 3, 1) := by decide +kernel
theorem dL_law_552 : decode cL_law 552 = .ok (.iadd, 1) := by decide +kernel
theorem dL_law_553 : decode cL_law 553 = .ok (.iaload, 1) := by decide +kernel
theorem dL_law_554 : decode cL_law 554 = .ok (.invokevirtual 78, 3) := by decide +kernel
theorem dL_law_557 : decode cL_law 557 = .ok (.istore 6, 2) := by decide +kernel
theorem dL_law_559 : decode cL_law 559 = .ok (.aload_n 2, 1) := by decide +kernel
theorem dL_law_560 : decode cL_law 560 = .ok (.invokevirtual 57, 3) := by decide +kernel
theorem dL_law_563 : decode cL_law 563 = .ok (.iload 5, 2) := by decide +kernel
theorem dL_law_565 : decode cL_law 565 = .ok (.if_icmp .eq 5, 3) := by decide +kernel
theorem dL_law_568 : decode cL_law 568 = .ok (.iconst 0, 1) := by decide +kernel
theorem dL_law_569 : decode cL_law 569 = .ok (.ireturn, 1) := by decide +kernel
theorem dL_law_570 : decode cL_law 570 = .ok (.iload 5, 2) := by decide +kernel
theorem dL_law_572 : decode cL_law 572 = .ok (.ifCond .ne 15, 3) := by decide +kernel
theorem dL_law_575 : decode cL_law 575 = .ok (.aload_n 3, 1) := by decide +kernel
theorem dL_law_576 : decode cL_law 576 = .ok (.iconst 0, 1) := by decide +kernel
theorem dL_law_577 : decode cL_law 577 = .ok (.laload, 1) := by decide +kernel
theorem dL_law_578 : decode cL_law 578 = .ok (.iload 6, 2) := by decide +kernel
theorem dL_law_580 : decode cL_law 580 = .ok (.i2l, 1) := by decide +kernel
theorem dL_law_581 : decode cL_law 581 = .ok (.lcmp, 1) := by decide +kernel
theorem dL_law_582 : decode cL_law 582 = .ok (.ifCond .eq 5, 3) := by decide +kernel
theorem dL_law_585 : decode cL_law 585 = .ok (.iconst 0, 1) := by decide +kernel
theorem dL_law_586 : decode cL_law 586 = .ok (.ireturn, 1) := by decide +kernel
theorem dL_law_587 : decode cL_law 587 = .ok (.goto 52, 3) := by decide +kernel
theorem dL_law_590 : decode cL_law 590 = .ok (.aload_n 1, 1) := by decide +kernel
theorem dL_law_591 : decode cL_law 591 = .ok (.aload_n 0, 1) := by decide +kernel
theorem dL_law_592 : decode cL_law 592 = .ok (.iload 4, 2) := by decide +kernel
theorem dL_law_594 : decode cL_law 594 = .ok (.iconst 1, 1) := by decide +kernel
theorem dL_law_595 : decode cL_law 595 = .ok (.iadd, 1) := by decide +kernel
theorem dL_law_596 : decode cL_law 596 = .ok (.iaload, 1) := by decide +kernel
theorem dL_law_597 : decode cL_law 597 = .ok (.invokevirtual 79, 3) := by decide +kernel
theorem dL_law_600 : decode cL_law 600 = .ok (.aload_n 2, 1) := by decide +kernel
theorem dL_law_601 : decode cL_law 601 = .ok (.aload_n 0, 1) := by decide +kernel
theorem dL_law_602 : decode cL_law 602 = .ok (.iload 4, 2) := by decide +kernel
theorem dL_law_604 : decode cL_law 604 = .ok (.iconst 1, 1) := by decide +kernel
theorem dL_law_605 : decode cL_law 605 = .ok (.iadd, 1) := by decide +kernel
theorem dL_law_606 : decode cL_law 606 = .ok (.iaload, 1) := by decide +kernel
theorem dL_law_607 : decode cL_law 607 = .ok (.invokevirtual 82, 3) := by decide +kernel
theorem dL_law_610 : decode cL_law 610 = .ok (.if_icmp .eq 29, 3) := by decide +kernel
theorem dL_law_613 : decode cL_law 613 = .ok (.iconst 0, 1) := by decide +kernel
theorem dL_law_614 : decode cL_law 614 = .ok (.ireturn, 1) := by decide +kernel
theorem dL_law_615 : decode cL_law 615 = .ok (.aload_n 1, 1) := by decide +kernel
theorem dL_law_616 : decode cL_law 616 = .ok (.invokevirtual 83, 3) := by decide +kernel
theorem dL_law_619 : decode cL_law 619 = .ok (.aload_n 2, 1) := by decide +kernel
theorem dL_law_620 : decode cL_law 620 = .ok (.invokevirtual 86, 3) := by decide +kernel
theorem dL_law_623 : decode cL_law 623 = .ok (.if_icmp .eq 16, 3) := by decide +kernel
theorem dL_law_626 : decode cL_law 626 = .ok (.iconst 0, 1) := by decide +kernel
theorem dL_law_627 : decode cL_law 627 = .ok (.ireturn, 1) := by decide +kernel
theorem dL_law_628 : decode cL_law 628 = .ok (.aload_n 1, 1) := by decide +kernel
theorem dL_law_629 : decode cL_law 629 = .ok (.invokevirtual 87, 3) := by decide +kernel
theorem dL_law_632 : decode cL_law 632 = .ok (.aload_n 2, 1) := by decide +kernel
theorem dL_law_633 : decode cL_law 633 = .ok (.invokevirtual 90, 3) := by decide +kernel
theorem dL_law_636 : decode cL_law 636 = .ok (.goto 3, 3) := by decide +kernel
theorem dL_law_639 : decode cL_law 639 = .ok (.iinc 4 6, 3) := by decide +kernel
theorem dL_law_642 : decode cL_law 642 = .ok (.goto (-619), 3) := by decide +kernel
theorem dL_law_645 : decode cL_law 645 = .ok (.iconst 1, 1) := by decide +kernel
theorem dL_law_646 : decode cL_law 646 = .ok (.ireturn, 1) := by decide +kernel
