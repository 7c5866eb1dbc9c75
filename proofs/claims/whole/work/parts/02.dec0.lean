theorem dX0_init_0 : decode cX0_init 0 = .ok (.aload_n 0, 1) := by decide +kernel
theorem dX0_init_1 : decode cX0_init 1 = .ok (.invokespecial 3, 3) := by decide +kernel
theorem dX0_init_4 : decode cX0_init 4 = .ok (.aload_n 0, 1) := by decide +kernel
theorem dX0_init_5 : decode cX0_init 5 = .ok (.aload_n 1, 1) := by decide +kernel
theorem dX0_init_6 : decode cX0_init 6 = .ok (.putfield 9, 3) := by decide +kernel
theorem dX0_init_9 : decode cX0_init 9 = .ok (.aload_n 0, 1) := by decide +kernel
theorem dX0_init_10 : decode cX0_init 10 = .ok (.aload_n 2, 1) := by decide +kernel
theorem dX0_init_11 : decode cX0_init 11 = .ok (.putfield 15, 3) := by decide +kernel
theorem dX0_init_14 : decode cX0_init 14 = .ok (.return_, 1) := by decide +kernel
theorem dX0_weigh_0 : decode cX0_weigh 0 = .ok (.iconst 0, 1) := by decide +kernel
theorem dX0_weigh_1 : decode cX0_weigh 1 = .ok (.istore_n 3, 1) := by decide +kernel
theorem dX0_weigh_2 : decode cX0_weigh 2 = .ok (.iconst 0, 1) := by decide +kernel
theorem dX0_weigh_3 : decode cX0_weigh 3 = .ok (.istore 4, 2) := by decide +kernel
theorem dX0_weigh_5 : decode cX0_weigh 5 = .ok (.iload 4, 2) := by decide +kernel
theorem dX0_weigh_7 : decode cX0_weigh 7 = .ok (.iconst 4, 1) := by decide +kernel
theorem dX0_weigh_8 : decode cX0_weigh 8 = .ok (.if_icmp .ge 34, 3) := by decide +kernel
theorem dX0_weigh_11 : decode cX0_weigh 11 = .ok (.aload_n 0, 1) := by decide +kernel
theorem dX0_weigh_12 : decode cX0_weigh 12 = .ok (.getfield 9, 3) := by decide +kernel
theorem dX0_weigh_15 : decode cX0_weigh 15 = .ok (.iload 4, 2) := by decide +kernel
theorem dX0_weigh_17 : decode cX0_weigh 17 = .ok (.invokevirtual 19, 3) := by decide +kernel
theorem dX0_weigh_20 : decode cX0_weigh 20 = .ok (.ifCond .eq 16, 3) := by decide +kernel
theorem dX0_weigh_23 : decode cX0_weigh 23 = .ok (.iload_n 3, 1) := by decide +kernel
theorem dX0_weigh_24 : decode cX0_weigh 24 = .ok (.aload_n 0, 1) := by decide +kernel
theorem dX0_weigh_25 : decode cX0_weigh 25 = .ok (.getfield 9, 3) := by decide +kernel
theorem dX0_weigh_28 : decode cX0_weigh 28 = .ok (.getfield 25, 3) := by decide +kernel
theorem dX0_weigh_31 : decode cX0_weigh 31 = .ok (.iload 4, 2) := by decide +kernel
theorem dX0_weigh_33 : decode cX0_weigh 33 = .ok (.iaload, 1) := by decide +kernel
theorem dX0_weigh_34 : decode cX0_weigh 34 = .ok (.iadd, 1) := by decide +kernel
theorem dX0_weigh_35 : decode cX0_weigh 35 = .ok (.istore_n 3, 1) := by decide +kernel
theorem dX0_weigh_36 : decode cX0_weigh 36 = .ok (.iinc 4 1, 3) := by decide +kernel
theorem dX0_weigh_39 : decode cX0_weigh 39 = .ok (.goto (-34), 3) := by decide +kernel
theorem dX0_weigh_42 : decode cX0_weigh 42 = .ok (.aload_n 0, 1) := by decide +kernel
theorem dX0_weigh_43 : decode cX0_weigh 43 = .ok (.lconst 1, 1) := by decide +kernel
theorem dX0_weigh_44 : decode cX0_weigh 44 = .ok (.putfield 29, 3) := by decide +kernel
theorem dX0_weigh_47 : decode cX0_weigh 47 = .ok (.iconst 0, 1) := by decide +kernel
theorem dX0_weigh_48 : decode cX0_weigh 48 = .ok (.istore 4, 2) := by decide +kernel
theorem dX0_weigh_50 : decode cX0_weigh 50 = .ok (.iload 4, 2) := by decide +kernel
theorem dX0_weigh_52 : decode cX0_weigh 52 = .ok (.iload_n 1, 1) := by decide +kernel
theorem dX0_weigh_53 : decode cX0_weigh 53 = .ok (.if_icmp .ge 20, 3) := by decide +kernel
theorem dX0_weigh_56 : decode cX0_weigh 56 = .ok (.aload_n 0, 1) := by decide +kernel
theorem dX0_weigh_57 : decode cX0_weigh 57 = .ok (.dup, 1) := by decide +kernel
theorem dX0_weigh_58 : decode cX0_weigh 58 = .ok (.getfield 29, 3) := by decide +kernel
theorem dX0_weigh_61 : decode cX0_weigh 61 = .ok (.iload_n 3, 1) := by decide +kernel
theorem dX0_weigh_62 : decode cX0_weigh 62 = .ok (.i2l, 1) := by decide +kernel
theorem dX0_weigh_63 : decode cX0_weigh 63 = .ok (.lmul, 1) := by decide +kernel
theorem dX0_weigh_64 : decode cX0_weigh 64 = .ok (.putfield 29, 3) := by decide +kernel
theorem dX0_weigh_67 : decode cX0_weigh 67 = .ok (.iinc 4 1, 3) := by decide +kernel
theorem dX0_weigh_70 : decode cX0_weigh 70 = .ok (.goto (-20), 3) := by decide +kernel
theorem dX0_weigh_73 : decode cX0_weigh 73 = .ok (.aload_n 0, 1) := by decide +kernel
theorem dX0_weigh_74 : decode cX0_weigh 74 = .ok (.getfield 15, 3) := by decide +kernel
theorem dX0_weigh_77 : decode cX0_weigh 77 = .ok (.invokevirtual 33, 3) := by decide +kernel
theorem dX0_weigh_80 : decode cX0_weigh 80 = .ok (.aload_n 0, 1) := by decide +kernel
theorem dX0_weigh_81 : decode cX0_weigh 81 = .ok (.iload_n 1, 1) := by decide +kernel
theorem dX0_weigh_82 : decode cX0_weigh 82 = .ok (.ifCond .ne 12, 3) := by decide +kernel
theorem dX0_weigh_85 : decode cX0_weigh 85 = .ok (.iload_n 2, 1) := by decide +kernel
theorem dX0_weigh_86 : decode cX0_weigh 86 = .ok (.iconst (-1), 1) := by decide +kernel
theorem dX0_weigh_87 : decode cX0_weigh 87 = .ok (.if_icmp .eq 7, 3) := by decide +kernel
theorem dX0_weigh_90 : decode cX0_weigh 90 = .ok (.lconst 0, 1) := by decide +kernel
theorem dX0_weigh_91 : decode cX0_weigh 91 = .ok (.goto 14, 3) := by decide +kernel
theorem dX0_weigh_94 : decode cX0_weigh 94 = .ok (.aload_n 0, 1) := by decide +kernel
theorem dX0_weigh_95 : decode cX0_weigh 95 = .ok (.iload_n 1, 1) := by decide +kernel
theorem dX0_weigh_96 : decode cX0_weigh 96 = .ok (.bipush 6, 2) := by decide +kernel
theorem dX0_weigh_98 : decode cX0_weigh 98 = .ok (.invokestatic 38, 3) := by decide +kernel
theorem dX0_weigh_101 : decode cX0_weigh 101 = .ok (.iload_n 2, 1) := by decide +kernel
theorem dX0_weigh_102 : decode cX0_weigh 102 = .ok (.invokevirtual 44, 3) := by decide +kernel
theorem dX0_weigh_105 : decode cX0_weigh 105 = .ok (.putfield 48, 3) := by decide +kernel
theorem dX0_weigh_108 : decode cX0_weigh 108 = .ok (.aload_n 0, 1) := by decide +kernel
theorem dX0_weigh_109 : decode cX0_weigh 109 = .ok (.invokevirtual 51, 3) := by decide +kernel
theorem dX0_weigh_112 : decode cX0_weigh 112 = .ok (.return_, 1) := by decide +kernel
theorem dX0_ways_0 : decode cX0_ways 0 = .ok (.aload_n 0, 1) := by decide +kernel
theorem dX0_ways_1 : decode cX0_ways 1 = .ok (.getfield 15, 3) := by decide +kernel
theorem dX0_ways_4 : decode cX0_ways 4 = .ok (.aload_n 0, 1) := by decide +kernel
theorem dX0_ways_5 : decode cX0_ways 5 = .ok (.getfield 9, 3) := by decide +kernel
theorem dX0_ways_8 : decode cX0_ways 8 = .ok (.getfield 54, 3) := by decide +kernel
theorem dX0_ways_11 : decode cX0_ways 11 = .ok (.invokevirtual 57, 3) := by decide +kernel
theorem dX0_ways_14 : decode cX0_ways 14 = .ok (.istore_n 3, 1) := by decide +kernel
theorem dX0_ways_15 : decode cX0_ways 15 = .ok (.iload_n 3, 1) := by decide +kernel
theorem dX0_ways_16 : decode cX0_ways 16 = .ok (.bipush (-6), 2) := by decide +kernel
theorem dX0_ways_18 : decode cX0_ways 18 = .ok (.if_icmp .ne 5, 3) := by decide +kernel
theorem dX0_ways_21 : decode cX0_ways 21 = .ok (.lconst 0, 1) := by decide +kernel
theorem dX0_ways_22 : decode cX0_ways 22 = .ok (.lreturn, 1) := by decide +kernel
theorem dX0_ways_23 : decode cX0_ways 23 = .ok (.iload_n 1, 1) := by decide +kernel
theorem dX0_ways_24 : decode cX0_ways 24 = .ok (.ifCond .gt 13, 3) := by decide +kernel
theorem dX0_ways_27 : decode cX0_ways 27 = .ok (.iload_n 3, 1) := by decide +kernel
theorem dX0_ways_28 : decode cX0_ways 28 = .ok (.ifCond .ne 7, 3) := by decide +kernel
theorem dX0_ways_31 : decode cX0_ways 31 = .ok (.lconst 1, 1) := by decide +kernel
theorem dX0_ways_32 : decode cX0_ways 32 = .ok (.goto 4, 3) := by decide +kernel
theorem dX0_ways_35 : decode cX0_ways 35 = .ok (.lconst 0, 1) := by decide +kernel
theorem dX0_ways_36 : decode cX0_ways 36 = .ok (.lreturn, 1) := by decide +kernel
theorem dX0_ways_37 : decode cX0_ways 37 = .ok (.lconst 0, 1) := by decide +kernel
theorem dX0_ways_38 : decode cX0_ways 38 = .ok (.lstore 4, 2) := by decide +kernel
theorem dX0_ways_40 : decode cX0_ways 40 = .ok (.iconst 0, 1) := by decide +kernel
theorem dX0_ways_41 : decode cX0_ways 41 = .ok (.istore 6, 2) := by decide +kernel
theorem dX0_ways_43 : decode cX0_ways 43 = .ok (.iload 6, 2) := by decide +kernel
theorem dX0_ways_45 : decode cX0_ways 45 = .ok (.iconst 4, 1) := by decide +kernel
theorem dX0_ways_46 : decode cX0_ways 46 = .ok (.if_icmp .ge 107, 3) := by decide +kernel
theorem dX0_ways_49 : decode cX0_ways 49 = .ok (.aload_n 0, 1) := by decide +kernel
theorem dX0_ways_50 : decode cX0_ways 50 = .ok (.getfield 9, 3) := by decide +kernel
theorem dX0_ways_53 : decode cX0_ways 53 = .ok (.iload 6, 2) := by decide +kernel
theorem dX0_ways_55 : decode cX0_ways 55 = .ok (.invokevirtual 19, 3) := by decide +kernel
theorem dX0_ways_58 : decode cX0_ways 58 = .ok (.ifCond .eq 89, 3) := by decide +kernel
theorem dX0_ways_61 : decode cX0_ways 61 = .ok (.iload_n 2, 1) := by decide +kernel
theorem dX0_ways_62 : decode cX0_ways 62 = .ok (.iconst (-1), 1) := by decide +kernel
theorem dX0_ways_63 : decode cX0_ways 63 = .ok (.if_icmp .eq 12, 3) := by decide +kernel
theorem dX0_ways_66 : decode cX0_ways 66 = .ok (.iload_n 2, 1) := by decide +kernel
theorem dX0_ways_67 : decode cX0_ways 67 = .ok (.iload 6, 2) := by decide +kernel
theorem dX0_ways_69 : decode cX0_ways 69 = .ok (.if_icmp .eq 6, 3) := by decide +kernel
theorem dX0_ways_72 : decode cX0_ways 72 = .ok (.goto 75, 3) := by decide +kernel
theorem dX0_ways_75 : decode cX0_ways 75 = .ok (.aload_n 0, 1) := by decide +kernel
theorem dX0_ways_76 : decode cX0_ways 76 = .ok (.getfield 15, 3) := by decide +kernel
theorem dX0_ways_79 : decode cX0_ways 79 = .ok (.getfield 61, 3) := by decide +kernel
theorem dX0_ways_82 : decode cX0_ways 82 = .ok (.istore 7, 2) := by decide +kernel
theorem dX0_ways_84 : decode cX0_ways 84 = .ok (.aload_n 0, 1) := by decide +kernel
theorem dX0_ways_85 : decode cX0_ways 85 = .ok (.getfield 15, 3) := by decide +kernel
theorem dX0_ways_88 : decode cX0_ways 88 = .ok (.iload 6, 2) := by decide +kernel
theorem dX0_ways_90 : decode cX0_ways 90 = .ok (.invokevirtual 65, 3) := by decide +kernel
theorem dX0_ways_93 : decode cX0_ways 93 = .ok (.istore 8, 2) := by decide +kernel
theorem dX0_ways_95 : decode cX0_ways 95 = .ok (.aload_n 0, 1) := by decide +kernel
theorem dX0_ways_96 : decode cX0_ways 96 = .ok (.getfield 15, 3) := by decide +kernel
theorem dX0_ways_99 : decode cX0_ways 99 = .ok (.getfield 61, 3) := by decide +kernel
theorem dX0_ways_102 : decode cX0_ways 102 = .ok (.istore 9, 2) := by decide +kernel
theorem dX0_ways_104 : decode cX0_ways 104 = .ok (.lload 4, 2) := by decide +kernel
theorem dX0_ways_106 : decode cX0_ways 106 = .ok (.aload_n 0, 1) := by decide +kernel
theorem dX0_ways_107 : decode cX0_ways 107 = .ok (.getfield 9, 3) := by decide +kernel
theorem dX0_ways_110 : decode cX0_ways 110 = .ok (.getfield 25, 3) := by decide +kernel
theorem dX0_ways_113 : decode cX0_ways 113 = .ok (.iload 6, 2) := by decide +kernel
theorem dX0_ways_115 : decode cX0_ways 115 = .ok (.iaload, 1) := by decide +kernel
theorem dX0_ways_116 : decode cX0_ways 116 = .ok (.i2l, 1) := by decide +kernel
theorem dX0_ways_117 : decode cX0_ways 117 = .ok (.aload_n 0, 1) := by decide +kernel
theorem dX0_ways_118 : decode cX0_ways 118 = .ok (.iload_n 1, 1) := by decide +kernel
theorem dX0_ways_119 : decode cX0_ways 119 = .ok (.iconst 1, 1) := by decide +kernel
theorem dX0_ways_120 : decode cX0_ways 120 = .ok (.isub, 1) := by decide +kernel
theorem dX0_ways_121 : decode cX0_ways 121 = .ok (.iconst (-1), 1) := by decide +kernel
theorem dX0_ways_122 : decode cX0_ways 122 = .ok (.invokevirtual 44, 3) := by decide +kernel
theorem dX0_ways_125 : decode cX0_ways 125 = .ok (.lmul, 1) := by decide +kernel
theorem dX0_ways_126 : decode cX0_ways 126 = .ok (.ladd, 1) := by decide +kernel
theorem dX0_ways_127 : decode cX0_ways 127 = .ok (.lstore 4, 2) := by decide +kernel
theorem dX0_ways_129 : decode cX0_ways 129 = .ok (.iload 8, 2) := by decide +kernel
theorem dX0_ways_131 : decode cX0_ways 131 = .ok (.ifCond .le 16, 3) := by decide +kernel
theorem dX0_ways_134 : decode cX0_ways 134 = .ok (.aload_n 0, 1) := by decide +kernel
theorem dX0_ways_135 : decode cX0_ways 135 = .ok (.getfield 15, 3) := by decide +kernel
theorem dX0_ways_138 : decode cX0_ways 138 = .ok (.iload 9, 2) := by decide +kernel
theorem dX0_ways_140 : decode cX0_ways 140 = .ok (.iload 8, 2) := by decide +kernel
theorem dX0_ways_142 : decode cX0_ways 142 = .ok (.iload 7, 2) := by decide +kernel
theorem dX0_ways_144 : decode cX0_ways 144 = .ok (.invokevirtual 69, 3) := by decide +kernel
theorem dX0_ways_147 : decode cX0_ways 147 = .ok (.iinc 6 1, 3) := by decide +kernel
theorem dX0_ways_150 : decode cX0_ways 150 = .ok (.goto (-107), 3) := by decide +kernel
theorem dX0_ways_153 : decode cX0_ways 153 = .ok (.lload 4, 2) := by decide +kernel
theorem dX0_ways_155 : decode cX0_ways 155 = .ok (.lreturn, 1) := by decide +kernel
theorem dX0_reduce_0 : decode cX0_reduce 0 = .ok (.aload_n 0, 1) := by decide +kernel
theorem dX0_reduce_1 : decode cX0_reduce 1 = .ok (.getfield 48, 3) := by decide +kernel
theorem dX0_reduce_4 : decode cX0_reduce 4 = .ok (.lstore_n 1, 1) := by decide +kernel
theorem dX0_reduce_5 : decode cX0_reduce 5 = .ok (.aload_n 0, 1) := by decide +kernel
theorem dX0_reduce_6 : decode cX0_reduce 6 = .ok (.getfield 29, 3) := by decide +kernel
theorem dX0_reduce_9 : decode cX0_reduce 9 = .ok (.lstore_n 3, 1) := by decide +kernel
theorem dX0_reduce_10 : decode cX0_reduce 10 = .ok (.iconst 0, 1) := by decide +kernel
theorem dX0_reduce_11 : decode cX0_reduce 11 = .ok (.istore 5, 2) := by decide +kernel
theorem dX0_reduce_13 : decode cX0_reduce 13 = .ok (.iload 5, 2) := by decide +kernel
theorem dX0_reduce_15 : decode cX0_reduce 15 = .ok (.bipush 100, 2) := by decide +kernel
theorem dX0_reduce_17 : decode cX0_reduce 17 = .ok (.if_icmp .ge 25, 3) := by decide +kernel
theorem dX0_reduce_20 : decode cX0_reduce 20 = .ok (.lload_n 3, 1) := by decide +kernel
theorem dX0_reduce_21 : decode cX0_reduce 21 = .ok (.lconst 0, 1) := by decide +kernel
theorem dX0_reduce_22 : decode cX0_reduce 22 = .ok (.lcmp, 1) := by decide +kernel
theorem dX0_reduce_23 : decode cX0_reduce 23 = .ok (.ifCond .eq 19, 3) := by decide +kernel
theorem dX0_reduce_26 : decode cX0_reduce 26 = .ok (.lload_n 1, 1) := by decide +kernel
theorem dX0_reduce_27 : decode cX0_reduce 27 = .ok (.lload_n 3, 1) := by decide +kernel
theorem dX0_reduce_28 : decode cX0_reduce 28 = .ok (.lrem, 1) := by decide +kernel
theorem dX0_reduce_29 : decode cX0_reduce 29 = .ok (.lstore 6, 2) := by decide +kernel
theorem dX0_reduce_31 : decode cX0_reduce 31 = .ok (.lload_n 3, 1) := by decide +kernel
theorem dX0_reduce_32 : decode cX0_reduce 32 = .ok (.lstore_n 1, 1) := by decide +kernel
theorem dX0_reduce_33 : decode cX0_reduce 33 = .ok (.lload 6, 2) := by decide +kernel
theorem dX0_reduce_35 : decode cX0_reduce 35 = .ok (.lstore_n 3, 1) := by decide +kernel
theorem dX0_reduce_36 : decode cX0_reduce 36 = .ok (.iinc 5 1, 3) := by decide +kernel
theorem dX0_reduce_39 : decode cX0_reduce 39 = .ok (.goto (-26), 3) := by decide +kernel
theorem dX0_reduce_42 : decode cX0_reduce 42 = .ok (.lload_n 1, 1) := by decide +kernel
theorem dX0_reduce_43 : decode cX0_reduce 43 = .ok (.lconst 1, 1) := by decide +kernel
theorem dX0_reduce_44 : decode cX0_reduce 44 = .ok (.lcmp, 1) := by decide +kernel
theorem dX0_reduce_45 : decode cX0_reduce 45 = .ok (.ifCond .le 23, 3) := by decide +kernel
theorem dX0_reduce_48 : decode cX0_reduce 48 = .ok (.aload_n 0, 1) := by decide +kernel
theorem dX0_reduce_49 : decode cX0_reduce 49 = .ok (.dup, 1) := by decide +kernel
theorem dX0_reduce_50 : decode cX0_reduce 50 = .ok (.getfield 48, 3) := by decide +kernel
theorem dX0_reduce_53 : decode cX0_reduce 53 = .ok (.lload_n 1, 1) := by decide +kernel
theorem dX0_reduce_54 : decode cX0_reduce 54 = .ok (.ldiv, 1) := by decide +kernel
theorem dX0_reduce_55 : decode cX0_reduce 55 = .ok (.putfield 48, 3) := by decide +kernel
theorem dX0_reduce_58 : decode cX0_reduce 58 = .ok (.aload_n 0, 1) := by decide +kernel
theorem dX0_reduce_59 : decode cX0_reduce 59 = .ok (.dup, 1) := by decide +kernel
theorem dX0_reduce_60 : decode cX0_reduce 60 = .ok (.getfield 29, 3) := by decide +kernel
theorem dX0_reduce_63 : decode cX0_reduce 63 = .ok (.lload_n 1, 1) := by decide +kernel
theorem dX0_reduce_64 : decode cX0_reduce 64 = .ok (.ldiv, 1) := by decide +kernel
theorem dX0_reduce_65 : decode cX0_reduce 65 = .ok (.putfield 29, 3) := by decide +kernel
theorem dX0_reduce_68 : decode cX0_reduce 68 = .ok (.return_, 1) := by decide +kernel
theorem dX1_init_0 : decode cX1_init 0 = .ok (.aload_n 0, 1) := by decide +kernel
theorem dX1_init_1 : decode cX1_init 1 = .ok (.invokespecial 3, 3) := by decide +kernel
theorem dX1_init_4 : decode cX1_init 4 = .ok (.aload_n 0, 1) := by decide +kernel
theorem dX1_init_5 : decode cX1_init 5 = .ok (.bipush 7, 2) := by decide +kernel
theorem dX1_init_7 : decode cX1_init 7 = .ok (.newarray .int, 2) := by decide +kernel
theorem dX1_init_9 : decode cX1_init 9 = .ok (.putfield 9, 3) := by decide +kernel
theorem dX1_init_12 : decode cX1_init 12 = .ok (.aload_n 0, 1) := by decide +kernel
theorem dX1_init_13 : decode cX1_init 13 = .ok (.aload_n 1, 1) := by decide +kernel
theorem dX1_init_14 : decode cX1_init 14 = .ok (.putfield 15, 3) := by decide +kernel
theorem dX1_init_17 : decode cX1_init 17 = .ok (.return_, 1) := by decide +kernel
theorem dX1_begin_0 : decode cX1_begin 0 = .ok (.aload_n 0, 1) := by decide +kernel
theorem dX1_begin_1 : decode cX1_begin 1 = .ok (.getfield 15, 3) := by decide +kernel
theorem dX1_begin_4 : decode cX1_begin 4 = .ok (.getfield 19, 3) := by decide +kernel
theorem dX1_begin_7 : decode cX1_begin 7 = .ok (.iconst 0, 1) := by decide +kernel
theorem dX1_begin_8 : decode cX1_begin 8 = .ok (.aload_n 0, 1) := by decide +kernel
theorem dX1_begin_9 : decode cX1_begin 9 = .ok (.getfield 9, 3) := by decide +kernel
theorem dX1_begin_12 : decode cX1_begin 12 = .ok (.iconst 0, 1) := by decide +kernel
theorem dX1_begin_13 : decode cX1_begin 13 = .ok (.bipush 7, 2) := by decide +kernel
theorem dX1_begin_15 : decode cX1_begin 15 = .ok (.invokestatic 22, 3) := by decide +kernel
theorem dX1_begin_18 : decode cX1_begin 18 = .ok (.aload_n 0, 1) := by decide +kernel
theorem dX1_begin_19 : decode cX1_begin 19 = .ok (.aload_n 0, 1) := by decide +kernel
theorem dX1_begin_20 : decode cX1_begin 20 = .ok (.getfield 15, 3) := by decide +kernel
theorem dX1_begin_23 : decode cX1_begin 23 = .ok (.getfield 28, 3) := by decide +kernel
theorem dX1_begin_26 : decode cX1_begin 26 = .ok (.putfield 32, 3) := by decide +kernel
theorem dX1_begin_29 : decode cX1_begin 29 = .ok (.aload_n 0, 1) := by decide +kernel
theorem dX1_begin_30 : decode cX1_begin 30 = .ok (.bipush (-6), 2) := by decide +kernel
theorem dX1_begin_32 : decode cX1_begin 32 = .ok (.putfield 33, 3) := by decide +kernel
theorem dX1_begin_35 : decode cX1_begin 35 = .ok (.return_, 1) := by decide +kernel
theorem dX1_choice_0 : decode cX1_choice 0 = .ok (.bipush (-6), 2) := by decide +kernel
theorem dX1_choice_2 : decode cX1_choice 2 = .ok (.istore_n 2, 1) := by decide +kernel
theorem dX1_choice_3 : decode cX1_choice 3 = .ok (.iconst 0, 1) := by decide +kernel
theorem dX1_choice_4 : decode cX1_choice 4 = .ok (.istore_n 3, 1) := by decide +kernel
theorem dX1_choice_5 : decode cX1_choice 5 = .ok (.iconst 0, 1) := by decide +kernel
theorem dX1_choice_6 : decode cX1_choice 6 = .ok (.istore 4, 2) := by decide +kernel
theorem dX1_choice_8 : decode cX1_choice 8 = .ok (.iload 4, 2) := by decide +kernel
theorem dX1_choice_10 : decode cX1_choice 10 = .ok (.aload_n 0, 1) := by decide +kernel
theorem dX1_choice_11 : decode cX1_choice 11 = .ok (.getfield 15, 3) := by decide +kernel
theorem dX1_choice_14 : decode cX1_choice 14 = .ok (.getfield 36, 3) := by decide +kernel
theorem dX1_choice_17 : decode cX1_choice 17 = .ok (.if_icmp .ge 62, 3) := by decide +kernel
theorem dX1_choice_20 : decode cX1_choice 20 = .ok (.aload_n 0, 1) := by decide +kernel
theorem dX1_choice_21 : decode cX1_choice 21 = .ok (.getfield 32, 3) := by decide +kernel
theorem dX1_choice_24 : decode cX1_choice 24 = .ok (.iload 4, 2) := by decide +kernel
theorem dX1_choice_26 : decode cX1_choice 26 = .ok (.ishr, 1) := by decide +kernel
theorem dX1_choice_27 : decode cX1_choice 27 = .ok (.iconst 1, 1) := by decide +kernel
theorem dX1_choice_28 : decode cX1_choice 28 = .ok (.iand, 1) := by decide +kernel
theorem dX1_choice_29 : decode cX1_choice 29 = .ok (.iconst 1, 1) := by decide +kernel
theorem dX1_choice_30 : decode cX1_choice 30 = .ok (.if_icmp .eq 43, 3) := by decide +kernel
theorem dX1_choice_33 : decode cX1_choice 33 = .ok (.aload_n 0, 1) := by decide +kernel
theorem dX1_choice_34 : decode cX1_choice 34 = .ok (.getfield 9, 3) := by decide +kernel
theorem dX1_choice_37 : decode cX1_choice 37 = .ok (.iload 4, 2) := by decide +kernel
theorem dX1_choice_39 : decode cX1_choice 39 = .ok (.iaload, 1) := by decide +kernel
theorem dX1_choice_40 : decode cX1_choice 40 = .ok (.ifCond .ne 6, 3) := by decide +kernel
theorem dX1_choice_43 : decode cX1_choice 43 = .ok (.goto 30, 3) := by decide +kernel
theorem dX1_choice_46 : decode cX1_choice 46 = .ok (.aload_n 0, 1) := by decide +kernel
theorem dX1_choice_47 : decode cX1_choice 47 = .ok (.iload_n 1, 1) := by decide +kernel
theorem dX1_choice_48 : decode cX1_choice 48 = .ok (.iload 4, 2) := by decide +kernel
theorem dX1_choice_50 : decode cX1_choice 50 = .ok (.invokevirtual 39, 3) := by decide +kernel
theorem dX1_choice_53 : decode cX1_choice 53 = .ok (.istore 5, 2) := by decide +kernel
theorem dX1_choice_55 : decode cX1_choice 55 = .ok (.iload_n 2, 1) := by decide +kernel
theorem dX1_choice_56 : decode cX1_choice 56 = .ok (.bipush (-6), 2) := by decide +kernel
theorem dX1_choice_58 : decode cX1_choice 58 = .ok (.if_icmp .eq 9, 3) := by decide +kernel
theorem dX1_choice_61 : decode cX1_choice 61 = .ok (.iload 5, 2) := by decide +kernel
theorem dX1_choice_63 : decode cX1_choice 63 = .ok (.iload_n 3, 1) := by decide +kernel
theorem dX1_choice_64 : decode cX1_choice 64 = .ok (.if_icmp .ge 9, 3) := by decide +kernel
theorem dX1_choice_67 : decode cX1_choice 67 = .ok (.iload 4, 2) := by decide +kernel
theorem dX1_choice_69 : decode cX1_choice 69 = .ok (.istore_n 2, 1) := by decide +kernel
theorem dX1_choice_70 : decode cX1_choice 70 = .ok (.iload 5, 2) := by decide +kernel
theorem dX1_choice_72 : decode cX1_choice 72 = .ok (.istore_n 3, 1) := by decide +kernel
theorem dX1_choice_73 : decode cX1_choice 73 = .ok (.iinc 4 1, 3) := by decide +kernel
theorem dX1_choice_76 : decode cX1_choice 76 = .ok (.goto (-68), 3) := by decide +kernel
theorem dX1_choice_79 : decode cX1_choice 79 = .ok (.iload_n 2, 1) := by decide +kernel
theorem dX1_choice_80 : decode cX1_choice 80 = .ok (.ireturn, 1) := by decide +kernel
theorem dX1_rank_0 : decode cX1_rank 0 = .ok (.aload_n 0, 1) := by decide +kernel
theorem dX1_rank_1 : decode cX1_rank 1 = .ok (.getfield 15, 3) := by decide +kernel
theorem dX1_rank_4 : decode cX1_rank 4 = .ok (.getfield 43, 3) := by decide +kernel
theorem dX1_rank_7 : decode cX1_rank 7 = .ok (.iload_n 1, 1) := by decide +kernel
theorem dX1_rank_8 : decode cX1_rank 8 = .ok (.iaload, 1) := by decide +kernel
theorem dX1_rank_9 : decode cX1_rank 9 = .ok (.tableswitch 75 0 2 #[27, 50, 58], 27) := by decide +kernel
theorem dX1_rank_36 : decode cX1_rank 36 = .ok (.aload_n 0, 1) := by decide +kernel
theorem dX1_rank_37 : decode cX1_rank 37 = .ok (.getfield 15, 3) := by decide +kernel
theorem dX1_rank_40 : decode cX1_rank 40 = .ok (.getfield 46, 3) := by decide +kernel
theorem dX1_rank_43 : decode cX1_rank 43 = .ok (.iload_n 2, 1) := by decide +kernel
theorem dX1_rank_44 : decode cX1_rank 44 = .ok (.iaload, 1) := by decide +kernel
theorem dX1_rank_45 : decode cX1_rank 45 = .ok (.aload_n 0, 1) := by decide +kernel
theorem dX1_rank_46 : decode cX1_rank 46 = .ok (.getfield 15, 3) := by decide +kernel
theorem dX1_rank_49 : decode cX1_rank 49 = .ok (.getfield 49, 3) := by decide +kernel
theorem dX1_rank_52 : decode cX1_rank 52 = .ok (.iload_n 1, 1) := by decide +kernel
theorem dX1_rank_53 : decode cX1_rank 53 = .ok (.iaload, 1) := by decide +kernel
theorem dX1_rank_54 : decode cX1_rank 54 = .ok (.isub, 1) := by decide +kernel
theorem dX1_rank_55 : decode cX1_rank 55 = .ok (.invokestatic 52, 3) := by decide +kernel
theorem dX1_rank_58 : decode cX1_rank 58 = .ok (.ireturn, 1) := by decide +kernel
theorem dX1_rank_59 : decode cX1_rank 59 = .ok (.aload_n 0, 1) := by decide +kernel
theorem dX1_rank_60 : decode cX1_rank 60 = .ok (.getfield 9, 3) := by decide +kernel
theorem dX1_rank_63 : decode cX1_rank 63 = .ok (.iload_n 2, 1) := by decide +kernel
theorem dX1_rank_64 : decode cX1_rank 64 = .ok (.iaload, 1) := by decide +kernel
theorem dX1_rank_65 : decode cX1_rank 65 = .ok (.ineg, 1) := by decide +kernel
theorem dX1_rank_66 : decode cX1_rank 66 = .ok (.ireturn, 1) := by decide +kernel
theorem dX1_rank_67 : decode cX1_rank 67 = .ok (.iload_n 2, 1) := by decide +kernel
theorem dX1_rank_68 : decode cX1_rank 68 = .ok (.aload_n 0, 1) := by decide +kernel
theorem dX1_rank_69 : decode cX1_rank 69 = .ok (.getfield 33, 3) := by decide +kernel
theorem dX1_rank_72 : decode cX1_rank 72 = .ok (.if_icmp .le 7, 3) := by decide +kernel
theorem dX1_rank_75 : decode cX1_rank 75 = .ok (.iload_n 2, 1) := by decide +kernel
theorem dX1_rank_76 : decode cX1_rank 76 = .ok (.goto 7, 3) := by decide +kernel
theorem dX1_rank_79 : decode cX1_rank 79 = .ok (.iload_n 2, 1) := by decide +kernel
theorem dX1_rank_80 : decode cX1_rank 80 = .ok (.bipush 7, 2) := by decide +kernel
theorem dX1_rank_82 : decode cX1_rank 82 = .ok (.iadd, 1) := by decide +kernel
theorem dX1_rank_83 : decode cX1_rank 83 = .ok (.ireturn, 1) := by decide +kernel
theorem dX1_rank_84 : decode cX1_rank 84 = .ok (.aload_n 0, 1) := by decide +kernel
theorem dX1_rank_85 : decode cX1_rank 85 = .ok (.getfield 9, 3) := by decide +kernel
theorem dX1_rank_88 : decode cX1_rank 88 = .ok (.iload_n 2, 1) := by decide +kernel
theorem dX1_rank_89 : decode cX1_rank 89 = .ok (.iaload, 1) := by decide +kernel
theorem dX1_rank_90 : decode cX1_rank 90 = .ok (.aload_n 0, 1) := by decide +kernel
theorem dX1_rank_91 : decode cX1_rank 91 = .ok (.getfield 15, 3) := by decide +kernel
theorem dX1_rank_94 : decode cX1_rank 94 = .ok (.getfield 58, 3) := by decide +kernel
theorem dX1_rank_97 : decode cX1_rank 97 = .ok (.iload_n 1, 1) := by decide +kernel
theorem dX1_rank_98 : decode cX1_rank 98 = .ok (.iaload, 1) := by decide +kernel
theorem dX1_rank_99 : decode cX1_rank 99 = .ok (.if_icmp .lt 7, 3) := by decide +kernel
theorem dX1_rank_102 : decode cX1_rank 102 = .ok (.iconst 0, 1) := by decide +kernel
theorem dX1_rank_103 : decode cX1_rank 103 = .ok (.goto 4, 3) := by decide +kernel
theorem dX1_rank_106 : decode cX1_rank 106 = .ok (.iconst 1, 1) := by decide +kernel
theorem dX1_rank_107 : decode cX1_rank 107 = .ok (.ireturn, 1) := by decide +kernel
theorem dX1_use_0 : decode cX1_use 0 = .ok (.aload_n 0, 1) := by decide +kernel
theorem dX1_use_1 : decode cX1_use 1 = .ok (.iload_n 1, 1) := by decide +kernel
theorem dX1_use_2 : decode cX1_use 2 = .ok (.iload_n 2, 1) := by decide +kernel
theorem dX1_use_3 : decode cX1_use 3 = .ok (.invokevirtual 61, 3) := by decide +kernel
theorem dX1_use_6 : decode cX1_use 6 = .ok (.istore_n 3, 1) := by decide +kernel
theorem dX1_use_7 : decode cX1_use 7 = .ok (.aload_n 0, 1) := by decide +kernel
theorem dX1_use_8 : decode cX1_use 8 = .ok (.getfield 9, 3) := by decide +kernel
theorem dX1_use_11 : decode cX1_use 11 = .ok (.iload_n 2, 1) := by decide +kernel
theorem dX1_use_12 : decode cX1_use 12 = .ok (.dup2, 1) := by decide +kernel
theorem dX1_use_13 : decode cX1_use 13 = .ok (.iaload, 1) := by decide +kernel
theorem dX1_use_14 : decode cX1_use 14 = .ok (.iload_n 3, 1) := by decide +kernel
theorem dX1_use_15 : decode cX1_use 15 = .ok (.isub, 1) := by decide +kernel
theorem dX1_use_16 : decode cX1_use 16 = .ok (.iastore, 1) := by decide +kernel
theorem dX1_use_17 : decode cX1_use 17 = .ok (.aload_n 0, 1) := by decide +kernel
theorem dX1_use_18 : decode cX1_use 18 = .ok (.iload_n 2, 1) := by decide +kernel
theorem dX1_use_19 : decode cX1_use 19 = .ok (.putfield 33, 3) := by decide +kernel
theorem dX1_use_22 : decode cX1_use 22 = .ok (.iload_n 3, 1) := by decide +kernel
theorem dX1_use_23 : decode cX1_use 23 = .ok (.ireturn, 1) := by decide +kernel
theorem dX1_bite_0 : decode cX1_bite 0 = .ok (.aload_n 0, 1) := by decide +kernel
theorem dX1_bite_1 : decode cX1_bite 1 = .ok (.getfield 15, 3) := by decide +kernel
theorem dX1_bite_4 : decode cX1_bite 4 = .ok (.getfield 58, 3) := by decide +kernel
theorem dX1_bite_7 : decode cX1_bite 7 = .ok (.iload_n 1, 1) := by decide +kernel
theorem dX1_bite_8 : decode cX1_bite 8 = .ok (.iaload, 1) := by decide +kernel
theorem dX1_bite_9 : decode cX1_bite 9 = .ok (.aload_n 0, 1) := by decide +kernel
theorem dX1_bite_10 : decode cX1_bite 10 = .ok (.getfield 9, 3) := by decide +kernel
theorem dX1_bite_13 : decode cX1_bite 13 = .ok (.iload_n 2, 1) := by decide +kernel
theorem dX1_bite_14 : decode cX1_bite 14 = .ok (.iaload, 1) := by decide +kernel
theorem dX1_bite_15 : decode cX1_bite 15 = .ok (.invokestatic 64, 3) := by decide +kernel
theorem dX1_bite_18 : decode cX1_bite 18 = .ok (.ireturn, 1) := by decide +kernel
theorem dX1_takeBack_0 : decode cX1_takeBack 0 = .ok (.aload_n 0, 1) := by decide +kernel
theorem dX1_takeBack_1 : decode cX1_takeBack 1 = .ok (.getfield 9, 3) := by decide +kernel
theorem dX1_takeBack_4 : decode cX1_takeBack 4 = .ok (.iload_n 1, 1) := by decide +kernel
theorem dX1_takeBack_5 : decode cX1_takeBack 5 = .ok (.dup2, 1) := by decide +kernel
theorem dX1_takeBack_6 : decode cX1_takeBack 6 = .ok (.iaload, 1) := by decide +kernel
theorem dX1_takeBack_7 : decode cX1_takeBack 7 = .ok (.iload_n 2, 1) := by decide +kernel
theorem dX1_takeBack_8 : decode cX1_takeBack 8 = .ok (.iadd, 1) := by decide +kernel
theorem dX1_takeBack_9 : decode cX1_takeBack 9 = .ok (.iastore, 1) := by decide +kernel
theorem dX1_takeBack_10 : decode cX1_takeBack 10 = .ok (.aload_n 0, 1) := by decide +kernel
theorem dX1_takeBack_11 : decode cX1_takeBack 11 = .ok (.iload_n 3, 1) := by decide +kernel
theorem dX1_takeBack_12 : decode cX1_takeBack 12 = .ok (.putfield 33, 3) := by decide +kernel
theorem dX1_takeBack_15 : decode cX1_takeBack 15 = .ok (.return_, 1) := by decide +kernel
theorem dX1_visit_0 : decode cX1_visit 0 = .ok (.aload_n 0, 1) := by decide +kernel
theorem dX1_visit_1 : decode cX1_visit 1 = .ok (.getfield 15, 3) := by decide +kernel
theorem dX1_visit_4 : decode cX1_visit 4 = .ok (.iload_n 1, 1) := by decide +kernel
theorem dX1_visit_5 : decode cX1_visit 5 = .ok (.invokevirtual 67, 3) := by decide +kernel
theorem dX1_visit_8 : decode cX1_visit 8 = .ok (.ifCond .ne 5, 3) := by decide +kernel
theorem dX1_visit_11 : decode cX1_visit 11 = .ok (.iconst 0, 1) := by decide +kernel
theorem dX1_visit_12 : decode cX1_visit 12 = .ok (.ireturn, 1) := by decide +kernel
theorem dX1_visit_13 : decode cX1_visit 13 = .ok (.aload_n 0, 1) := by decide +kernel
theorem dX1_visit_14 : decode cX1_visit 14 = .ok (.iload_n 1, 1) := by decide +kernel
theorem dX1_visit_15 : decode cX1_visit 15 = .ok (.invokevirtual 71, 3) := by decide +kernel
theorem dX1_visit_18 : decode cX1_visit 18 = .ok (.istore_n 2, 1) := by decide +kernel
theorem dX1_visit_19 : decode cX1_visit 19 = .ok (.iload_n 2, 1) := by decide +kernel
theorem dX1_visit_20 : decode cX1_visit 20 = .ok (.bipush (-6), 2) := by decide +kernel
theorem dX1_visit_22 : decode cX1_visit 22 = .ok (.if_icmp .ne 7, 3) := by decide +kernel
theorem dX1_visit_25 : decode cX1_visit 25 = .ok (.iconst 0, 1) := by decide +kernel
theorem dX1_visit_26 : decode cX1_visit 26 = .ok (.goto 9, 3) := by decide +kernel
theorem dX1_visit_29 : decode cX1_visit 29 = .ok (.aload_n 0, 1) := by decide +kernel
theorem dX1_visit_30 : decode cX1_visit 30 = .ok (.iload_n 1, 1) := by decide +kernel
theorem dX1_visit_31 : decode cX1_visit 31 = .ok (.iload_n 2, 1) := by decide +kernel
theorem dX1_visit_32 : decode cX1_visit 32 = .ok (.invokevirtual 74, 3) := by decide +kernel
theorem dX1_visit_35 : decode cX1_visit 35 = .ok (.ireturn, 1) := by decide +kernel
theorem dX1_stillToEat_0 : decode cX1_stillToEat 0 = .ok (.iconst 0, 1) := by decide +kernel
theorem dX1_stillToEat_1 : decode cX1_stillToEat 1 = .ok (.istore_n 2, 1) := by decide +kernel
theorem dX1_stillToEat_2 : decode cX1_stillToEat 2 = .ok (.iconst 0, 1) := by decide +kernel
theorem dX1_stillToEat_3 : decode cX1_stillToEat 3 = .ok (.istore_n 3, 1) := by decide +kernel
theorem dX1_stillToEat_4 : decode cX1_stillToEat 4 = .ok (.iload_n 3, 1) := by decide +kernel
theorem dX1_stillToEat_5 : decode cX1_stillToEat 5 = .ok (.aload_n 0, 1) := by decide +kernel
theorem dX1_stillToEat_6 : decode cX1_stillToEat 6 = .ok (.getfield 15, 3) := by decide +kernel
theorem dX1_stillToEat_9 : decode cX1_stillToEat 9 = .ok (.getfield 36, 3) := by decide +kernel
theorem dX1_stillToEat_12 : decode cX1_stillToEat 12 = .ok (.if_icmp .ge 48, 3) := by decide +kernel
theorem dX1_stillToEat_15 : decode cX1_stillToEat 15 = .ok (.aload_n 1, 1) := by decide +kernel
theorem dX1_stillToEat_16 : decode cX1_stillToEat 16 = .ok (.iload_n 3, 1) := by decide +kernel
theorem dX1_stillToEat_17 : decode cX1_stillToEat 17 = .ok (.iaload, 1) := by decide +kernel
theorem dX1_stillToEat_18 : decode cX1_stillToEat 18 = .ok (.bipush (-6), 2) := by decide +kernel
theorem dX1_stillToEat_20 : decode cX1_stillToEat 20 = .ok (.if_icmp .ne 6, 3) := by decide +kernel
theorem dX1_stillToEat_23 : decode cX1_stillToEat 23 = .ok (.goto 31, 3) := by decide +kernel
theorem dX1_stillToEat_26 : decode cX1_stillToEat 26 = .ok (.aload_n 0, 1) := by decide +kernel
theorem dX1_stillToEat_27 : decode cX1_stillToEat 27 = .ok (.getfield 9, 3) := by decide +kernel
theorem dX1_stillToEat_30 : decode cX1_stillToEat 30 = .ok (.iload_n 3, 1) := by decide +kernel
theorem dX1_stillToEat_31 : decode cX1_stillToEat 31 = .ok (.iaload, 1) := by decide +kernel
theorem dX1_stillToEat_32 : decode cX1_stillToEat 32 = .ok (.aload_n 1, 1) := by decide +kernel
theorem dX1_stillToEat_33 : decode cX1_stillToEat 33 = .ok (.iload_n 3, 1) := by decide +kernel
theorem dX1_stillToEat_34 : decode cX1_stillToEat 34 = .ok (.iaload, 1) := by decide +kernel
theorem dX1_stillToEat_35 : decode cX1_stillToEat 35 = .ok (.if_icmp .ge 6, 3) := by decide +kernel
theorem dX1_stillToEat_38 : decode cX1_stillToEat 38 = .ok (.bipush (-6), 2) := by decide +kernel
theorem dX1_stillToEat_40 : decode cX1_stillToEat 40 = .ok (.ireturn, 1) := by decide +kernel
theorem dX1_stillToEat_41 : decode cX1_stillToEat 41 = .ok (.iload_n 2, 1) := by decide +kernel
theorem dX1_stillToEat_42 : decode cX1_stillToEat 42 = .ok (.aload_n 0, 1) := by decide +kernel
theorem dX1_stillToEat_43 : decode cX1_stillToEat 43 = .ok (.getfield 9, 3) := by decide +kernel
theorem dX1_stillToEat_46 : decode cX1_stillToEat 46 = .ok (.iload_n 3, 1) := by decide +kernel
theorem dX1_stillToEat_47 : decode cX1_stillToEat 47 = .ok (.iaload, 1) := by decide +kernel
theorem dX1_stillToEat_48 : decode cX1_stillToEat 48 = .ok (.aload_n 1, 1) := by decide +kernel
theorem dX1_stillToEat_49 : decode cX1_stillToEat 49 = .ok (.iload_n 3, 1) := by decide +kernel
theorem dX1_stillToEat_50 : decode cX1_stillToEat 50 = .ok (.iaload, 1) := by decide +kernel
theorem dX1_stillToEat_51 : decode cX1_stillToEat 51 = .ok (.isub, 1) := by decide +kernel
theorem dX1_stillToEat_52 : decode cX1_stillToEat 52 = .ok (.iadd, 1) := by decide +kernel
theorem dX1_stillToEat_53 : decode cX1_stillToEat 53 = .ok (.istore_n 2, 1) := by decide +kernel
theorem dX1_stillToEat_54 : decode cX1_stillToEat 54 = .ok (.iinc 3 1, 3) := by decide +kernel
theorem dX1_stillToEat_57 : decode cX1_stillToEat 57 = .ok (.goto (-53), 3) := by decide +kernel
theorem dX1_stillToEat_60 : decode cX1_stillToEat 60 = .ok (.iload_n 2, 1) := by decide +kernel
theorem dX1_stillToEat_61 : decode cX1_stillToEat 61 = .ok (.ireturn, 1) := by decide +kernel
theorem dX1_asNumber_0 : decode cX1_asNumber 0 = .ok (.iconst 0, 1) := by decide +kernel
theorem dX1_asNumber_1 : decode cX1_asNumber 1 = .ok (.istore_n 1, 1) := by decide +kernel
theorem dX1_asNumber_2 : decode cX1_asNumber 2 = .ok (.iconst 0, 1) := by decide +kernel
theorem dX1_asNumber_3 : decode cX1_asNumber 3 = .ok (.istore_n 2, 1) := by decide +kernel
theorem dX1_asNumber_4 : decode cX1_asNumber 4 = .ok (.iload_n 2, 1) := by decide +kernel
theorem dX1_asNumber_5 : decode cX1_asNumber 5 = .ok (.aload_n 0, 1) := by decide +kernel
theorem dX1_asNumber_6 : decode cX1_asNumber 6 = .ok (.getfield 15, 3) := by decide +kernel
theorem dX1_asNumber_9 : decode cX1_asNumber 9 = .ok (.getfield 36, 3) := by decide +kernel
theorem dX1_asNumber_12 : decode cX1_asNumber 12 = .ok (.if_icmp .ge 21, 3) := by decide +kernel
theorem dX1_asNumber_15 : decode cX1_asNumber 15 = .ok (.bipush 10, 2) := by decide +kernel
theorem dX1_asNumber_17 : decode cX1_asNumber 17 = .ok (.iload_n 1, 1) := by decide +kernel
theorem dX1_asNumber_18 : decode cX1_asNumber 18 = .ok (.imul, 1) := by decide +kernel
theorem dX1_asNumber_19 : decode cX1_asNumber 19 = .ok (.aload_n 0, 1) := by decide +kernel
theorem dX1_asNumber_20 : decode cX1_asNumber 20 = .ok (.getfield 9, 3) := by decide +kernel
theorem dX1_asNumber_23 : decode cX1_asNumber 23 = .ok (.iload_n 2, 1) := by decide +kernel
theorem dX1_asNumber_24 : decode cX1_asNumber 24 = .ok (.iaload, 1) := by decide +kernel
theorem dX1_asNumber_25 : decode cX1_asNumber 25 = .ok (.iadd, 1) := by decide +kernel
theorem dX1_asNumber_26 : decode cX1_asNumber 26 = .ok (.istore_n 1, 1) := by decide +kernel
theorem dX1_asNumber_27 : decode cX1_asNumber 27 = .ok (.iinc 2 1, 3) := by decide +kernel
theorem dX1_asNumber_30 : decode cX1_asNumber 30 = .ok (.goto (-26), 3) := by decide +kernel
theorem dX1_asNumber_33 : decode cX1_asNumber 33 = .ok (.iload_n 1, 1) := by decide +kernel
theorem dX1_asNumber_34 : decode cX1_asNumber 34 = .ok (.ireturn, 1) := by decide +kernel
theorem dX2_init_0 : decode cX2_init 0 = .ok (.aload_n 0, 1) := by decide +kernel
theorem dX2_init_1 : decode cX2_init 1 = .ok (.invokespecial 3, 3) := by decide +kernel
theorem dX2_init_4 : decode cX2_init 4 = .ok (.aload_n 0, 1) := by decide +kernel
theorem dX2_init_5 : decode cX2_init 5 = .ok (.bipush 7, 2) := by decide +kernel
theorem dX2_init_7 : decode cX2_init 7 = .ok (.newarray .int, 2) := by decide +kernel
theorem dX2_init_9 : decode cX2_init 9 = .ok (.putfield 9, 3) := by decide +kernel
theorem dX2_init_12 : decode cX2_init 12 = .ok (.aload_n 0, 1) := by decide +kernel
theorem dX2_init_13 : decode cX2_init 13 = .ok (.bipush 7, 2) := by decide +kernel
theorem dX2_init_15 : decode cX2_init 15 = .ok (.newarray .int, 2) := by decide +kernel
theorem dX2_init_17 : decode cX2_init 17 = .ok (.putfield 15, 3) := by decide +kernel
theorem dX2_init_20 : decode cX2_init 20 = .ok (.aload_n 0, 1) := by decide +kernel
theorem dX2_init_21 : decode cX2_init 21 = .ok (.bipush 7, 2) := by decide +kernel
theorem dX2_init_23 : decode cX2_init 23 = .ok (.newarray .int, 2) := by decide +kernel
theorem dX2_init_25 : decode cX2_init 25 = .ok (.putfield 18, 3) := by decide +kernel
theorem dX2_init_28 : decode cX2_init 28 = .ok (.aload_n 0, 1) := by decide +kernel
theorem dX2_init_29 : decode cX2_init 29 = .ok (.bipush 7, 2) := by decide +kernel
theorem dX2_init_31 : decode cX2_init 31 = .ok (.newarray .int, 2) := by decide +kernel
theorem dX2_init_33 : decode cX2_init 33 = .ok (.putfield 21, 3) := by decide +kernel
theorem dX2_init_36 : decode cX2_init 36 = .ok (.aload_n 0, 1) := by decide +kernel
theorem dX2_init_37 : decode cX2_init 37 = .ok (.bipush 40, 2) := by decide +kernel
theorem dX2_init_39 : decode cX2_init 39 = .ok (.newarray .int, 2) := by decide +kernel
theorem dX2_init_41 : decode cX2_init 41 = .ok (.putfield 24, 3) := by decide +kernel
theorem dX2_init_44 : decode cX2_init 44 = .ok (.aload_n 0, 1) := by decide +kernel
theorem dX2_init_45 : decode cX2_init 45 = .ok (.aload_n 1, 1) := by decide +kernel
theorem dX2_init_46 : decode cX2_init 46 = .ok (.putfield 27, 3) := by decide +kernel
theorem dX2_init_49 : decode cX2_init 49 = .ok (.aload_n 0, 1) := by decide +kernel
theorem dX2_init_50 : decode cX2_init 50 = .ok (.aload_n 2, 1) := by decide +kernel
theorem dX2_init_51 : decode cX2_init 51 = .ok (.putfield 31, 3) := by decide +kernel
theorem dX2_init_54 : decode cX2_init 54 = .ok (.return_, 1) := by decide +kernel
theorem dX2_run_0 : decode cX2_run 0 = .ok (.aload_n 0, 1) := by decide +kernel
theorem dX2_run_1 : decode cX2_run 1 = .ok (.invokevirtual 35, 3) := by decide +kernel
theorem dX2_run_4 : decode cX2_run 4 = .ok (.iconst 0, 1) := by decide +kernel
theorem dX2_run_5 : decode cX2_run 5 = .ok (.istore_n 2, 1) := by decide +kernel
theorem dX2_run_6 : decode cX2_run 6 = .ok (.iload_n 2, 1) := by decide +kernel
theorem dX2_run_7 : decode cX2_run 7 = .ok (.aload_n 1, 1) := by decide +kernel
theorem dX2_run_8 : decode cX2_run 8 = .ok (.getfield 38, 3) := by decide +kernel
theorem dX2_run_11 : decode cX2_run 11 = .ok (.if_icmp .ge 74, 3) := by decide +kernel
theorem dX2_run_14 : decode cX2_run 14 = .ok (.aload_n 1, 1) := by decide +kernel
theorem dX2_run_15 : decode cX2_run 15 = .ok (.getfield 44, 3) := by decide +kernel
theorem dX2_run_18 : decode cX2_run 18 = .ok (.iload_n 2, 1) := by decide +kernel
theorem dX2_run_19 : decode cX2_run 19 = .ok (.iaload, 1) := by decide +kernel
theorem dX2_run_20 : decode cX2_run 20 = .ok (.istore_n 3, 1) := by decide +kernel
theorem dX2_run_21 : decode cX2_run 21 = .ok (.aload_n 0, 1) := by decide +kernel
theorem dX2_run_22 : decode cX2_run 22 = .ok (.getfield 24, 3) := by decide +kernel
theorem dX2_run_25 : decode cX2_run 25 = .ok (.iload_n 2, 1) := by decide +kernel
theorem dX2_run_26 : decode cX2_run 26 = .ok (.bipush (-6), 2) := by decide +kernel
theorem dX2_run_28 : decode cX2_run 28 = .ok (.iastore, 1) := by decide +kernel
theorem dX2_run_29 : decode cX2_run 29 = .ok (.iload_n 3, 1) := by decide +kernel
theorem dX2_run_30 : decode cX2_run 30 = .ok (.invokestatic 47, 3) := by decide +kernel
theorem dX2_run_33 : decode cX2_run 33 = .ok (.ifCond .eq 15, 3) := by decide +kernel
theorem dX2_run_36 : decode cX2_run 36 = .ok (.aload_n 0, 1) := by decide +kernel
theorem dX2_run_37 : decode cX2_run 37 = .ok (.iload_n 3, 1) := by decide +kernel
theorem dX2_run_38 : decode cX2_run 38 = .ok (.bipush 65, 2) := by decide +kernel
theorem dX2_run_40 : decode cX2_run 40 = .ok (.isub, 1) := by decide +kernel
theorem dX2_run_41 : decode cX2_run 41 = .ok (.iload_n 2, 1) := by decide +kernel
theorem dX2_run_42 : decode cX2_run 42 = .ok (.invokevirtual 51, 3) := by decide +kernel
theorem dX2_run_45 : decode cX2_run 45 = .ok (.goto 24, 3) := by decide +kernel
theorem dX2_run_48 : decode cX2_run 48 = .ok (.iload_n 3, 1) := by decide +kernel
theorem dX2_run_49 : decode cX2_run 49 = .ok (.bipush 46, 2) := by decide +kernel
theorem dX2_run_51 : decode cX2_run 51 = .ok (.if_icmp .ne 10, 3) := by decide +kernel
theorem dX2_run_54 : decode cX2_run 54 = .ok (.aload_n 0, 1) := by decide +kernel
theorem dX2_run_55 : decode cX2_run 55 = .ok (.invokevirtual 55, 3) := by decide +kernel
theorem dX2_run_58 : decode cX2_run 58 = .ok (.goto 11, 3) := by decide +kernel
theorem dX2_run_61 : decode cX2_run 61 = .ok (.aload_n 0, 1) := by decide +kernel
theorem dX2_run_62 : decode cX2_run 62 = .ok (.iload_n 3, 1) := by decide +kernel
theorem dX2_run_63 : decode cX2_run 63 = .ok (.bipush 48, 2) := by decide +kernel
theorem dX2_run_65 : decode cX2_run 65 = .ok (.isub, 1) := by decide +kernel
theorem dX2_run_66 : decode cX2_run 66 = .ok (.invokevirtual 58, 3) := by decide +kernel
theorem dX2_run_69 : decode cX2_run 69 = .ok (.aload_n 0, 1) := by decide +kernel
theorem dX2_run_70 : decode cX2_run 70 = .ok (.getfield 62, 3) := by decide +kernel
theorem dX2_run_73 : decode cX2_run 73 = .ok (.bipush (-6), 2) := by decide +kernel
theorem dX2_run_75 : decode cX2_run 75 = .ok (.if_icmp .eq 4, 3) := by decide +kernel
theorem dX2_run_78 : decode cX2_run 78 = .ok (.return_, 1) := by decide +kernel
theorem dX2_run_79 : decode cX2_run 79 = .ok (.iinc 2 1, 3) := by decide +kernel
theorem dX2_run_82 : decode cX2_run 82 = .ok (.goto (-76), 3) := by decide +kernel
theorem dX2_run_85 : decode cX2_run 85 = .ok (.return_, 1) := by decide +kernel
theorem dX2_begin_0 : decode cX2_begin 0 = .ok (.aload_n 0, 1) := by decide +kernel
theorem dX2_begin_1 : decode cX2_begin 1 = .ok (.getfield 31, 3) := by decide +kernel
theorem dX2_begin_4 : decode cX2_begin 4 = .ok (.invokevirtual 65, 3) := by decide +kernel
theorem dX2_begin_7 : decode cX2_begin 7 = .ok (.aload_n 0, 1) := by decide +kernel
theorem dX2_begin_8 : decode cX2_begin 8 = .ok (.getfield 27, 3) := by decide +kernel
theorem dX2_begin_11 : decode cX2_begin 11 = .ok (.getfield 68, 3) := by decide +kernel
theorem dX2_begin_14 : decode cX2_begin 14 = .ok (.iconst 0, 1) := by decide +kernel
theorem dX2_begin_15 : decode cX2_begin 15 = .ok (.aload_n 0, 1) := by decide +kernel
theorem dX2_begin_16 : decode cX2_begin 16 = .ok (.getfield 9, 3) := by decide +kernel
theorem dX2_begin_19 : decode cX2_begin 19 = .ok (.iconst 0, 1) := by decide +kernel
theorem dX2_begin_20 : decode cX2_begin 20 = .ok (.bipush 7, 2) := by decide +kernel
theorem dX2_begin_22 : decode cX2_begin 22 = .ok (.invokestatic 71, 3) := by decide +kernel
theorem dX2_begin_25 : decode cX2_begin 25 = .ok (.aload_n 0, 1) := by decide +kernel
theorem dX2_begin_26 : decode cX2_begin 26 = .ok (.getfield 15, 3) := by decide +kernel
theorem dX2_begin_29 : decode cX2_begin 29 = .ok (.bipush (-6), 2) := by decide +kernel
theorem dX2_begin_31 : decode cX2_begin 31 = .ok (.invokestatic 77, 3) := by decide +kernel
theorem dX2_begin_34 : decode cX2_begin 34 = .ok (.aload_n 0, 1) := by decide +kernel
theorem dX2_begin_35 : decode cX2_begin 35 = .ok (.getfield 18, 3) := by decide +kernel
theorem dX2_begin_38 : decode cX2_begin 38 = .ok (.bipush (-6), 2) := by decide +kernel
theorem dX2_begin_40 : decode cX2_begin 40 = .ok (.invokestatic 77, 3) := by decide +kernel
theorem dX2_begin_43 : decode cX2_begin 43 = .ok (.aload_n 0, 1) := by decide +kernel
theorem dX2_begin_44 : decode cX2_begin 44 = .ok (.bipush (-6), 2) := by decide +kernel
theorem dX2_begin_46 : decode cX2_begin 46 = .ok (.putfield 62, 3) := by decide +kernel
theorem dX2_begin_49 : decode cX2_begin 49 = .ok (.aload_n 0, 1) := by decide +kernel
theorem dX2_begin_50 : decode cX2_begin 50 = .ok (.bipush (-6), 2) := by decide +kernel
theorem dX2_begin_52 : decode cX2_begin 52 = .ok (.putfield 82, 3) := by decide +kernel
theorem dX2_begin_55 : decode cX2_begin 55 = .ok (.aload_n 0, 1) := by decide +kernel
theorem dX2_begin_56 : decode cX2_begin 56 = .ok (.iconst 0, 1) := by decide +kernel
theorem dX2_begin_57 : decode cX2_begin 57 = .ok (.putfield 85, 3) := by decide +kernel
theorem dX2_begin_60 : decode cX2_begin 60 = .ok (.aload_n 0, 1) := by decide +kernel
theorem dX2_begin_61 : decode cX2_begin 61 = .ok (.iconst 0, 1) := by decide +kernel
theorem dX2_begin_62 : decode cX2_begin 62 = .ok (.putfield 88, 3) := by decide +kernel
theorem dX2_begin_65 : decode cX2_begin 65 = .ok (.return_, 1) := by decide +kernel
theorem dX2_comes_0 : decode cX2_comes 0 = .ok (.aload_n 0, 1) := by decide +kernel
theorem dX2_comes_1 : decode cX2_comes 1 = .ok (.getfield 27, 3) := by decide +kernel
theorem dX2_comes_4 : decode cX2_comes 4 = .ok (.iload_n 1, 1) := by decide +kernel
theorem dX2_comes_5 : decode cX2_comes 5 = .ok (.invokevirtual 91, 3) := by decide +kernel
theorem dX2_comes_8 : decode cX2_comes 8 = .ok (.ifCond .ne 10, 3) := by decide +kernel
theorem dX2_comes_11 : decode cX2_comes 11 = .ok (.aload_n 0, 1) := by decide +kernel
theorem dX2_comes_12 : decode cX2_comes 12 = .ok (.iload_n 2, 1) := by decide +kernel
theorem dX2_comes_13 : decode cX2_comes 13 = .ok (.iconst 1, 1) := by decide +kernel
theorem dX2_comes_14 : decode cX2_comes 14 = .ok (.invokevirtual 94, 3) := by decide +kernel
theorem dX2_comes_17 : decode cX2_comes 17 = .ok (.return_, 1) := by decide +kernel
theorem dX2_comes_18 : decode cX2_comes 18 = .ok (.aload_n 0, 1) := by decide +kernel
theorem dX2_comes_19 : decode cX2_comes 19 = .ok (.getfield 31, 3) := by decide +kernel
theorem dX2_comes_22 : decode cX2_comes 22 = .ok (.iload_n 1, 1) := by decide +kernel
theorem dX2_comes_23 : decode cX2_comes 23 = .ok (.invokevirtual 97, 3) := by decide +kernel
theorem dX2_comes_26 : decode cX2_comes 26 = .ok (.istore_n 3, 1) := by decide +kernel
theorem dX2_comes_27 : decode cX2_comes 27 = .ok (.iload_n 3, 1) := by decide +kernel
theorem dX2_comes_28 : decode cX2_comes 28 = .ok (.bipush (-6), 2) := by decide +kernel
theorem dX2_comes_30 : decode cX2_comes 30 = .ok (.if_icmp .ne 10, 3) := by decide +kernel
theorem dX2_comes_33 : decode cX2_comes 33 = .ok (.aload_n 0, 1) := by decide +kernel
theorem dX2_comes_34 : decode cX2_comes 34 = .ok (.iload_n 2, 1) := by decide +kernel
theorem dX2_comes_35 : decode cX2_comes 35 = .ok (.iconst 2, 1) := by decide +kernel
theorem dX2_comes_36 : decode cX2_comes 36 = .ok (.invokevirtual 94, 3) := by decide +kernel
theorem dX2_comes_39 : decode cX2_comes 39 = .ok (.return_, 1) := by decide +kernel
theorem dX2_comes_40 : decode cX2_comes 40 = .ok (.aload_n 0, 1) := by decide +kernel
theorem dX2_comes_41 : decode cX2_comes 41 = .ok (.dup, 1) := by decide +kernel
theorem dX2_comes_42 : decode cX2_comes 42 = .ok (.getfield 85, 3) := by decide +kernel
theorem dX2_comes_45 : decode cX2_comes 45 = .ok (.iconst 1, 1) := by decide +kernel
theorem dX2_comes_46 : decode cX2_comes 46 = .ok (.iadd, 1) := by decide +kernel
theorem dX2_comes_47 : decode cX2_comes 47 = .ok (.putfield 85, 3) := by decide +kernel
theorem dX2_comes_50 : decode cX2_comes 50 = .ok (.aload_n 0, 1) := by decide +kernel
theorem dX2_comes_51 : decode cX2_comes 51 = .ok (.dup, 1) := by decide +kernel
theorem dX2_comes_52 : decode cX2_comes 52 = .ok (.getfield 88, 3) := by decide +kernel
theorem dX2_comes_55 : decode cX2_comes 55 = .ok (.aload_n 0, 1) := by decide +kernel
theorem dX2_comes_56 : decode cX2_comes 56 = .ok (.getfield 31, 3) := by decide +kernel
theorem dX2_comes_59 : decode cX2_comes 59 = .ok (.iload_n 1, 1) := by decide +kernel
theorem dX2_comes_60 : decode cX2_comes 60 = .ok (.iload_n 3, 1) := by decide +kernel
theorem dX2_comes_61 : decode cX2_comes 61 = .ok (.invokevirtual 101, 3) := by decide +kernel
theorem dX2_comes_64 : decode cX2_comes 64 = .ok (.iadd, 1) := by decide +kernel
theorem dX2_comes_65 : decode cX2_comes 65 = .ok (.putfield 88, 3) := by decide +kernel
theorem dX2_comes_68 : decode cX2_comes 68 = .ok (.aload_n 0, 1) := by decide +kernel
theorem dX2_comes_69 : decode cX2_comes 69 = .ok (.getfield 24, 3) := by decide +kernel
theorem dX2_comes_72 : decode cX2_comes 72 = .ok (.iload_n 2, 1) := by decide +kernel
theorem dX2_comes_73 : decode cX2_comes 73 = .ok (.iload_n 3, 1) := by decide +kernel
theorem dX2_comes_74 : decode cX2_comes 74 = .ok (.iastore, 1) := by decide +kernel
theorem dX2_comes_75 : decode cX2_comes 75 = .ok (.aload_n 0, 1) := by decide +kernel
theorem dX2_comes_76 : decode cX2_comes 76 = .ok (.getfield 9, 3) := by decide +kernel
theorem dX2_comes_79 : decode cX2_comes 79 = .ok (.iload_n 3, 1) := by decide +kernel
theorem dX2_comes_80 : decode cX2_comes 80 = .ok (.bipush 9, 2) := by decide +kernel
theorem dX2_comes_82 : decode cX2_comes 82 = .ok (.iastore, 1) := by decide +kernel
theorem dX2_comes_83 : decode cX2_comes 83 = .ok (.aload_n 0, 1) := by decide +kernel
theorem dX2_comes_84 : decode cX2_comes 84 = .ok (.getfield 15, 3) := by decide +kernel
theorem dX2_comes_87 : decode cX2_comes 87 = .ok (.iload_n 3, 1) := by decide +kernel
theorem dX2_comes_88 : decode cX2_comes 88 = .ok (.iaload, 1) := by decide +kernel
theorem dX2_comes_89 : decode cX2_comes 89 = .ok (.bipush (-6), 2) := by decide +kernel
theorem dX2_comes_91 : decode cX2_comes 91 = .ok (.if_icmp .ne 10, 3) := by decide +kernel
theorem dX2_comes_94 : decode cX2_comes 94 = .ok (.aload_n 0, 1) := by decide +kernel
theorem dX2_comes_95 : decode cX2_comes 95 = .ok (.getfield 15, 3) := by decide +kernel
theorem dX2_comes_98 : decode cX2_comes 98 = .ok (.iload_n 3, 1) := by decide +kernel
theorem dX2_comes_99 : decode cX2_comes 99 = .ok (.iload_n 1, 1) := by decide +kernel
theorem dX2_comes_100 : decode cX2_comes 100 = .ok (.iastore, 1) := by decide +kernel
theorem dX2_comes_101 : decode cX2_comes 101 = .ok (.aload_n 0, 1) := by decide +kernel
theorem dX2_comes_102 : decode cX2_comes 102 = .ok (.getfield 18, 3) := by decide +kernel
theorem dX2_comes_105 : decode cX2_comes 105 = .ok (.iload_n 3, 1) := by decide +kernel
theorem dX2_comes_106 : decode cX2_comes 106 = .ok (.iload_n 1, 1) := by decide +kernel
theorem dX2_comes_107 : decode cX2_comes 107 = .ok (.iastore, 1) := by decide +kernel
theorem dX2_comes_108 : decode cX2_comes 108 = .ok (.return_, 1) := by decide +kernel
theorem dX2_fail_0 : decode cX2_fail 0 = .ok (.aload_n 0, 1) := by decide +kernel
theorem dX2_fail_1 : decode cX2_fail 1 = .ok (.iload_n 1, 1) := by decide +kernel
theorem dX2_fail_2 : decode cX2_fail 2 = .ok (.putfield 62, 3) := by decide +kernel
theorem dX2_fail_5 : decode cX2_fail 5 = .ok (.aload_n 0, 1) := by decide +kernel
theorem dX2_fail_6 : decode cX2_fail 6 = .ok (.iload_n 2, 1) := by decide +kernel
theorem dX2_fail_7 : decode cX2_fail 7 = .ok (.putfield 82, 3) := by decide +kernel
theorem dX2_fail_10 : decode cX2_fail 10 = .ok (.return_, 1) := by decide +kernel
theorem dX2_cool_0 : decode cX2_cool 0 = .ok (.iconst 0, 1) := by decide +kernel
theorem dX2_cool_1 : decode cX2_cool 1 = .ok (.istore_n 1, 1) := by decide +kernel
theorem dX2_cool_2 : decode cX2_cool 2 = .ok (.iload_n 1, 1) := by decide +kernel
theorem dX2_cool_3 : decode cX2_cool 3 = .ok (.bipush 7, 2) := by decide +kernel
theorem dX2_cool_5 : decode cX2_cool 5 = .ok (.if_icmp .ge 27, 3) := by decide +kernel
theorem dX2_cool_8 : decode cX2_cool 8 = .ok (.aload_n 0, 1) := by decide +kernel
theorem dX2_cool_9 : decode cX2_cool 9 = .ok (.getfield 9, 3) := by decide +kernel
theorem dX2_cool_12 : decode cX2_cool 12 = .ok (.iload_n 1, 1) := by decide +kernel
theorem dX2_cool_13 : decode cX2_cool 13 = .ok (.iconst 0, 1) := by decide +kernel
theorem dX2_cool_14 : decode cX2_cool 14 = .ok (.aload_n 0, 1) := by decide +kernel
theorem dX2_cool_15 : decode cX2_cool 15 = .ok (.getfield 9, 3) := by decide +kernel
theorem dX2_cool_18 : decode cX2_cool 18 = .ok (.iload_n 1, 1) := by decide +kernel
theorem dX2_cool_19 : decode cX2_cool 19 = .ok (.iaload, 1) := by decide +kernel
theorem dX2_cool_20 : decode cX2_cool 20 = .ok (.iconst 1, 1) := by decide +kernel
theorem dX2_cool_21 : decode cX2_cool 21 = .ok (.isub, 1) := by decide +kernel
theorem dX2_cool_22 : decode cX2_cool 22 = .ok (.invokestatic 105, 3) := by decide +kernel
theorem dX2_cool_25 : decode cX2_cool 25 = .ok (.iastore, 1) := by decide +kernel
theorem dX2_cool_26 : decode cX2_cool 26 = .ok (.iinc 1 1, 3) := by decide +kernel
theorem dX2_cool_29 : decode cX2_cool 29 = .ok (.goto (-27), 3) := by decide +kernel
theorem dX2_cool_32 : decode cX2_cool 32 = .ok (.return_, 1) := by decide +kernel
theorem dX2_fill_0 : decode cX2_fill 0 = .ok (.aload_n 0, 1) := by decide +kernel
theorem dX2_fill_1 : decode cX2_fill 1 = .ok (.getfield 27, 3) := by decide +kernel
theorem dX2_fill_4 : decode cX2_fill 4 = .ok (.iload_n 1, 1) := by decide +kernel
theorem dX2_fill_5 : decode cX2_fill 5 = .ok (.invokevirtual 110, 3) := by decide +kernel
theorem dX2_fill_8 : decode cX2_fill 8 = .ok (.ifCond .eq 21, 3) := by decide +kernel
theorem dX2_fill_11 : decode cX2_fill 11 = .ok (.aload_n 0, 1) := by decide +kernel
theorem dX2_fill_12 : decode cX2_fill 12 = .ok (.getfield 31, 3) := by decide +kernel
theorem dX2_fill_15 : decode cX2_fill 15 = .ok (.getfield 113, 3) := by decide +kernel
theorem dX2_fill_18 : decode cX2_fill 18 = .ok (.iload_n 1, 1) := by decide +kernel
theorem dX2_fill_19 : decode cX2_fill 19 = .ok (.aload_n 0, 1) := by decide +kernel
theorem dX2_fill_20 : decode cX2_fill 20 = .ok (.getfield 27, 3) := by decide +kernel
theorem dX2_fill_23 : decode cX2_fill 23 = .ok (.getfield 116, 3) := by decide +kernel
theorem dX2_fill_26 : decode cX2_fill 26 = .ok (.iload_n 1, 1) := by decide +kernel
theorem dX2_fill_27 : decode cX2_fill 27 = .ok (.iaload, 1) := by decide +kernel
theorem dX2_fill_28 : decode cX2_fill 28 = .ok (.iastore, 1) := by decide +kernel
theorem dX2_fill_29 : decode cX2_fill 29 = .ok (.return_, 1) := by decide +kernel
theorem dX3_init_0 : decode cX3_init 0 = .ok (.aload_n 0, 1) := by decide +kernel
theorem dX3_init_1 : decode cX3_init 1 = .ok (.invokespecial 3, 3) := by decide +kernel
theorem dX3_init_4 : decode cX3_init 4 = .ok (.aload_n 0, 1) := by decide +kernel
theorem dX3_init_5 : decode cX3_init 5 = .ok (.sipush 2048, 3) := by decide +kernel
theorem dX3_init_8 : decode cX3_init 8 = .ok (.newarray .int, 2) := by decide +kernel
theorem dX3_init_10 : decode cX3_init 10 = .ok (.putfield 11, 3) := by decide +kernel
theorem dX3_init_13 : decode cX3_init 13 = .ok (.aload_n 0, 1) := by decide +kernel
theorem dX3_init_14 : decode cX3_init 14 = .ok (.aload_n 1, 1) := by decide +kernel
theorem dX3_init_15 : decode cX3_init 15 = .ok (.putfield 15, 3) := by decide +kernel
theorem dX3_init_18 : decode cX3_init 18 = .ok (.return_, 1) := by decide +kernel
theorem dX3_howMany_0 : decode cX3_howMany 0 = .ok (.aload_n 0, 1) := by decide +kernel
theorem dX3_howMany_1 : decode cX3_howMany 1 = .ok (.getfield 11, 3) := by decide +kernel
theorem dX3_howMany_4 : decode cX3_howMany 4 = .ok (.bipush (-6), 2) := by decide +kernel
theorem dX3_howMany_6 : decode cX3_howMany 6 = .ok (.invokestatic 19, 3) := by decide +kernel
theorem dX3_howMany_9 : decode cX3_howMany 9 = .ok (.aload_n 0, 1) := by decide +kernel
theorem dX3_howMany_10 : decode cX3_howMany 10 = .ok (.iconst 0, 1) := by decide +kernel
theorem dX3_howMany_11 : decode cX3_howMany 11 = .ok (.putfield 25, 3) := by decide +kernel
theorem dX3_howMany_14 : decode cX3_howMany 14 = .ok (.aload_n 0, 1) := by decide +kernel
theorem dX3_howMany_15 : decode cX3_howMany 15 = .ok (.iload_n 1, 1) := by decide +kernel
theorem dX3_howMany_16 : decode cX3_howMany 16 = .ok (.iconst 5, 1) := by decide +kernel
theorem dX3_howMany_17 : decode cX3_howMany 17 = .ok (.invokestatic 29, 3) := by decide +kernel
theorem dX3_howMany_20 : decode cX3_howMany 20 = .ok (.invokevirtual 35, 3) := by decide +kernel
theorem dX3_howMany_23 : decode cX3_howMany 23 = .ok (.aload_n 0, 1) := by decide +kernel
theorem dX3_howMany_24 : decode cX3_howMany 24 = .ok (.getfield 25, 3) := by decide +kernel
theorem dX3_howMany_27 : decode cX3_howMany 27 = .ok (.ireturn, 1) := by decide +kernel
theorem dX3_walk_0 : decode cX3_walk 0 = .ok (.iload_n 1, 1) := by decide +kernel
theorem dX3_walk_1 : decode cX3_walk 1 = .ok (.ifCond .gt 15, 3) := by decide +kernel
theorem dX3_walk_4 : decode cX3_walk 4 = .ok (.aload_n 0, 1) := by decide +kernel
theorem dX3_walk_5 : decode cX3_walk 5 = .ok (.aload_n 0, 1) := by decide +kernel
theorem dX3_walk_6 : decode cX3_walk 6 = .ok (.getfield 15, 3) := by decide +kernel
theorem dX3_walk_9 : decode cX3_walk 9 = .ok (.invokevirtual 39, 3) := by decide +kernel
theorem dX3_walk_12 : decode cX3_walk 12 = .ok (.invokevirtual 45, 3) := by decide +kernel
theorem dX3_walk_15 : decode cX3_walk 15 = .ok (.return_, 1) := by decide +kernel
theorem dX3_walk_16 : decode cX3_walk 16 = .ok (.iconst 0, 1) := by decide +kernel
theorem dX3_walk_17 : decode cX3_walk 17 = .ok (.istore_n 2, 1) := by decide +kernel
theorem dX3_walk_18 : decode cX3_walk 18 = .ok (.iload_n 2, 1) := by decide +kernel
theorem dX3_walk_19 : decode cX3_walk 19 = .ok (.iconst 4, 1) := by decide +kernel
theorem dX3_walk_20 : decode cX3_walk 20 = .ok (.if_icmp .ge 63, 3) := by decide +kernel
theorem dX3_walk_23 : decode cX3_walk 23 = .ok (.aload_n 0, 1) := by decide +kernel
theorem dX3_walk_24 : decode cX3_walk 24 = .ok (.getfield 15, 3) := by decide +kernel
theorem dX3_walk_27 : decode cX3_walk 27 = .ok (.getfield 48, 3) := by decide +kernel
theorem dX3_walk_30 : decode cX3_walk 30 = .ok (.istore_n 3, 1) := by decide +kernel
theorem dX3_walk_31 : decode cX3_walk 31 = .ok (.aload_n 0, 1) := by decide +kernel
theorem dX3_walk_32 : decode cX3_walk 32 = .ok (.getfield 15, 3) := by decide +kernel
theorem dX3_walk_35 : decode cX3_walk 35 = .ok (.iload_n 2, 1) := by decide +kernel
theorem dX3_walk_36 : decode cX3_walk 36 = .ok (.invokevirtual 51, 3) := by decide +kernel
theorem dX3_walk_39 : decode cX3_walk 39 = .ok (.istore 4, 2) := by decide +kernel
theorem dX3_walk_41 : decode cX3_walk 41 = .ok (.iload 4, 2) := by decide +kernel
theorem dX3_walk_43 : decode cX3_walk 43 = .ok (.ifCond .ne 6, 3) := by decide +kernel
theorem dX3_walk_46 : decode cX3_walk 46 = .ok (.goto 31, 3) := by decide +kernel
theorem dX3_walk_49 : decode cX3_walk 49 = .ok (.aload_n 0, 1) := by decide +kernel
theorem dX3_walk_50 : decode cX3_walk 50 = .ok (.getfield 15, 3) := by decide +kernel
theorem dX3_walk_53 : decode cX3_walk 53 = .ok (.getfield 48, 3) := by decide +kernel
theorem dX3_walk_56 : decode cX3_walk 56 = .ok (.istore 5, 2) := by decide +kernel
theorem dX3_walk_58 : decode cX3_walk 58 = .ok (.aload_n 0, 1) := by decide +kernel
theorem dX3_walk_59 : decode cX3_walk 59 = .ok (.iload_n 1, 1) := by decide +kernel
theorem dX3_walk_60 : decode cX3_walk 60 = .ok (.iconst 1, 1) := by decide +kernel
theorem dX3_walk_61 : decode cX3_walk 61 = .ok (.isub, 1) := by decide +kernel
theorem dX3_walk_62 : decode cX3_walk 62 = .ok (.invokevirtual 35, 3) := by decide +kernel
theorem dX3_walk_65 : decode cX3_walk 65 = .ok (.aload_n 0, 1) := by decide +kernel
theorem dX3_walk_66 : decode cX3_walk 66 = .ok (.getfield 15, 3) := by decide +kernel
theorem dX3_walk_69 : decode cX3_walk 69 = .ok (.iload 5, 2) := by decide +kernel
theorem dX3_walk_71 : decode cX3_walk 71 = .ok (.iload 4, 2) := by decide +kernel
theorem dX3_walk_73 : decode cX3_walk 73 = .ok (.iload_n 3, 1) := by decide +kernel
theorem dX3_walk_74 : decode cX3_walk 74 = .ok (.invokevirtual 55, 3) := by decide +kernel
theorem dX3_walk_77 : decode cX3_walk 77 = .ok (.iinc 2 1, 3) := by decide +kernel
theorem dX3_walk_80 : decode cX3_walk 80 = .ok (.goto (-62), 3) := by decide +kernel
theorem dX3_walk_83 : decode cX3_walk 83 = .ok (.return_, 1) := by decide +kernel
theorem dX3_put_0 : decode cX3_put 0 = .ok (.iload_n 1, 1) := by decide +kernel
theorem dX3_put_1 : decode cX3_put 1 = .ok (.ldc 59, 2) := by decide +kernel
theorem dX3_put_3 : decode cX3_put 3 = .ok (.imul, 1) := by decide +kernel
theorem dX3_put_4 : decode cX3_put 4 = .ok (.bipush 21, 2) := by decide +kernel
theorem dX3_put_6 : decode cX3_put 6 = .ok (.iushr, 1) := by decide +kernel
theorem dX3_put_7 : decode cX3_put 7 = .ok (.istore_n 2, 1) := by decide +kernel
theorem dX3_put_8 : decode cX3_put 8 = .ok (.iconst 0, 1) := by decide +kernel
theorem dX3_put_9 : decode cX3_put 9 = .ok (.istore_n 3, 1) := by decide +kernel
theorem dX3_put_10 : decode cX3_put 10 = .ok (.iload_n 3, 1) := by decide +kernel
theorem dX3_put_11 : decode cX3_put 11 = .ok (.sipush 2048, 3) := by decide +kernel
theorem dX3_put_14 : decode cX3_put 14 = .ok (.if_icmp .ge 57, 3) := by decide +kernel
theorem dX3_put_17 : decode cX3_put 17 = .ok (.aload_n 0, 1) := by decide +kernel
theorem dX3_put_18 : decode cX3_put 18 = .ok (.getfield 11, 3) := by decide +kernel
theorem dX3_put_21 : decode cX3_put 21 = .ok (.iload_n 2, 1) := by decide +kernel
theorem dX3_put_22 : decode cX3_put 22 = .ok (.iaload, 1) := by decide +kernel
theorem dX3_put_23 : decode cX3_put 23 = .ok (.iload_n 1, 1) := by decide +kernel
theorem dX3_put_24 : decode cX3_put 24 = .ok (.if_icmp .ne 4, 3) := by decide +kernel
theorem dX3_put_27 : decode cX3_put 27 = .ok (.return_, 1) := by decide +kernel
theorem dX3_put_28 : decode cX3_put 28 = .ok (.aload_n 0, 1) := by decide +kernel
theorem dX3_put_29 : decode cX3_put 29 = .ok (.getfield 11, 3) := by decide +kernel
theorem dX3_put_32 : decode cX3_put 32 = .ok (.iload_n 2, 1) := by decide +kernel
theorem dX3_put_33 : decode cX3_put 33 = .ok (.iaload, 1) := by decide +kernel
theorem dX3_put_34 : decode cX3_put 34 = .ok (.bipush (-6), 2) := by decide +kernel
theorem dX3_put_36 : decode cX3_put 36 = .ok (.if_icmp .ne 21, 3) := by decide +kernel
theorem dX3_put_39 : decode cX3_put 39 = .ok (.aload_n 0, 1) := by decide +kernel
theorem dX3_put_40 : decode cX3_put 40 = .ok (.getfield 11, 3) := by decide +kernel
theorem dX3_put_43 : decode cX3_put 43 = .ok (.iload_n 2, 1) := by decide +kernel
theorem dX3_put_44 : decode cX3_put 44 = .ok (.iload_n 1, 1) := by decide +kernel
theorem dX3_put_45 : decode cX3_put 45 = .ok (.iastore, 1) := by decide +kernel
theorem dX3_put_46 : decode cX3_put 46 = .ok (.aload_n 0, 1) := by decide +kernel
theorem dX3_put_47 : decode cX3_put 47 = .ok (.dup, 1) := by decide +kernel
theorem dX3_put_48 : decode cX3_put 48 = .ok (.getfield 25, 3) := by decide +kernel
theorem dX3_put_51 : decode cX3_put 51 = .ok (.iconst 1, 1) := by decide +kernel
theorem dX3_put_52 : decode cX3_put 52 = .ok (.iadd, 1) := by decide +kernel
theorem dX3_put_53 : decode cX3_put 53 = .ok (.putfield 25, 3) := by decide +kernel
theorem dX3_put_56 : decode cX3_put 56 = .ok (.return_, 1) := by decide +kernel
theorem dX3_put_57 : decode cX3_put 57 = .ok (.iload_n 2, 1) := by decide +kernel
theorem dX3_put_58 : decode cX3_put 58 = .ok (.iconst 1, 1) := by decide +kernel
theorem dX3_put_59 : decode cX3_put 59 = .ok (.iadd, 1) := by decide +kernel
theorem dX3_put_60 : decode cX3_put 60 = .ok (.sipush 2047, 3) := by decide +kernel
theorem dX3_put_63 : decode cX3_put 63 = .ok (.iand, 1) := by decide +kernel
theorem dX3_put_64 : decode cX3_put 64 = .ok (.istore_n 2, 1) := by decide +kernel
theorem dX3_put_65 : decode cX3_put 65 = .ok (.iinc 3 1, 3) := by decide +kernel
theorem dX3_put_68 : decode cX3_put 68 = .ok (.goto (-58), 3) := by decide +kernel
theorem dX3_put_71 : decode cX3_put 71 = .ok (.return_, 1) := by decide +kernel
theorem dX4_init_0 : decode cX4_init 0 = .ok (.aload_n 0, 1) := by decide +kernel
theorem dX4_init_1 : decode cX4_init 1 = .ok (.invokespecial 3, 3) := by decide +kernel
theorem dX4_init_4 : decode cX4_init 4 = .ok (.aload_n 0, 1) := by decide +kernel
theorem dX4_init_5 : decode cX4_init 5 = .ok (.bipush 40, 2) := by decide +kernel
theorem dX4_init_7 : decode cX4_init 7 = .ok (.newarray .int, 2) := by decide +kernel
theorem dX4_init_9 : decode cX4_init 9 = .ok (.putfield 9, 3) := by decide +kernel
theorem dX4_init_12 : decode cX4_init 12 = .ok (.return_, 1) := by decide +kernel
theorem dX4_add_0 : decode cX4_add 0 = .ok (.aload_n 0, 1) := by decide +kernel
theorem dX4_add_1 : decode cX4_add 1 = .ok (.getfield 15, 3) := by decide +kernel
theorem dX4_add_4 : decode cX4_add 4 = .ok (.bipush 40, 2) := by decide +kernel
theorem dX4_add_6 : decode cX4_add 6 = .ok (.if_icmp .lt 6, 3) := by decide +kernel
theorem dX4_add_9 : decode cX4_add 9 = .ok (.bipush (-4), 2) := by decide +kernel
theorem dX4_add_11 : decode cX4_add 11 = .ok (.ireturn, 1) := by decide +kernel
theorem dX4_add_12 : decode cX4_add 12 = .ok (.aload_n 0, 1) := by decide +kernel
theorem dX4_add_13 : decode cX4_add 13 = .ok (.getfield 9, 3) := by decide +kernel
theorem dX4_add_16 : decode cX4_add 16 = .ok (.aload_n 0, 1) := by decide +kernel
theorem dX4_add_17 : decode cX4_add 17 = .ok (.getfield 15, 3) := by decide +kernel
theorem dX4_add_20 : decode cX4_add 20 = .ok (.iload_n 1, 1) := by decide +kernel
theorem dX4_add_21 : decode cX4_add 21 = .ok (.iastore, 1) := by decide +kernel
theorem dX4_add_22 : decode cX4_add 22 = .ok (.aload_n 0, 1) := by decide +kernel
theorem dX4_add_23 : decode cX4_add 23 = .ok (.dup, 1) := by decide +kernel
theorem dX4_add_24 : decode cX4_add 24 = .ok (.getfield 15, 3) := by decide +kernel
theorem dX4_add_27 : decode cX4_add 27 = .ok (.iconst 1, 1) := by decide +kernel
theorem dX4_add_28 : decode cX4_add 28 = .ok (.iadd, 1) := by decide +kernel
theorem dX4_add_29 : decode cX4_add 29 = .ok (.putfield 15, 3) := by decide +kernel
theorem dX4_add_32 : decode cX4_add 32 = .ok (.aload_n 0, 1) := by decide +kernel
theorem dX4_add_33 : decode cX4_add 33 = .ok (.getfield 15, 3) := by decide +kernel
theorem dX4_add_36 : decode cX4_add 36 = .ok (.ireturn, 1) := by decide +kernel
theorem dX4_firstFault_0 : decode cX4_firstFault 0 = .ok (.iconst 0, 1) := by decide +kernel
theorem dX4_firstFault_1 : decode cX4_firstFault 1 = .ok (.istore_n 2, 1) := by decide +kernel
theorem dX4_firstFault_2 : decode cX4_firstFault 2 = .ok (.iload_n 2, 1) := by decide +kernel
theorem dX4_firstFault_3 : decode cX4_firstFault 3 = .ok (.aload_n 0, 1) := by decide +kernel
theorem dX4_firstFault_4 : decode cX4_firstFault 4 = .ok (.getfield 15, 3) := by decide +kernel
theorem dX4_firstFault_7 : decode cX4_firstFault 7 = .ok (.if_icmp .ge 24, 3) := by decide +kernel
theorem dX4_firstFault_10 : decode cX4_firstFault 10 = .ok (.aload_n 0, 1) := by decide +kernel
theorem dX4_firstFault_11 : decode cX4_firstFault 11 = .ok (.getfield 9, 3) := by decide +kernel
theorem dX4_firstFault_14 : decode cX4_firstFault 14 = .ok (.iload_n 2, 1) := by decide +kernel
theorem dX4_firstFault_15 : decode cX4_firstFault 15 = .ok (.iaload, 1) := by decide +kernel
theorem dX4_firstFault_16 : decode cX4_firstFault 16 = .ok (.iload_n 1, 1) := by decide +kernel
theorem dX4_firstFault_17 : decode cX4_firstFault 17 = .ok (.invokestatic 19, 3) := by decide +kernel
theorem dX4_firstFault_20 : decode cX4_firstFault 20 = .ok (.ifCond .ne 5, 3) := by decide +kernel
theorem dX4_firstFault_23 : decode cX4_firstFault 23 = .ok (.iload_n 2, 1) := by decide +kernel
theorem dX4_firstFault_24 : decode cX4_firstFault 24 = .ok (.ireturn, 1) := by decide +kernel
theorem dX4_firstFault_25 : decode cX4_firstFault 25 = .ok (.iinc 2 1, 3) := by decide +kernel
theorem dX4_firstFault_28 : decode cX4_firstFault 28 = .ok (.goto (-26), 3) := by decide +kernel
theorem dX4_firstFault_31 : decode cX4_firstFault 31 = .ok (.bipush (-6), 2) := by decide +kernel
theorem dX4_firstFault_33 : decode cX4_firstFault 33 = .ok (.ireturn, 1) := by decide +kernel
theorem dX4_canStand_0 : decode cX4_canStand 0 = .ok (.iload_n 0, 1) := by decide +kernel
theorem dX4_canStand_1 : decode cX4_canStand 1 = .ok (.bipush 46, 2) := by decide +kernel
theorem dX4_canStand_3 : decode cX4_canStand 3 = .ok (.if_icmp .eq 24, 3) := by decide +kernel
theorem dX4_canStand_6 : decode cX4_canStand 6 = .ok (.iload_n 0, 1) := by decide +kernel
theorem dX4_canStand_7 : decode cX4_canStand 7 = .ok (.invokestatic 23, 3) := by decide +kernel
theorem dX4_canStand_10 : decode cX4_canStand 10 = .ok (.ifCond .ne 17, 3) := by decide +kernel
theorem dX4_canStand_13 : decode cX4_canStand 13 = .ok (.iload_n 0, 1) := by decide +kernel
theorem dX4_canStand_14 : decode cX4_canStand 14 = .ok (.bipush 48, 2) := by decide +kernel
theorem dX4_canStand_16 : decode cX4_canStand 16 = .ok (.if_icmp .lt 15, 3) := by decide +kernel
theorem dX4_canStand_19 : decode cX4_canStand 19 = .ok (.iload_n 0, 1) := by decide +kernel
theorem dX4_canStand_20 : decode cX4_canStand 20 = .ok (.bipush 48, 2) := by decide +kernel
theorem dX4_canStand_22 : decode cX4_canStand 22 = .ok (.iload_n 1, 1) := by decide +kernel
theorem dX4_canStand_23 : decode cX4_canStand 23 = .ok (.iadd, 1) := by decide +kernel
theorem dX4_canStand_24 : decode cX4_canStand 24 = .ok (.if_icmp .ge 7, 3) := by decide +kernel
theorem dX4_canStand_27 : decode cX4_canStand 27 = .ok (.iconst 1, 1) := by decide +kernel
theorem dX4_canStand_28 : decode cX4_canStand 28 = .ok (.goto 4, 3) := by decide +kernel
theorem dX4_canStand_31 : decode cX4_canStand 31 = .ok (.iconst 0, 1) := by decide +kernel
theorem dX4_canStand_32 : decode cX4_canStand 32 = .ok (.ireturn, 1) := by decide +kernel
theorem dX4_isGuest_0 : decode cX4_isGuest 0 = .ok (.iload_n 0, 1) := by decide +kernel
theorem dX4_isGuest_1 : decode cX4_isGuest 1 = .ok (.bipush 65, 2) := by decide +kernel
theorem dX4_isGuest_3 : decode cX4_isGuest 3 = .ok (.if_icmp .lt 13, 3) := by decide +kernel
theorem dX4_isGuest_6 : decode cX4_isGuest 6 = .ok (.iload_n 0, 1) := by decide +kernel
theorem dX4_isGuest_7 : decode cX4_isGuest 7 = .ok (.bipush 69, 2) := by decide +kernel
theorem dX4_isGuest_9 : decode cX4_isGuest 9 = .ok (.if_icmp .ge 7, 3) := by decide +kernel
theorem dX4_isGuest_12 : decode cX4_isGuest 12 = .ok (.iconst 1, 1) := by decide +kernel
theorem dX4_isGuest_13 : decode cX4_isGuest 13 = .ok (.goto 4, 3) := by decide +kernel
theorem dX4_isGuest_16 : decode cX4_isGuest 16 = .ok (.iconst 0, 1) := by decide +kernel
theorem dX4_isGuest_17 : decode cX4_isGuest 17 = .ok (.ireturn, 1) := by decide +kernel
theorem dJ6_bitCount_0f7a4_0 : decode cJ6_bitCount_0f7a4 0 = .ok (.iload_n 0, 1) := by decide +kernel
theorem dJ6_bitCount_0f7a4_1 : decode cJ6_bitCount_0f7a4 1 = .ok (.iload_n 0, 1) := by decide +kernel
theorem dJ6_bitCount_0f7a4_2 : decode cJ6_bitCount_0f7a4 2 = .ok (.iconst 1, 1) := by decide +kernel
theorem dJ6_bitCount_0f7a4_3 : decode cJ6_bitCount_0f7a4 3 = .ok (.iushr, 1) := by decide +kernel
theorem dJ6_bitCount_0f7a4_4 : decode cJ6_bitCount_0f7a4 4 = .ok (.ldc_w 265, 3) := by decide +kernel
theorem dJ6_bitCount_0f7a4_7 : decode cJ6_bitCount_0f7a4 7 = .ok (.iand, 1) := by decide +kernel
theorem dJ6_bitCount_0f7a4_8 : decode cJ6_bitCount_0f7a4 8 = .ok (.isub, 1) := by decide +kernel
theorem dJ6_bitCount_0f7a4_9 : decode cJ6_bitCount_0f7a4 9 = .ok (.istore_n 0, 1) := by decide +kernel
theorem dJ6_bitCount_0f7a4_10 : decode cJ6_bitCount_0f7a4 10 = .ok (.iload_n 0, 1) := by decide +kernel
theorem dJ6_bitCount_0f7a4_11 : decode cJ6_bitCount_0f7a4 11 = .ok (.ldc_w 266, 3) := by decide +kernel
theorem dJ6_bitCount_0f7a4_14 : decode cJ6_bitCount_0f7a4 14 = .ok (.iand, 1) := by decide +kernel
theorem dJ6_bitCount_0f7a4_15 : decode cJ6_bitCount_0f7a4 15 = .ok (.iload_n 0, 1) := by decide +kernel
theorem dJ6_bitCount_0f7a4_16 : decode cJ6_bitCount_0f7a4 16 = .ok (.iconst 2, 1) := by decide +kernel
theorem dJ6_bitCount_0f7a4_17 : decode cJ6_bitCount_0f7a4 17 = .ok (.iushr, 1) := by decide +kernel
theorem dJ6_bitCount_0f7a4_18 : decode cJ6_bitCount_0f7a4 18 = .ok (.ldc_w 266, 3) := by decide +kernel
theorem dJ6_bitCount_0f7a4_21 : decode cJ6_bitCount_0f7a4 21 = .ok (.iand, 1) := by decide +kernel
theorem dJ6_bitCount_0f7a4_22 : decode cJ6_bitCount_0f7a4 22 = .ok (.iadd, 1) := by decide +kernel
theorem dJ6_bitCount_0f7a4_23 : decode cJ6_bitCount_0f7a4 23 = .ok (.istore_n 0, 1) := by decide +kernel
theorem dJ6_bitCount_0f7a4_24 : decode cJ6_bitCount_0f7a4 24 = .ok (.iload_n 0, 1) := by decide +kernel
theorem dJ6_bitCount_0f7a4_25 : decode cJ6_bitCount_0f7a4 25 = .ok (.iload_n 0, 1) := by decide +kernel
theorem dJ6_bitCount_0f7a4_26 : decode cJ6_bitCount_0f7a4 26 = .ok (.iconst 4, 1) := by decide +kernel
theorem dJ6_bitCount_0f7a4_27 : decode cJ6_bitCount_0f7a4 27 = .ok (.iushr, 1) := by decide +kernel
theorem dJ6_bitCount_0f7a4_28 : decode cJ6_bitCount_0f7a4 28 = .ok (.iadd, 1) := by decide +kernel
theorem dJ6_bitCount_0f7a4_29 : decode cJ6_bitCount_0f7a4 29 = .ok (.ldc_w 267, 3) := by decide +kernel
theorem dJ6_bitCount_0f7a4_32 : decode cJ6_bitCount_0f7a4 32 = .ok (.iand, 1) := by decide +kernel
theorem dJ6_bitCount_0f7a4_33 : decode cJ6_bitCount_0f7a4 33 = .ok (.istore_n 0, 1) := by decide +kernel
theorem dJ6_bitCount_0f7a4_34 : decode cJ6_bitCount_0f7a4 34 = .ok (.iload_n 0, 1) := by decide +kernel
theorem dJ6_bitCount_0f7a4_35 : decode cJ6_bitCount_0f7a4 35 = .ok (.iload_n 0, 1) := by decide +kernel
theorem dJ6_bitCount_0f7a4_36 : decode cJ6_bitCount_0f7a4 36 = .ok (.bipush 8, 2) := by decide +kernel
theorem dJ6_bitCount_0f7a4_38 : decode cJ6_bitCount_0f7a4 38 = .ok (.iushr, 1) := by decide +kernel
theorem dJ6_bitCount_0f7a4_39 : decode cJ6_bitCount_0f7a4 39 = .ok (.iadd, 1) := by decide +kernel
theorem dJ6_bitCount_0f7a4_40 : decode cJ6_bitCount_0f7a4 40 = .ok (.istore_n 0, 1) := by decide +kernel
theorem dJ6_bitCount_0f7a4_41 : decode cJ6_bitCount_0f7a4 41 = .ok (.iload_n 0, 1) := by decide +kernel
theorem dJ6_bitCount_0f7a4_42 : decode cJ6_bitCount_0f7a4 42 = .ok (.iload_n 0, 1) := by decide +kernel
theorem dJ6_bitCount_0f7a4_43 : decode cJ6_bitCount_0f7a4 43 = .ok (.bipush 16, 2) := by decide +kernel
theorem dJ6_bitCount_0f7a4_45 : decode cJ6_bitCount_0f7a4 45 = .ok (.iushr, 1) := by decide +kernel
theorem dJ6_bitCount_0f7a4_46 : decode cJ6_bitCount_0f7a4 46 = .ok (.iadd, 1) := by decide +kernel
theorem dJ6_bitCount_0f7a4_47 : decode cJ6_bitCount_0f7a4 47 = .ok (.istore_n 0, 1) := by decide +kernel
theorem dJ6_bitCount_0f7a4_48 : decode cJ6_bitCount_0f7a4 48 = .ok (.iload_n 0, 1) := by decide +kernel
theorem dJ6_bitCount_0f7a4_49 : decode cJ6_bitCount_0f7a4 49 = .ok (.bipush 63, 2) := by decide +kernel
theorem dJ6_bitCount_0f7a4_51 : decode cJ6_bitCount_0f7a4 51 = .ok (.iand, 1) := by decide +kernel
theorem dJ6_bitCount_0f7a4_52 : decode cJ6_bitCount_0f7a4 52 = .ok (.ireturn, 1) := by decide +kernel
theorem dJ7_fill_53178_0 : decode cJ7_fill_53178 0 = .ok (.iconst 0, 1) := by decide +kernel
theorem dJ7_fill_53178_1 : decode cJ7_fill_53178 1 = .ok (.istore_n 2, 1) := by decide +kernel
theorem dJ7_fill_53178_2 : decode cJ7_fill_53178 2 = .ok (.aload_n 0, 1) := by decide +kernel
theorem dJ7_fill_53178_3 : decode cJ7_fill_53178 3 = .ok (.arraylength, 1) := by decide +kernel
theorem dJ7_fill_53178_4 : decode cJ7_fill_53178 4 = .ok (.istore_n 3, 1) := by decide +kernel
theorem dJ7_fill_53178_5 : decode cJ7_fill_53178 5 = .ok (.iload_n 2, 1) := by decide +kernel
theorem dJ7_fill_53178_6 : decode cJ7_fill_53178 6 = .ok (.iload_n 3, 1) := by decide +kernel
theorem dJ7_fill_53178_7 : decode cJ7_fill_53178 7 = .ok (.if_icmp .ge 13, 3) := by decide +kernel
theorem dJ7_fill_53178_10 : decode cJ7_fill_53178 10 = .ok (.aload_n 0, 1) := by decide +kernel
theorem dJ7_fill_53178_11 : decode cJ7_fill_53178 11 = .ok (.iload_n 2, 1) := by decide +kernel
theorem dJ7_fill_53178_12 : decode cJ7_fill_53178 12 = .ok (.iload_n 1, 1) := by decide +kernel
theorem dJ7_fill_53178_13 : decode cJ7_fill_53178 13 = .ok (.iastore, 1) := by decide +kernel
theorem dJ7_fill_53178_14 : decode cJ7_fill_53178 14 = .ok (.iinc 2 1, 3) := by decide +kernel
theorem dJ7_fill_53178_17 : decode cJ7_fill_53178 17 = .ok (.goto (-12), 3) := by decide +kernel
theorem dJ7_fill_53178_20 : decode cJ7_fill_53178 20 = .ok (.return_, 1) := by decide +kernel
