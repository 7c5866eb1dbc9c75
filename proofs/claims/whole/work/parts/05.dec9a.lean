theorem dX9_init_0 : decode cX9_init 0 = .ok (.aload_n 0, 1) := by decide +kernel
theorem dX9_init_1 : decode cX9_init 1 = .ok (.invokespecial 1, 3) := by decide +kernel
theorem dX9_init_4 : decode cX9_init 4 = .ok (.aload_n 0, 1) := by decide +kernel
theorem dX9_init_5 : decode cX9_init 5 = .ok (.bipush 28, 2) := by decide +kernel
theorem dX9_init_7 : decode cX9_init 7 = .ok (.newarray .int, 2) := by decide +kernel
theorem dX9_init_9 : decode cX9_init 9 = .ok (.putfield 7, 3) := by decide +kernel
theorem dX9_init_12 : decode cX9_init 12 = .ok (.aload_n 0, 1) := by decide +kernel
theorem dX9_init_13 : decode cX9_init 13 = .ok (.bipush 7, 2) := by decide +kernel
theorem dX9_init_15 : decode cX9_init 15 = .ok (.newarray .int, 2) := by decide +kernel
theorem dX9_init_17 : decode cX9_init 17 = .ok (.putfield 13, 3) := by decide +kernel
theorem dX9_init_20 : decode cX9_init 20 = .ok (.aload_n 0, 1) := by decide +kernel
theorem dX9_init_21 : decode cX9_init 21 = .ok (.bipush 7, 2) := by decide +kernel
theorem dX9_init_23 : decode cX9_init 23 = .ok (.newarray .int, 2) := by decide +kernel
theorem dX9_init_25 : decode cX9_init 25 = .ok (.putfield 16, 3) := by decide +kernel
theorem dX9_init_28 : decode cX9_init 28 = .ok (.aload_n 0, 1) := by decide +kernel
theorem dX9_init_29 : decode cX9_init 29 = .ok (.iconst 4, 1) := by decide +kernel
theorem dX9_init_30 : decode cX9_init 30 = .ok (.newarray .int, 2) := by decide +kernel
theorem dX9_init_32 : decode cX9_init 32 = .ok (.putfield 19, 3) := by decide +kernel
theorem dX9_init_35 : decode cX9_init 35 = .ok (.aload_n 0, 1) := by decide +kernel
theorem dX9_init_36 : decode cX9_init 36 = .ok (.iconst 4, 1) := by decide +kernel
theorem dX9_init_37 : decode cX9_init 37 = .ok (.newarray .int, 2) := by decide +kernel
theorem dX9_init_39 : decode cX9_init 39 = .ok (.putfield 22, 3) := by decide +kernel
theorem dX9_init_42 : decode cX9_init 42 = .ok (.aload_n 0, 1) := by decide +kernel
theorem dX9_init_43 : decode cX9_init 43 = .ok (.iconst 4, 1) := by decide +kernel
theorem dX9_init_44 : decode cX9_init 44 = .ok (.newarray .int, 2) := by decide +kernel
theorem dX9_init_46 : decode cX9_init 46 = .ok (.putfield 25, 3) := by decide +kernel
theorem dX9_init_49 : decode cX9_init 49 = .ok (.aload_n 0, 1) := by decide +kernel
theorem dX9_init_50 : decode cX9_init 50 = .ok (.iconst 4, 1) := by decide +kernel
theorem dX9_init_51 : decode cX9_init 51 = .ok (.newarray .int, 2) := by decide +kernel
theorem dX9_init_53 : decode cX9_init 53 = .ok (.putfield 28, 3) := by decide +kernel
theorem dX9_init_56 : decode cX9_init 56 = .ok (.aload_n 0, 1) := by decide +kernel
theorem dX9_init_57 : decode cX9_init 57 = .ok (.bipush 40, 2) := by decide +kernel
theorem dX9_init_59 : decode cX9_init 59 = .ok (.newarray .int, 2) := by decide +kernel
theorem dX9_init_61 : decode cX9_init 61 = .ok (.putfield 31, 3) := by decide +kernel
theorem dX9_init_64 : decode cX9_init 64 = .ok (.aload_n 0, 1) := by decide +kernel
theorem dX9_init_65 : decode cX9_init 65 = .ok (.bipush 7, 2) := by decide +kernel
theorem dX9_init_67 : decode cX9_init 67 = .ok (.newarray .int, 2) := by decide +kernel
theorem dX9_init_69 : decode cX9_init 69 = .ok (.putfield 34, 3) := by decide +kernel
theorem dX9_init_72 : decode cX9_init 72 = .ok (.aload_n 0, 1) := by decide +kernel
theorem dX9_init_73 : decode cX9_init 73 = .ok (.bipush 7, 2) := by decide +kernel
theorem dX9_init_75 : decode cX9_init 75 = .ok (.newarray .int, 2) := by decide +kernel
theorem dX9_init_77 : decode cX9_init 77 = .ok (.putfield 37, 3) := by decide +kernel
theorem dX9_init_80 : decode cX9_init 80 = .ok (.aload_n 0, 1) := by decide +kernel
theorem dX9_init_81 : decode cX9_init 81 = .ok (.bipush 40, 2) := by decide +kernel
theorem dX9_init_83 : decode cX9_init 83 = .ok (.newarray .int, 2) := by decide +kernel
theorem dX9_init_85 : decode cX9_init 85 = .ok (.putfield 40, 3) := by decide +kernel
theorem dX9_init_88 : decode cX9_init 88 = .ok (.aload_n 0, 1) := by decide +kernel
theorem dX9_init_89 : decode cX9_init 89 = .ok (.bipush 7, 2) := by decide +kernel
theorem dX9_init_91 : decode cX9_init 91 = .ok (.newarray .int, 2) := by decide +kernel
theorem dX9_init_93 : decode cX9_init 93 = .ok (.putfield 43, 3) := by decide +kernel
theorem dX9_init_96 : decode cX9_init 96 = .ok (.aload_n 0, 1) := by decide +kernel
theorem dX9_init_97 : decode cX9_init 97 = .ok (.bipush 7, 2) := by decide +kernel
theorem dX9_init_99 : decode cX9_init 99 = .ok (.newarray .int, 2) := by decide +kernel
theorem dX9_init_101 : decode cX9_init 101 = .ok (.putfield 46, 3) := by decide +kernel
theorem dX9_init_104 : decode cX9_init 104 = .ok (.aload_n 0, 1) := by decide +kernel
theorem dX9_init_105 : decode cX9_init 105 = .ok (.bipush 7, 2) := by decide +kernel
theorem dX9_init_107 : decode cX9_init 107 = .ok (.newarray .int, 2) := by decide +kernel
theorem dX9_init_109 : decode cX9_init 109 = .ok (.putfield 49, 3) := by decide +kernel
theorem dX9_init_112 : decode cX9_init 112 = .ok (.aload_n 0, 1) := by decide +kernel
theorem dX9_init_113 : decode cX9_init 113 = .ok (.bipush 7, 2) := by decide +kernel
theorem dX9_init_115 : decode cX9_init 115 = .ok (.newarray .int, 2) := by decide +kernel
theorem dX9_init_117 : decode cX9_init 117 = .ok (.putfield 52, 3) := by decide +kernel
theorem dX9_init_120 : decode cX9_init 120 = .ok (.aload_n 0, 1) := by decide +kernel
theorem dX9_init_121 : decode cX9_init 121 = .ok (.bipush 6, 2) := by decide +kernel
theorem dX9_init_123 : decode cX9_init 123 = .ok (.newarray .int, 2) := by decide +kernel
theorem dX9_init_125 : decode cX9_init 125 = .ok (.putfield 55, 3) := by decide +kernel
theorem dX9_init_128 : decode cX9_init 128 = .ok (.aload_n 0, 1) := by decide +kernel
theorem dX9_init_129 : decode cX9_init 129 = .ok (.bipush 6, 2) := by decide +kernel
theorem dX9_init_131 : decode cX9_init 131 = .ok (.newarray .int, 2) := by decide +kernel
theorem dX9_init_133 : decode cX9_init 133 = .ok (.putfield 58, 3) := by decide +kernel
theorem dX9_init_136 : decode cX9_init 136 = .ok (.aload_n 0, 1) := by decide +kernel
theorem dX9_init_137 : decode cX9_init 137 = .ok (.bipush 7, 2) := by decide +kernel
theorem dX9_init_139 : decode cX9_init 139 = .ok (.newarray .int, 2) := by decide +kernel
theorem dX9_init_141 : decode cX9_init 141 = .ok (.putfield 61, 3) := by decide +kernel
theorem dX9_init_144 : decode cX9_init 144 = .ok (.aload_n 0, 1) := by decide +kernel
theorem dX9_init_145 : decode cX9_init 145 = .ok (.bipush 70, 2) := by decide +kernel
theorem dX9_init_147 : decode cX9_init 147 = .ok (.newarray .int, 2) := by decide +kernel
theorem dX9_init_149 : decode cX9_init 149 = .ok (.putfield 64, 3) := by decide +kernel
theorem dX9_init_152 : decode cX9_init 152 = .ok (.aload_n 0, 1) := by decide +kernel
theorem dX9_init_153 : decode cX9_init 153 = .ok (.iconst 4, 1) := by decide +kernel
theorem dX9_init_154 : decode cX9_init 154 = .ok (.newarray .int, 2) := by decide +kernel
theorem dX9_init_156 : decode cX9_init 156 = .ok (.putfield 67, 3) := by decide +kernel
theorem dX9_init_159 : decode cX9_init 159 = .ok (.aload_n 0, 1) := by decide +kernel
theorem dX9_init_160 : decode cX9_init 160 = .ok (.sipush 1024, 3) := by decide +kernel
theorem dX9_init_163 : decode cX9_init 163 = .ok (.newarray .int, 2) := by decide +kernel
theorem dX9_init_165 : decode cX9_init 165 = .ok (.putfield 70, 3) := by decide +kernel
theorem dX9_init_168 : decode cX9_init 168 = .ok (.aload_n 0, 1) := by decide +kernel
theorem dX9_init_169 : decode cX9_init 169 = .ok (.sipush 160, 3) := by decide +kernel
theorem dX9_init_172 : decode cX9_init 172 = .ok (.newarray .int, 2) := by decide +kernel
theorem dX9_init_174 : decode cX9_init 174 = .ok (.putfield 73, 3) := by decide +kernel
theorem dX9_init_177 : decode cX9_init 177 = .ok (.aload_n 0, 1) := by decide +kernel
theorem dX9_init_178 : decode cX9_init 178 = .ok (.iconst 2, 1) := by decide +kernel
theorem dX9_init_179 : decode cX9_init 179 = .ok (.newarray .boolean, 2) := by decide +kernel
theorem dX9_init_181 : decode cX9_init 181 = .ok (.putfield 76, 3) := by decide +kernel
theorem dX9_init_184 : decode cX9_init 184 = .ok (.aload_n 0, 1) := by decide +kernel
theorem dX9_init_185 : decode cX9_init 185 = .ok (.bipush 7, 2) := by decide +kernel
theorem dX9_init_187 : decode cX9_init 187 = .ok (.invokevirtual 80, 3) := by decide +kernel
theorem dX9_init_190 : decode cX9_init 190 = .ok (.return_, 1) := by decide +kernel
theorem dX9_in_0 : decode cX9_in 0 = .ok (.lload_n 0, 1) := by decide +kernel
theorem dX9_in_1 : decode cX9_in 1 = .ok (.lload_n 2, 1) := by decide +kernel
theorem dX9_in_2 : decode cX9_in 2 = .ok (.lcmp, 1) := by decide +kernel
theorem dX9_in_3 : decode cX9_in 3 = .ok (.ifCond .lt 14, 3) := by decide +kernel
theorem dX9_in_6 : decode cX9_in 6 = .ok (.lload_n 0, 1) := by decide +kernel
theorem dX9_in_7 : decode cX9_in 7 = .ok (.lload 4, 2) := by decide +kernel
theorem dX9_in_9 : decode cX9_in 9 = .ok (.lcmp, 1) := by decide +kernel
theorem dX9_in_10 : decode cX9_in 10 = .ok (.ifCond .gt 7, 3) := by decide +kernel
theorem dX9_in_13 : decode cX9_in 13 = .ok (.iconst 1, 1) := by decide +kernel
theorem dX9_in_14 : decode cX9_in 14 = .ok (.goto 4, 3) := by decide +kernel
theorem dX9_in_17 : decode cX9_in 17 = .ok (.iconst 0, 1) := by decide +kernel
theorem dX9_in_18 : decode cX9_in 18 = .ok (.ireturn, 1) := by decide +kernel
theorem dX9_ones_0 : decode cX9_ones 0 = .ok (.iconst 0, 1) := by decide +kernel
theorem dX9_ones_1 : decode cX9_ones 1 = .ok (.istore_n 1, 1) := by decide +kernel
theorem dX9_ones_2 : decode cX9_ones 2 = .ok (.iload_n 0, 1) := by decide +kernel
theorem dX9_ones_3 : decode cX9_ones 3 = .ok (.istore_n 2, 1) := by decide +kernel
theorem dX9_ones_4 : decode cX9_ones 4 = .ok (.iload_n 2, 1) := by decide +kernel
theorem dX9_ones_5 : decode cX9_ones 5 = .ok (.ifCond .eq 15, 3) := by decide +kernel
theorem dX9_ones_8 : decode cX9_ones 8 = .ok (.iinc 1 1, 3) := by decide +kernel
theorem dX9_ones_11 : decode cX9_ones 11 = .ok (.iload_n 2, 1) := by decide +kernel
theorem dX9_ones_12 : decode cX9_ones 12 = .ok (.iload_n 2, 1) := by decide +kernel
theorem dX9_ones_13 : decode cX9_ones 13 = .ok (.iconst 1, 1) := by decide +kernel
theorem dX9_ones_14 : decode cX9_ones 14 = .ok (.isub, 1) := by decide +kernel
theorem dX9_ones_15 : decode cX9_ones 15 = .ok (.iand, 1) := by decide +kernel
theorem dX9_ones_16 : decode cX9_ones 16 = .ok (.istore_n 2, 1) := by decide +kernel
theorem dX9_ones_17 : decode cX9_ones 17 = .ok (.goto (-13), 3) := by decide +kernel
theorem dX9_ones_20 : decode cX9_ones 20 = .ok (.iload_n 1, 1) := by decide +kernel
theorem dX9_ones_21 : decode cX9_ones 21 = .ok (.ireturn, 1) := by decide +kernel
theorem dX9_at_0 : decode cX9_at 0 = .ok (.bipush 7, 2) := by decide +kernel
theorem dX9_at_2 : decode cX9_at 2 = .ok (.iload_n 0, 1) := by decide +kernel
theorem dX9_at_3 : decode cX9_at 3 = .ok (.imul, 1) := by decide +kernel
theorem dX9_at_4 : decode cX9_at 4 = .ok (.iload_n 1, 1) := by decide +kernel
theorem dX9_at_5 : decode cX9_at 5 = .ok (.iadd, 1) := by decide +kernel
theorem dX9_at_6 : decode cX9_at 6 = .ok (.ireturn, 1) := by decide +kernel
theorem dX9_begin_0 : decode cX9_begin 0 = .ok (.aload_n 0, 1) := by decide +kernel
theorem dX9_begin_1 : decode cX9_begin 1 = .ok (.iload_n 1, 1) := by decide +kernel
theorem dX9_begin_2 : decode cX9_begin 2 = .ok (.putfield 84, 3) := by decide +kernel
theorem dX9_begin_5 : decode cX9_begin 5 = .ok (.iconst 0, 1) := by decide +kernel
theorem dX9_begin_6 : decode cX9_begin 6 = .ok (.istore_n 2, 1) := by decide +kernel
theorem dX9_begin_7 : decode cX9_begin 7 = .ok (.iload_n 2, 1) := by decide +kernel
theorem dX9_begin_8 : decode cX9_begin 8 = .ok (.bipush 7, 2) := by decide +kernel
theorem dX9_begin_10 : decode cX9_begin 10 = .ok (.if_icmp .ge 70, 3) := by decide +kernel
theorem dX9_begin_13 : decode cX9_begin 13 = .ok (.aload_n 0, 1) := by decide +kernel
theorem dX9_begin_14 : decode cX9_begin 14 = .ok (.getfield 7, 3) := by decide +kernel
theorem dX9_begin_17 : decode cX9_begin 17 = .ok (.iconst 0, 1) := by decide +kernel
theorem dX9_begin_18 : decode cX9_begin 18 = .ok (.iload_n 2, 1) := by decide +kernel
theorem dX9_begin_19 : decode cX9_begin 19 = .ok (.invokestatic 88, 3) := by decide +kernel
theorem dX9_begin_22 : decode cX9_begin 22 = .ok (.iload_n 2, 1) := by decide +kernel
theorem dX9_begin_23 : decode cX9_begin 23 = .ok (.iastore, 1) := by decide +kernel
theorem dX9_begin_24 : decode cX9_begin 24 = .ok (.aload_n 0, 1) := by decide +kernel
theorem dX9_begin_25 : decode cX9_begin 25 = .ok (.getfield 7, 3) := by decide +kernel
theorem dX9_begin_28 : decode cX9_begin 28 = .ok (.iconst 1, 1) := by decide +kernel
theorem dX9_begin_29 : decode cX9_begin 29 = .ok (.iload_n 2, 1) := by decide +kernel
theorem dX9_begin_30 : decode cX9_begin 30 = .ok (.invokestatic 88, 3) := by decide +kernel
theorem dX9_begin_33 : decode cX9_begin 33 = .ok (.bipush 9, 2) := by decide +kernel
theorem dX9_begin_35 : decode cX9_begin 35 = .ok (.iastore, 1) := by decide +kernel
theorem dX9_begin_36 : decode cX9_begin 36 = .ok (.aload_n 0, 1) := by decide +kernel
theorem dX9_begin_37 : decode cX9_begin 37 = .ok (.getfield 7, 3) := by decide +kernel
theorem dX9_begin_40 : decode cX9_begin 40 = .ok (.iconst 2, 1) := by decide +kernel
theorem dX9_begin_41 : decode cX9_begin 41 = .ok (.iload_n 2, 1) := by decide +kernel
theorem dX9_begin_42 : decode cX9_begin 42 = .ok (.invokestatic 88, 3) := by decide +kernel
theorem dX9_begin_45 : decode cX9_begin 45 = .ok (.iconst 0, 1) := by decide +kernel
theorem dX9_begin_46 : decode cX9_begin 46 = .ok (.iastore, 1) := by decide +kernel
theorem dX9_begin_47 : decode cX9_begin 47 = .ok (.aload_n 0, 1) := by decide +kernel
theorem dX9_begin_48 : decode cX9_begin 48 = .ok (.getfield 7, 3) := by decide +kernel
theorem dX9_begin_51 : decode cX9_begin 51 = .ok (.iconst 3, 1) := by decide +kernel
theorem dX9_begin_52 : decode cX9_begin 52 = .ok (.iload_n 2, 1) := by decide +kernel
theorem dX9_begin_53 : decode cX9_begin 53 = .ok (.invokestatic 88, 3) := by decide +kernel
theorem dX9_begin_56 : decode cX9_begin 56 = .ok (.bipush 9, 2) := by decide +kernel
theorem dX9_begin_58 : decode cX9_begin 58 = .ok (.iastore, 1) := by decide +kernel
theorem dX9_begin_59 : decode cX9_begin 59 = .ok (.aload_n 0, 1) := by decide +kernel
theorem dX9_begin_60 : decode cX9_begin 60 = .ok (.getfield 13, 3) := by decide +kernel
theorem dX9_begin_63 : decode cX9_begin 63 = .ok (.iload_n 2, 1) := by decide +kernel
theorem dX9_begin_64 : decode cX9_begin 64 = .ok (.iconst 0, 1) := by decide +kernel
theorem dX9_begin_65 : decode cX9_begin 65 = .ok (.iastore, 1) := by decide +kernel
theorem dX9_begin_66 : decode cX9_begin 66 = .ok (.aload_n 0, 1) := by decide +kernel
theorem dX9_begin_67 : decode cX9_begin 67 = .ok (.getfield 16, 3) := by decide +kernel
theorem dX9_begin_70 : decode cX9_begin 70 = .ok (.iload_n 2, 1) := by decide +kernel
theorem dX9_begin_71 : decode cX9_begin 71 = .ok (.bipush (-6), 2) := by decide +kernel
theorem dX9_begin_73 : decode cX9_begin 73 = .ok (.iastore, 1) := by decide +kernel
theorem dX9_begin_74 : decode cX9_begin 74 = .ok (.iinc 2 1, 3) := by decide +kernel
theorem dX9_begin_77 : decode cX9_begin 77 = .ok (.goto (-70), 3) := by decide +kernel
theorem dX9_begin_80 : decode cX9_begin 80 = .ok (.return_, 1) := by decide +kernel
theorem dX9_isThing_0 : decode cX9_isThing 0 = .ok (.iload_n 1, 1) := by decide +kernel
theorem dX9_isThing_1 : decode cX9_isThing 1 = .ok (.i2l, 1) := by decide +kernel
theorem dX9_isThing_2 : decode cX9_isThing 2 = .ok (.lconst 0, 1) := by decide +kernel
theorem dX9_isThing_3 : decode cX9_isThing 3 = .ok (.aload_n 0, 1) := by decide +kernel
theorem dX9_isThing_4 : decode cX9_isThing 4 = .ok (.getfield 84, 3) := by decide +kernel
theorem dX9_isThing_7 : decode cX9_isThing 7 = .ok (.iconst 1, 1) := by decide +kernel
theorem dX9_isThing_8 : decode cX9_isThing 8 = .ok (.isub, 1) := by decide +kernel
theorem dX9_isThing_9 : decode cX9_isThing 9 = .ok (.i2l, 1) := by decide +kernel
theorem dX9_isThing_10 : decode cX9_isThing 10 = .ok (.invokestatic 92, 3) := by decide +kernel
theorem dX9_isThing_13 : decode cX9_isThing 13 = .ok (.ireturn, 1) := by decide +kernel
theorem dX9_isThere_0 : decode cX9_isThere 0 = .ok (.iload_n 1, 1) := by decide +kernel
theorem dX9_isThere_1 : decode cX9_isThere 1 = .ok (.i2l, 1) := by decide +kernel
theorem dX9_isThere_2 : decode cX9_isThere 2 = .ok (.lconst 0, 1) := by decide +kernel
theorem dX9_isThere_3 : decode cX9_isThere 3 = .ok (.ldc2_w 96, 3) := by decide +kernel
theorem dX9_isThere_6 : decode cX9_isThere 6 = .ok (.invokestatic 92, 3) := by decide +kernel
theorem dX9_isThere_9 : decode cX9_isThere 9 = .ok (.ifCond .eq 19, 3) := by decide +kernel
theorem dX9_isThere_12 : decode cX9_isThere 12 = .ok (.aload_n 0, 1) := by decide +kernel
theorem dX9_isThere_13 : decode cX9_isThere 13 = .ok (.getfield 98, 3) := by decide +kernel
theorem dX9_isThere_16 : decode cX9_isThere 16 = .ok (.iload_n 1, 1) := by decide +kernel
theorem dX9_isThere_17 : decode cX9_isThere 17 = .ok (.ishr, 1) := by decide +kernel
theorem dX9_isThere_18 : decode cX9_isThere 18 = .ok (.iconst 1, 1) := by decide +kernel
theorem dX9_isThere_19 : decode cX9_isThere 19 = .ok (.iand, 1) := by decide +kernel
theorem dX9_isThere_20 : decode cX9_isThere 20 = .ok (.iconst 1, 1) := by decide +kernel
theorem dX9_isThere_21 : decode cX9_isThere 21 = .ok (.if_icmp .ne 7, 3) := by decide +kernel
theorem dX9_isThere_24 : decode cX9_isThere 24 = .ok (.iconst 1, 1) := by decide +kernel
theorem dX9_isThere_25 : decode cX9_isThere 25 = .ok (.goto 4, 3) := by decide +kernel
theorem dX9_isThere_28 : decode cX9_isThere 28 = .ok (.iconst 0, 1) := by decide +kernel
theorem dX9_isThere_29 : decode cX9_isThere 29 = .ok (.ireturn, 1) := by decide +kernel
theorem dX9_things_0 : decode cX9_things 0 = .ok (.iload_n 1, 1) := by decide +kernel
theorem dX9_things_1 : decode cX9_things 1 = .ok (.i2l, 1) := by decide +kernel
theorem dX9_things_2 : decode cX9_things 2 = .ok (.lconst 1, 1) := by decide +kernel
theorem dX9_things_3 : decode cX9_things 3 = .ok (.ldc2_w 101, 3) := by decide +kernel
theorem dX9_things_6 : decode cX9_things 6 = .ok (.invokestatic 92, 3) := by decide +kernel
theorem dX9_things_9 : decode cX9_things 9 = .ok (.ifCond .ne 6, 3) := by decide +kernel
theorem dX9_things_12 : decode cX9_things 12 = .ok (.bipush (-2), 2) := by decide +kernel
theorem dX9_things_14 : decode cX9_things 14 = .ok (.ireturn, 1) := by decide +kernel
theorem dX9_things_15 : decode cX9_things 15 = .ok (.aload_n 0, 1) := by decide +kernel
theorem dX9_things_16 : decode cX9_things 16 = .ok (.getfield 84, 3) := by decide +kernel
theorem dX9_things_19 : decode cX9_things 19 = .ok (.istore_n 2, 1) := by decide +kernel
theorem dX9_things_20 : decode cX9_things 20 = .ok (.aload_n 0, 1) := by decide +kernel
theorem dX9_things_21 : decode cX9_things 21 = .ok (.iload_n 1, 1) := by decide +kernel
theorem dX9_things_22 : decode cX9_things 22 = .ok (.invokevirtual 80, 3) := by decide +kernel
theorem dX9_things_25 : decode cX9_things 25 = .ok (.iload_n 2, 1) := by decide +kernel
theorem dX9_things_26 : decode cX9_things 26 = .ok (.ireturn, 1) := by decide +kernel
theorem dX9_thing_0 : decode cX9_thing 0 = .ok (.aload_n 0, 1) := by decide +kernel
theorem dX9_thing_1 : decode cX9_thing 1 = .ok (.iload_n 1, 1) := by decide +kernel
theorem dX9_thing_2 : decode cX9_thing 2 = .ok (.invokevirtual 103, 3) := by decide +kernel
theorem dX9_thing_5 : decode cX9_thing 5 = .ok (.ifCond .ne 5, 3) := by decide +kernel
theorem dX9_thing_8 : decode cX9_thing 8 = .ok (.iconst (-1), 1) := by decide +kernel
theorem dX9_thing_9 : decode cX9_thing 9 = .ok (.ireturn, 1) := by decide +kernel
theorem dX9_thing_10 : decode cX9_thing 10 = .ok (.iload_n 2, 1) := by decide +kernel
theorem dX9_thing_11 : decode cX9_thing 11 = .ok (.i2l, 1) := by decide +kernel
theorem dX9_thing_12 : decode cX9_thing 12 = .ok (.lconst 0, 1) := by decide +kernel
theorem dX9_thing_13 : decode cX9_thing 13 = .ok (.ldc2_w 96, 3) := by decide +kernel
theorem dX9_thing_16 : decode cX9_thing 16 = .ok (.invokestatic 92, 3) := by decide +kernel
theorem dX9_thing_19 : decode cX9_thing 19 = .ok (.ifCond .eq 24, 3) := by decide +kernel
theorem dX9_thing_22 : decode cX9_thing 22 = .ok (.iload_n 3, 1) := by decide +kernel
theorem dX9_thing_23 : decode cX9_thing 23 = .ok (.i2l, 1) := by decide +kernel
theorem dX9_thing_24 : decode cX9_thing 24 = .ok (.lconst 0, 1) := by decide +kernel
theorem dX9_thing_25 : decode cX9_thing 25 = .ok (.iload_n 2, 1) := by decide +kernel
theorem dX9_thing_26 : decode cX9_thing 26 = .ok (.iconst 2, 1) := by decide +kernel
theorem dX9_thing_27 : decode cX9_thing 27 = .ok (.if_icmp .ne 7, 3) := by decide +kernel
theorem dX9_thing_30 : decode cX9_thing 30 = .ok (.lconst 1, 1) := by decide +kernel
theorem dX9_thing_31 : decode cX9_thing 31 = .ok (.goto 6, 3) := by decide +kernel
theorem dX9_thing_34 : decode cX9_thing 34 = .ok (.ldc2_w 107, 3) := by decide +kernel
theorem dX9_thing_37 : decode cX9_thing 37 = .ok (.invokestatic 92, 3) := by decide +kernel
theorem dX9_thing_40 : decode cX9_thing 40 = .ok (.ifCond .ne 6, 3) := by decide +kernel
theorem dX9_thing_43 : decode cX9_thing 43 = .ok (.bipush (-2), 2) := by decide +kernel
theorem dX9_thing_45 : decode cX9_thing 45 = .ok (.ireturn, 1) := by decide +kernel
theorem dX9_thing_46 : decode cX9_thing 46 = .ok (.iload_n 2, 1) := by decide +kernel
theorem dX9_thing_47 : decode cX9_thing 47 = .ok (.iconst 3, 1) := by decide +kernel
theorem dX9_thing_48 : decode cX9_thing 48 = .ok (.if_icmp .ne 20, 3) := by decide +kernel
theorem dX9_thing_51 : decode cX9_thing 51 = .ok (.iload_n 3, 1) := by decide +kernel
theorem dX9_thing_52 : decode cX9_thing 52 = .ok (.aload_n 0, 1) := by decide +kernel
theorem dX9_thing_53 : decode cX9_thing 53 = .ok (.getfield 7, 3) := by decide +kernel
theorem dX9_thing_56 : decode cX9_thing 56 = .ok (.iconst 1, 1) := by decide +kernel
theorem dX9_thing_57 : decode cX9_thing 57 = .ok (.iload_n 1, 1) := by decide +kernel
theorem dX9_thing_58 : decode cX9_thing 58 = .ok (.invokestatic 88, 3) := by decide +kernel
theorem dX9_thing_61 : decode cX9_thing 61 = .ok (.iaload, 1) := by decide +kernel
theorem dX9_thing_62 : decode cX9_thing 62 = .ok (.if_icmp .le 6, 3) := by decide +kernel
theorem dX9_thing_65 : decode cX9_thing 65 = .ok (.bipush (-3), 2) := by decide +kernel
theorem dX9_thing_67 : decode cX9_thing 67 = .ok (.ireturn, 1) := by decide +kernel
theorem dX9_thing_68 : decode cX9_thing 68 = .ok (.aload_n 0, 1) := by decide +kernel
theorem dX9_thing_69 : decode cX9_thing 69 = .ok (.getfield 7, 3) := by decide +kernel
theorem dX9_thing_72 : decode cX9_thing 72 = .ok (.iload_n 2, 1) := by decide +kernel
theorem dX9_thing_73 : decode cX9_thing 73 = .ok (.iload_n 1, 1) := by decide +kernel
theorem dX9_thing_74 : decode cX9_thing 74 = .ok (.invokestatic 88, 3) := by decide +kernel
theorem dX9_thing_77 : decode cX9_thing 77 = .ok (.iaload, 1) := by decide +kernel
theorem dX9_thing_78 : decode cX9_thing 78 = .ok (.istore 4, 2) := by decide +kernel
theorem dX9_thing_80 : decode cX9_thing 80 = .ok (.aload_n 0, 1) := by decide +kernel
theorem dX9_thing_81 : decode cX9_thing 81 = .ok (.getfield 7, 3) := by decide +kernel
theorem dX9_thing_84 : decode cX9_thing 84 = .ok (.iload_n 2, 1) := by decide +kernel
theorem dX9_thing_85 : decode cX9_thing 85 = .ok (.iload_n 1, 1) := by decide +kernel
theorem dX9_thing_86 : decode cX9_thing 86 = .ok (.invokestatic 88, 3) := by decide +kernel
theorem dX9_thing_89 : decode cX9_thing 89 = .ok (.iload_n 3, 1) := by decide +kernel
theorem dX9_thing_90 : decode cX9_thing 90 = .ok (.iastore, 1) := by decide +kernel
theorem dX9_thing_91 : decode cX9_thing 91 = .ok (.iload_n 2, 1) := by decide +kernel
theorem dX9_thing_92 : decode cX9_thing 92 = .ok (.iconst 1, 1) := by decide +kernel
theorem dX9_thing_93 : decode cX9_thing 93 = .ok (.if_icmp .ne 21, 3) := by decide +kernel
theorem dX9_thing_96 : decode cX9_thing 96 = .ok (.aload_n 0, 1) := by decide +kernel
theorem dX9_thing_97 : decode cX9_thing 97 = .ok (.getfield 7, 3) := by decide +kernel
theorem dX9_thing_100 : decode cX9_thing 100 = .ok (.iconst 3, 1) := by decide +kernel
theorem dX9_thing_101 : decode cX9_thing 101 = .ok (.iload_n 1, 1) := by decide +kernel
theorem dX9_thing_102 : decode cX9_thing 102 = .ok (.invokestatic 88, 3) := by decide +kernel
theorem dX9_thing_105 : decode cX9_thing 105 = .ok (.iload_n 3, 1) := by decide +kernel
theorem dX9_thing_106 : decode cX9_thing 106 = .ok (.iastore, 1) := by decide +kernel
theorem dX9_thing_107 : decode cX9_thing 107 = .ok (.aload_n 0, 1) := by decide +kernel
theorem dX9_thing_108 : decode cX9_thing 108 = .ok (.getfield 13, 3) := by decide +kernel
theorem dX9_thing_111 : decode cX9_thing 111 = .ok (.iload_n 1, 1) := by decide +kernel
theorem dX9_thing_112 : decode cX9_thing 112 = .ok (.iconst 0, 1) := by decide +kernel
theorem dX9_thing_113 : decode cX9_thing 113 = .ok (.iastore, 1) := by decide +kernel
theorem dX9_thing_114 : decode cX9_thing 114 = .ok (.iload 4, 2) := by decide +kernel
theorem dX9_thing_116 : decode cX9_thing 116 = .ok (.ireturn, 1) := by decide +kernel
theorem dX9_guest_0 : decode cX9_guest 0 = .ok (.iload_n 1, 1) := by decide +kernel
theorem dX9_guest_1 : decode cX9_guest 1 = .ok (.i2l, 1) := by decide +kernel
theorem dX9_guest_2 : decode cX9_guest 2 = .ok (.lconst 0, 1) := by decide +kernel
theorem dX9_guest_3 : decode cX9_guest 3 = .ok (.ldc2_w 96, 3) := by decide +kernel
theorem dX9_guest_6 : decode cX9_guest 6 = .ok (.invokestatic 92, 3) := by decide +kernel
theorem dX9_guest_9 : decode cX9_guest 9 = .ok (.ifCond .ne 5, 3) := by decide +kernel
theorem dX9_guest_12 : decode cX9_guest 12 = .ok (.iconst (-1), 1) := by decide +kernel
theorem dX9_guest_13 : decode cX9_guest 13 = .ok (.ireturn, 1) := by decide +kernel
theorem dX9_guest_14 : decode cX9_guest 14 = .ok (.iload_n 2, 1) := by decide +kernel
theorem dX9_guest_15 : decode cX9_guest 15 = .ok (.i2l, 1) := by decide +kernel
theorem dX9_guest_16 : decode cX9_guest 16 = .ok (.lconst 0, 1) := by decide +kernel
theorem dX9_guest_17 : decode cX9_guest 17 = .ok (.ldc2_w 107, 3) := by decide +kernel
theorem dX9_guest_20 : decode cX9_guest 20 = .ok (.invokestatic 92, 3) := by decide +kernel
theorem dX9_guest_23 : decode cX9_guest 23 = .ok (.ifCond .eq 41, 3) := by decide +kernel
theorem dX9_guest_26 : decode cX9_guest 26 = .ok (.iload_n 3, 1) := by decide +kernel
theorem dX9_guest_27 : decode cX9_guest 27 = .ok (.i2l, 1) := by decide +kernel
theorem dX9_guest_28 : decode cX9_guest 28 = .ok (.lconst 1, 1) := by decide +kernel
theorem dX9_guest_29 : decode cX9_guest 29 = .ok (.ldc2_w 107, 3) := by decide +kernel
theorem dX9_guest_32 : decode cX9_guest 32 = .ok (.invokestatic 92, 3) := by decide +kernel
theorem dX9_guest_35 : decode cX9_guest 35 = .ok (.ifCond .eq 29, 3) := by decide +kernel
theorem dX9_guest_38 : decode cX9_guest 38 = .ok (.iload 4, 2) := by decide +kernel
theorem dX9_guest_40 : decode cX9_guest 40 = .ok (.i2l, 1) := by decide +kernel
theorem dX9_guest_41 : decode cX9_guest 41 = .ok (.lconst 0, 1) := by decide +kernel
theorem dX9_guest_42 : decode cX9_guest 42 = .ok (.ldc2_w 96, 3) := by decide +kernel
theorem dX9_guest_45 : decode cX9_guest 45 = .ok (.invokestatic 92, 3) := by decide +kernel
theorem dX9_guest_48 : decode cX9_guest 48 = .ok (.ifCond .eq 16, 3) := by decide +kernel
theorem dX9_guest_51 : decode cX9_guest 51 = .ok (.iload 5, 2) := by decide +kernel
theorem dX9_guest_53 : decode cX9_guest 53 = .ok (.i2l, 1) := by decide +kernel
theorem dX9_guest_54 : decode cX9_guest 54 = .ok (.lconst 1, 1) := by decide +kernel
theorem dX9_guest_55 : decode cX9_guest 55 = .ok (.ldc2_w 107, 3) := by decide +kernel
theorem dX9_guest_58 : decode cX9_guest 58 = .ok (.invokestatic 92, 3) := by decide +kernel
theorem dX9_guest_61 : decode cX9_guest 61 = .ok (.ifCond .ne 6, 3) := by decide +kernel
theorem dX9_guest_64 : decode cX9_guest 64 = .ok (.bipush (-2), 2) := by decide +kernel
theorem dX9_guest_66 : decode cX9_guest 66 = .ok (.ireturn, 1) := by decide +kernel
theorem dX9_guest_67 : decode cX9_guest 67 = .ok (.aload_n 0, 1) := by decide +kernel
theorem dX9_guest_68 : decode cX9_guest 68 = .ok (.getfield 19, 3) := by decide +kernel
theorem dX9_guest_71 : decode cX9_guest 71 = .ok (.iload_n 1, 1) := by decide +kernel
theorem dX9_guest_72 : decode cX9_guest 72 = .ok (.iload_n 2, 1) := by decide +kernel
theorem dX9_guest_73 : decode cX9_guest 73 = .ok (.iastore, 1) := by decide +kernel
theorem dX9_guest_74 : decode cX9_guest 74 = .ok (.aload_n 0, 1) := by decide +kernel
theorem dX9_guest_75 : decode cX9_guest 75 = .ok (.getfield 22, 3) := by decide +kernel
theorem dX9_guest_78 : decode cX9_guest 78 = .ok (.iload_n 1, 1) := by decide +kernel
theorem dX9_guest_79 : decode cX9_guest 79 = .ok (.iload_n 3, 1) := by decide +kernel
theorem dX9_guest_80 : decode cX9_guest 80 = .ok (.iastore, 1) := by decide +kernel
theorem dX9_guest_81 : decode cX9_guest 81 = .ok (.aload_n 0, 1) := by decide +kernel
theorem dX9_guest_82 : decode cX9_guest 82 = .ok (.getfield 25, 3) := by decide +kernel
theorem dX9_guest_85 : decode cX9_guest 85 = .ok (.iload_n 1, 1) := by decide +kernel
theorem dX9_guest_86 : decode cX9_guest 86 = .ok (.iload 4, 2) := by decide +kernel
theorem dX9_guest_88 : decode cX9_guest 88 = .ok (.iastore, 1) := by decide +kernel
theorem dX9_guest_89 : decode cX9_guest 89 = .ok (.aload_n 0, 1) := by decide +kernel
theorem dX9_guest_90 : decode cX9_guest 90 = .ok (.getfield 28, 3) := by decide +kernel
theorem dX9_guest_93 : decode cX9_guest 93 = .ok (.iload_n 1, 1) := by decide +kernel
theorem dX9_guest_94 : decode cX9_guest 94 = .ok (.iload 5, 2) := by decide +kernel
theorem dX9_guest_96 : decode cX9_guest 96 = .ok (.iastore, 1) := by decide +kernel
theorem dX9_guest_97 : decode cX9_guest 97 = .ok (.aload_n 0, 1) := by decide +kernel
theorem dX9_guest_98 : decode cX9_guest 98 = .ok (.dup, 1) := by decide +kernel
theorem dX9_guest_99 : decode cX9_guest 99 = .ok (.getfield 98, 3) := by decide +kernel
theorem dX9_guest_102 : decode cX9_guest 102 = .ok (.iconst 1, 1) := by decide +kernel
theorem dX9_guest_103 : decode cX9_guest 103 = .ok (.iload_n 1, 1) := by decide +kernel
theorem dX9_guest_104 : decode cX9_guest 104 = .ok (.ishl, 1) := by decide +kernel
theorem dX9_guest_105 : decode cX9_guest 105 = .ok (.ior, 1) := by decide +kernel
theorem dX9_guest_106 : decode cX9_guest 106 = .ok (.putfield 98, 3) := by decide +kernel
theorem dX9_guest_109 : decode cX9_guest 109 = .ok (.aload_n 0, 1) := by decide +kernel
theorem dX9_guest_110 : decode cX9_guest 110 = .ok (.getfield 98, 3) := by decide +kernel
theorem dX9_guest_113 : decode cX9_guest 113 = .ok (.invokestatic 109, 3) := by decide +kernel
theorem dX9_guest_116 : decode cX9_guest 116 = .ok (.ireturn, 1) := by decide +kernel
theorem dX9_leave_0 : decode cX9_leave 0 = .ok (.aload_n 0, 1) := by decide +kernel
theorem dX9_leave_1 : decode cX9_leave 1 = .ok (.iload_n 1, 1) := by decide +kernel
theorem dX9_leave_2 : decode cX9_leave 2 = .ok (.invokevirtual 113, 3) := by decide +kernel
theorem dX9_leave_5 : decode cX9_leave 5 = .ok (.ifCond .ne 5, 3) := by decide +kernel
theorem dX9_leave_8 : decode cX9_leave 8 = .ok (.iconst (-1), 1) := by decide +kernel
theorem dX9_leave_9 : decode cX9_leave 9 = .ok (.ireturn, 1) := by decide +kernel
theorem dX9_leave_10 : decode cX9_leave 10 = .ok (.aload_n 0, 1) := by decide +kernel
theorem dX9_leave_11 : decode cX9_leave 11 = .ok (.dup, 1) := by decide +kernel
theorem dX9_leave_12 : decode cX9_leave 12 = .ok (.getfield 98, 3) := by decide +kernel
theorem dX9_leave_15 : decode cX9_leave 15 = .ok (.iconst 1, 1) := by decide +kernel
theorem dX9_leave_16 : decode cX9_leave 16 = .ok (.iload_n 1, 1) := by decide +kernel
theorem dX9_leave_17 : decode cX9_leave 17 = .ok (.ishl, 1) := by decide +kernel
theorem dX9_leave_18 : decode cX9_leave 18 = .ok (.iconst (-1), 1) := by decide +kernel
theorem dX9_leave_19 : decode cX9_leave 19 = .ok (.ixor, 1) := by decide +kernel
theorem dX9_leave_20 : decode cX9_leave 20 = .ok (.iand, 1) := by decide +kernel
theorem dX9_leave_21 : decode cX9_leave 21 = .ok (.putfield 98, 3) := by decide +kernel
theorem dX9_leave_24 : decode cX9_leave 24 = .ok (.aload_n 0, 1) := by decide +kernel
theorem dX9_leave_25 : decode cX9_leave 25 = .ok (.getfield 98, 3) := by decide +kernel
theorem dX9_leave_28 : decode cX9_leave 28 = .ok (.invokestatic 109, 3) := by decide +kernel
theorem dX9_leave_31 : decode cX9_leave 31 = .ok (.ireturn, 1) := by decide +kernel
theorem dX9_say_0 : decode cX9_say 0 = .ok (.iload_n 1, 1) := by decide +kernel
theorem dX9_say_1 : decode cX9_say 1 = .ok (.i2l, 1) := by decide +kernel
theorem dX9_say_2 : decode cX9_say 2 = .ok (.ldc2_w 116, 3) := by decide +kernel
theorem dX9_say_5 : decode cX9_say 5 = .ok (.ldc2_w 118, 3) := by decide +kernel
theorem dX9_say_8 : decode cX9_say 8 = .ok (.invokestatic 92, 3) := by decide +kernel
theorem dX9_say_11 : decode cX9_say 11 = .ok (.ifCond .ne 6, 3) := by decide +kernel
theorem dX9_say_14 : decode cX9_say 14 = .ok (.bipush (-2), 2) := by decide +kernel
theorem dX9_say_16 : decode cX9_say 16 = .ok (.ireturn, 1) := by decide +kernel
theorem dX9_say_17 : decode cX9_say 17 = .ok (.aload_n 0, 1) := by decide +kernel
theorem dX9_say_18 : decode cX9_say 18 = .ok (.getfield 120, 3) := by decide +kernel
theorem dX9_say_21 : decode cX9_say 21 = .ok (.bipush 40, 2) := by decide +kernel
theorem dX9_say_23 : decode cX9_say 23 = .ok (.if_icmp .ne 6, 3) := by decide +kernel
theorem dX9_say_26 : decode cX9_say 26 = .ok (.bipush (-4), 2) := by decide +kernel
theorem dX9_say_28 : decode cX9_say 28 = .ok (.ireturn, 1) := by decide +kernel
theorem dX9_say_29 : decode cX9_say 29 = .ok (.aload_n 0, 1) := by decide +kernel
theorem dX9_say_30 : decode cX9_say 30 = .ok (.getfield 31, 3) := by decide +kernel
theorem dX9_say_33 : decode cX9_say 33 = .ok (.aload_n 0, 1) := by decide +kernel
theorem dX9_say_34 : decode cX9_say 34 = .ok (.getfield 120, 3) := by decide +kernel
theorem dX9_say_37 : decode cX9_say 37 = .ok (.iload_n 1, 1) := by decide +kernel
theorem dX9_say_38 : decode cX9_say 38 = .ok (.iastore, 1) := by decide +kernel
theorem dX9_say_39 : decode cX9_say 39 = .ok (.aload_n 0, 1) := by decide +kernel
theorem dX9_say_40 : decode cX9_say 40 = .ok (.dup, 1) := by decide +kernel
theorem dX9_say_41 : decode cX9_say 41 = .ok (.getfield 120, 3) := by decide +kernel
theorem dX9_say_44 : decode cX9_say 44 = .ok (.iconst 1, 1) := by decide +kernel
theorem dX9_say_45 : decode cX9_say 45 = .ok (.iadd, 1) := by decide +kernel
theorem dX9_say_46 : decode cX9_say 46 = .ok (.putfield 120, 3) := by decide +kernel
theorem dX9_say_49 : decode cX9_say 49 = .ok (.aload_n 0, 1) := by decide +kernel
theorem dX9_say_50 : decode cX9_say 50 = .ok (.getfield 120, 3) := by decide +kernel
theorem dX9_say_53 : decode cX9_say 53 = .ok (.ireturn, 1) := by decide +kernel
theorem dX9_wipe_0 : decode cX9_wipe 0 = .ok (.aload_n 0, 1) := by decide +kernel
theorem dX9_wipe_1 : decode cX9_wipe 1 = .ok (.getfield 120, 3) := by decide +kernel
theorem dX9_wipe_4 : decode cX9_wipe 4 = .ok (.istore_n 1, 1) := by decide +kernel
theorem dX9_wipe_5 : decode cX9_wipe 5 = .ok (.aload_n 0, 1) := by decide +kernel
theorem dX9_wipe_6 : decode cX9_wipe 6 = .ok (.iconst 0, 1) := by decide +kernel
theorem dX9_wipe_7 : decode cX9_wipe 7 = .ok (.putfield 120, 3) := by decide +kernel
theorem dX9_wipe_10 : decode cX9_wipe 10 = .ok (.iload_n 1, 1) := by decide +kernel
theorem dX9_wipe_11 : decode cX9_wipe 11 = .ok (.ireturn, 1) := by decide +kernel
theorem dX9_fault_0 : decode cX9_fault 0 = .ok (.iconst 0, 1) := by decide +kernel
theorem dX9_fault_1 : decode cX9_fault 1 = .ok (.istore_n 1, 1) := by decide +kernel
theorem dX9_fault_2 : decode cX9_fault 2 = .ok (.iload_n 1, 1) := by decide +kernel
theorem dX9_fault_3 : decode cX9_fault 3 = .ok (.aload_n 0, 1) := by decide +kernel
theorem dX9_fault_4 : decode cX9_fault 4 = .ok (.getfield 120, 3) := by decide +kernel
theorem dX9_fault_7 : decode cX9_fault 7 = .ok (.if_icmp .ge 49, 3) := by decide +kernel
theorem dX9_fault_10 : decode cX9_fault 10 = .ok (.aload_n 0, 1) := by decide +kernel
theorem dX9_fault_11 : decode cX9_fault 11 = .ok (.getfield 31, 3) := by decide +kernel
theorem dX9_fault_14 : decode cX9_fault 14 = .ok (.iload_n 1, 1) := by decide +kernel
theorem dX9_fault_15 : decode cX9_fault 15 = .ok (.iaload, 1) := by decide +kernel
theorem dX9_fault_16 : decode cX9_fault 16 = .ok (.istore_n 2, 1) := by decide +kernel
theorem dX9_fault_17 : decode cX9_fault 17 = .ok (.iload_n 2, 1) := by decide +kernel
theorem dX9_fault_18 : decode cX9_fault 18 = .ok (.i2l, 1) := by decide +kernel
theorem dX9_fault_19 : decode cX9_fault 19 = .ok (.ldc2_w 123, 3) := by decide +kernel
theorem dX9_fault_22 : decode cX9_fault 22 = .ok (.ldc2_w 125, 3) := by decide +kernel
theorem dX9_fault_25 : decode cX9_fault 25 = .ok (.invokestatic 92, 3) := by decide +kernel
theorem dX9_fault_28 : decode cX9_fault 28 = .ok (.ifCond .ne 22, 3) := by decide +kernel
theorem dX9_fault_31 : decode cX9_fault 31 = .ok (.iload_n 2, 1) := by decide +kernel
theorem dX9_fault_32 : decode cX9_fault 32 = .ok (.bipush 46, 2) := by decide +kernel
theorem dX9_fault_34 : decode cX9_fault 34 = .ok (.if_icmp .eq 16, 3) := by decide +kernel
theorem dX9_fault_37 : decode cX9_fault 37 = .ok (.aload_n 0, 1) := by decide +kernel
theorem dX9_fault_38 : decode cX9_fault 38 = .ok (.iload_n 2, 1) := by decide +kernel
theorem dX9_fault_39 : decode cX9_fault 39 = .ok (.bipush 48, 2) := by decide +kernel
theorem dX9_fault_41 : decode cX9_fault 41 = .ok (.isub, 1) := by decide +kernel
theorem dX9_fault_42 : decode cX9_fault 42 = .ok (.invokevirtual 103, 3) := by decide +kernel
theorem dX9_fault_45 : decode cX9_fault 45 = .ok (.ifCond .ne 5, 3) := by decide +kernel
theorem dX9_fault_48 : decode cX9_fault 48 = .ok (.iload_n 1, 1) := by decide +kernel
theorem dX9_fault_49 : decode cX9_fault 49 = .ok (.ireturn, 1) := by decide +kernel
theorem dX9_fault_50 : decode cX9_fault 50 = .ok (.iinc 1 1, 3) := by decide +kernel
theorem dX9_fault_53 : decode cX9_fault 53 = .ok (.goto (-51), 3) := by decide +kernel
theorem dX9_fault_56 : decode cX9_fault 56 = .ok (.bipush (-6), 2) := by decide +kernel
theorem dX9_fault_58 : decode cX9_fault 58 = .ok (.ireturn, 1) := by decide +kernel
theorem dX9_isPassed_0 : decode cX9_isPassed 0 = .ok (.aload_n 0, 1) := by decide +kernel
theorem dX9_isPassed_1 : decode cX9_isPassed 1 = .ok (.getfield 7, 3) := by decide +kernel
theorem dX9_isPassed_4 : decode cX9_isPassed 4 = .ok (.iconst 2, 1) := by decide +kernel
theorem dX9_isPassed_5 : decode cX9_isPassed 5 = .ok (.iload_n 1, 1) := by decide +kernel
theorem dX9_isPassed_6 : decode cX9_isPassed 6 = .ok (.invokestatic 88, 3) := by decide +kernel
theorem dX9_isPassed_9 : decode cX9_isPassed 9 = .ok (.iaload, 1) := by decide +kernel
theorem dX9_isPassed_10 : decode cX9_isPassed 10 = .ok (.iconst 1, 1) := by decide +kernel
theorem dX9_isPassed_11 : decode cX9_isPassed 11 = .ok (.if_icmp .eq 16, 3) := by decide +kernel
theorem dX9_isPassed_14 : decode cX9_isPassed 14 = .ok (.aload_n 0, 1) := by decide +kernel
theorem dX9_isPassed_15 : decode cX9_isPassed 15 = .ok (.getfield 7, 3) := by decide +kernel
theorem dX9_isPassed_18 : decode cX9_isPassed 18 = .ok (.iconst 3, 1) := by decide +kernel
theorem dX9_isPassed_19 : decode cX9_isPassed 19 = .ok (.iload_n 1, 1) := by decide +kernel
theorem dX9_isPassed_20 : decode cX9_isPassed 20 = .ok (.invokestatic 88, 3) := by decide +kernel
theorem dX9_isPassed_23 : decode cX9_isPassed 23 = .ok (.iaload, 1) := by decide +kernel
theorem dX9_isPassed_24 : decode cX9_isPassed 24 = .ok (.ifCond .ne 7, 3) := by decide +kernel
theorem dX9_isPassed_27 : decode cX9_isPassed 27 = .ok (.iconst 1, 1) := by decide +kernel
theorem dX9_isPassed_28 : decode cX9_isPassed 28 = .ok (.goto 4, 3) := by decide +kernel
theorem dX9_isPassed_31 : decode cX9_isPassed 31 = .ok (.iconst 0, 1) := by decide +kernel
theorem dX9_isPassed_32 : decode cX9_isPassed 32 = .ok (.ireturn, 1) := by decide +kernel
theorem dX9_likes_0 : decode cX9_likes 0 = .ok (.aload_n 0, 1) := by decide +kernel
theorem dX9_likes_1 : decode cX9_likes 1 = .ok (.getfield 7, 3) := by decide +kernel
theorem dX9_likes_4 : decode cX9_likes 4 = .ok (.iconst 0, 1) := by decide +kernel
theorem dX9_likes_5 : decode cX9_likes 5 = .ok (.iload_n 2, 1) := by decide +kernel
theorem dX9_likes_6 : decode cX9_likes 6 = .ok (.invokestatic 88, 3) := by decide +kernel
theorem dX9_likes_9 : decode cX9_likes 9 = .ok (.iaload, 1) := by decide +kernel
theorem dX9_likes_10 : decode cX9_likes 10 = .ok (.aload_n 0, 1) := by decide +kernel
theorem dX9_likes_11 : decode cX9_likes 11 = .ok (.getfield 19, 3) := by decide +kernel
theorem dX9_likes_14 : decode cX9_likes 14 = .ok (.iload_n 1, 1) := by decide +kernel
theorem dX9_likes_15 : decode cX9_likes 15 = .ok (.iaload, 1) := by decide +kernel
theorem dX9_likes_16 : decode cX9_likes 16 = .ok (.isub, 1) := by decide +kernel
theorem dX9_likes_17 : decode cX9_likes 17 = .ok (.istore_n 3, 1) := by decide +kernel
theorem dX9_likes_18 : decode cX9_likes 18 = .ok (.aload_n 0, 1) := by decide +kernel
theorem dX9_likes_19 : decode cX9_likes 19 = .ok (.getfield 25, 3) := by decide +kernel
theorem dX9_likes_22 : decode cX9_likes 22 = .ok (.iload_n 1, 1) := by decide +kernel
theorem dX9_likes_23 : decode cX9_likes 23 = .ok (.iaload, 1) := by decide +kernel
theorem dX9_likes_24 : decode cX9_likes 24 = .ok (.tableswitch 87 0 2 #[28, 39, 50], 28) := by decide +kernel
theorem dX9_likes_52 : decode cX9_likes 52 = .ok (.iload_n 3, 1) := by decide +kernel
theorem dX9_likes_53 : decode cX9_likes 53 = .ok (.ifCond .ge 7, 3) := by decide +kernel
theorem dX9_likes_56 : decode cX9_likes 56 = .ok (.iload_n 3, 1) := by decide +kernel
theorem dX9_likes_57 : decode cX9_likes 57 = .ok (.goto 5, 3) := by decide +kernel
theorem dX9_likes_60 : decode cX9_likes 60 = .ok (.iload_n 3, 1) := by decide +kernel
theorem dX9_likes_61 : decode cX9_likes 61 = .ok (.ineg, 1) := by decide +kernel
theorem dX9_likes_62 : decode cX9_likes 62 = .ok (.ireturn, 1) := by decide +kernel
theorem dX9_likes_63 : decode cX9_likes 63 = .ok (.aload_n 0, 1) := by decide +kernel
theorem dX9_likes_64 : decode cX9_likes 64 = .ok (.getfield 7, 3) := by decide +kernel
theorem dX9_likes_67 : decode cX9_likes 67 = .ok (.iconst 3, 1) := by decide +kernel
theorem dX9_likes_68 : decode cX9_likes 68 = .ok (.iload_n 2, 1) := by decide +kernel
theorem dX9_likes_69 : decode cX9_likes 69 = .ok (.invokestatic 88, 3) := by decide +kernel
theorem dX9_likes_72 : decode cX9_likes 72 = .ok (.iaload, 1) := by decide +kernel
theorem dX9_likes_73 : decode cX9_likes 73 = .ok (.ireturn, 1) := by decide +kernel
theorem dX9_likes_74 : decode cX9_likes 74 = .ok (.aload_n 0, 1) := by decide +kernel
theorem dX9_likes_75 : decode cX9_likes 75 = .ok (.getfield 127, 3) := by decide +kernel
theorem dX9_likes_78 : decode cX9_likes 78 = .ok (.ifCond .ge 7, 3) := by decide +kernel
theorem dX9_likes_81 : decode cX9_likes 81 = .ok (.iconst 0, 1) := by decide +kernel
theorem dX9_likes_82 : decode cX9_likes 82 = .ok (.goto 9, 3) := by decide +kernel
theorem dX9_likes_85 : decode cX9_likes 85 = .ok (.aload_n 0, 1) := by decide +kernel
theorem dX9_likes_86 : decode cX9_likes 86 = .ok (.getfield 127, 3) := by decide +kernel
theorem dX9_likes_89 : decode cX9_likes 89 = .ok (.iconst 1, 1) := by decide +kernel
theorem dX9_likes_90 : decode cX9_likes 90 = .ok (.iadd, 1) := by decide +kernel
theorem dX9_likes_91 : decode cX9_likes 91 = .ok (.istore 4, 2) := by decide +kernel
theorem dX9_likes_93 : decode cX9_likes 93 = .ok (.iload_n 2, 1) := by decide +kernel
theorem dX9_likes_94 : decode cX9_likes 94 = .ok (.iload 4, 2) := by decide +kernel
theorem dX9_likes_96 : decode cX9_likes 96 = .ok (.isub, 1) := by decide +kernel
theorem dX9_likes_97 : decode cX9_likes 97 = .ok (.iconst 2, 1) := by decide +kernel
theorem dX9_likes_98 : decode cX9_likes 98 = .ok (.aload_n 0, 1) := by decide +kernel
theorem dX9_likes_99 : decode cX9_likes 99 = .ok (.getfield 84, 3) := by decide +kernel
theorem dX9_likes_102 : decode cX9_likes 102 = .ok (.imul, 1) := by decide +kernel
theorem dX9_likes_103 : decode cX9_likes 103 = .ok (.iadd, 1) := by decide +kernel
theorem dX9_likes_104 : decode cX9_likes 104 = .ok (.aload_n 0, 1) := by decide +kernel
theorem dX9_likes_105 : decode cX9_likes 105 = .ok (.getfield 84, 3) := by decide +kernel
theorem dX9_likes_108 : decode cX9_likes 108 = .ok (.irem, 1) := by decide +kernel
theorem dX9_likes_109 : decode cX9_likes 109 = .ok (.ineg, 1) := by decide +kernel
theorem dX9_likes_110 : decode cX9_likes 110 = .ok (.ireturn, 1) := by decide +kernel
theorem dX9_likes_111 : decode cX9_likes 111 = .ok (.aload_n 0, 1) := by decide +kernel
theorem dX9_likes_112 : decode cX9_likes 112 = .ok (.getfield 7, 3) := by decide +kernel
theorem dX9_likes_115 : decode cX9_likes 115 = .ok (.iconst 3, 1) := by decide +kernel
theorem dX9_likes_116 : decode cX9_likes 116 = .ok (.iload_n 2, 1) := by decide +kernel
theorem dX9_likes_117 : decode cX9_likes 117 = .ok (.invokestatic 88, 3) := by decide +kernel
theorem dX9_likes_120 : decode cX9_likes 120 = .ok (.iaload, 1) := by decide +kernel
theorem dX9_likes_121 : decode cX9_likes 121 = .ok (.aload_n 0, 1) := by decide +kernel
theorem dX9_likes_122 : decode cX9_likes 122 = .ok (.getfield 22, 3) := by decide +kernel
theorem dX9_likes_125 : decode cX9_likes 125 = .ok (.iload_n 1, 1) := by decide +kernel
theorem dX9_likes_126 : decode cX9_likes 126 = .ok (.iaload, 1) := by decide +kernel
theorem dX9_likes_127 : decode cX9_likes 127 = .ok (.if_icmp .lt 7, 3) := by decide +kernel
theorem dX9_likes_130 : decode cX9_likes 130 = .ok (.iconst 1, 1) := by decide +kernel
theorem dX9_likes_131 : decode cX9_likes 131 = .ok (.goto 4, 3) := by decide +kernel
theorem dX9_likes_134 : decode cX9_likes 134 = .ok (.iconst 0, 1) := by decide +kernel
theorem dX9_likes_135 : decode cX9_likes 135 = .ok (.ireturn, 1) := by decide +kernel
theorem dX9_taken_0 : decode cX9_taken 0 = .ok (.bipush (-6), 2) := by decide +kernel
theorem dX9_taken_2 : decode cX9_taken 2 = .ok (.istore_n 2, 1) := by decide +kernel
theorem dX9_taken_3 : decode cX9_taken 3 = .ok (.iconst 0, 1) := by decide +kernel
theorem dX9_taken_4 : decode cX9_taken 4 = .ok (.istore_n 3, 1) := by decide +kernel
theorem dX9_taken_5 : decode cX9_taken 5 = .ok (.iload_n 3, 1) := by decide +kernel
theorem dX9_taken_6 : decode cX9_taken 6 = .ok (.aload_n 0, 1) := by decide +kernel
theorem dX9_taken_7 : decode cX9_taken 7 = .ok (.getfield 84, 3) := by decide +kernel
theorem dX9_taken_10 : decode cX9_taken 10 = .ok (.if_icmp .ge 54, 3) := by decide +kernel
theorem dX9_taken_13 : decode cX9_taken 13 = .ok (.aload_n 0, 1) := by decide +kernel
theorem dX9_taken_14 : decode cX9_taken 14 = .ok (.iload_n 3, 1) := by decide +kernel
theorem dX9_taken_15 : decode cX9_taken 15 = .ok (.invokevirtual 130, 3) := by decide +kernel
theorem dX9_taken_18 : decode cX9_taken 18 = .ok (.ifCond .ne 7, 3) := by decide +kernel
theorem dX9_taken_21 : decode cX9_taken 21 = .ok (.iconst 1, 1) := by decide +kernel
theorem dX9_taken_22 : decode cX9_taken 22 = .ok (.goto 4, 3) := by decide +kernel
theorem dX9_taken_25 : decode cX9_taken 25 = .ok (.iconst 0, 1) := by decide +kernel
theorem dX9_taken_26 : decode cX9_taken 26 = .ok (.istore 4, 2) := by decide +kernel
theorem dX9_taken_28 : decode cX9_taken 28 = .ok (.iload 4, 2) := by decide +kernel
theorem dX9_taken_30 : decode cX9_taken 30 = .ok (.ifCond .eq 26, 3) := by decide +kernel
theorem dX9_taken_33 : decode cX9_taken 33 = .ok (.iload_n 2, 1) := by decide +kernel
theorem dX9_taken_34 : decode cX9_taken 34 = .ok (.ifCond .lt 18, 3) := by decide +kernel
theorem dX9_taken_37 : decode cX9_taken 37 = .ok (.aload_n 0, 1) := by decide +kernel
theorem dX9_taken_38 : decode cX9_taken 38 = .ok (.iload_n 1, 1) := by decide +kernel
theorem dX9_taken_39 : decode cX9_taken 39 = .ok (.iload_n 3, 1) := by decide +kernel
theorem dX9_taken_40 : decode cX9_taken 40 = .ok (.invokevirtual 133, 3) := by decide +kernel
theorem dX9_taken_43 : decode cX9_taken 43 = .ok (.aload_n 0, 1) := by decide +kernel
theorem dX9_taken_44 : decode cX9_taken 44 = .ok (.iload_n 1, 1) := by decide +kernel
theorem dX9_taken_45 : decode cX9_taken 45 = .ok (.iload_n 2, 1) := by decide +kernel
theorem dX9_taken_46 : decode cX9_taken 46 = .ok (.invokevirtual 133, 3) := by decide +kernel
theorem dX9_taken_49 : decode cX9_taken 49 = .ok (.if_icmp .le 7, 3) := by decide +kernel
theorem dX9_taken_52 : decode cX9_taken 52 = .ok (.iload_n 3, 1) := by decide +kernel
theorem dX9_taken_53 : decode cX9_taken 53 = .ok (.goto 4, 3) := by decide +kernel
theorem dX9_taken_56 : decode cX9_taken 56 = .ok (.iload_n 2, 1) := by decide +kernel
theorem dX9_taken_57 : decode cX9_taken 57 = .ok (.istore_n 2, 1) := by decide +kernel
theorem dX9_taken_58 : decode cX9_taken 58 = .ok (.iinc 3 1, 3) := by decide +kernel
theorem dX9_taken_61 : decode cX9_taken 61 = .ok (.goto (-56), 3) := by decide +kernel
theorem dX9_taken_64 : decode cX9_taken 64 = .ok (.iload_n 2, 1) := by decide +kernel
theorem dX9_taken_65 : decode cX9_taken 65 = .ok (.ireturn, 1) := by decide +kernel
theorem dX9_use_0 : decode cX9_use 0 = .ok (.aload_n 0, 1) := by decide +kernel
theorem dX9_use_1 : decode cX9_use 1 = .ok (.getfield 22, 3) := by decide +kernel
theorem dX9_use_4 : decode cX9_use 4 = .ok (.iload_n 1, 1) := by decide +kernel
theorem dX9_use_5 : decode cX9_use 5 = .ok (.iaload, 1) := by decide +kernel
theorem dX9_use_6 : decode cX9_use 6 = .ok (.aload_n 0, 1) := by decide +kernel
theorem dX9_use_7 : decode cX9_use 7 = .ok (.getfield 7, 3) := by decide +kernel
theorem dX9_use_10 : decode cX9_use 10 = .ok (.iconst 3, 1) := by decide +kernel
theorem dX9_use_11 : decode cX9_use 11 = .ok (.iload_n 2, 1) := by decide +kernel
theorem dX9_use_12 : decode cX9_use 12 = .ok (.invokestatic 88, 3) := by decide +kernel
theorem dX9_use_15 : decode cX9_use 15 = .ok (.iaload, 1) := by decide +kernel
theorem dX9_use_16 : decode cX9_use 16 = .ok (.if_icmp .ge 12, 3) := by decide +kernel
theorem dX9_use_19 : decode cX9_use 19 = .ok (.aload_n 0, 1) := by decide +kernel
theorem dX9_use_20 : decode cX9_use 20 = .ok (.getfield 22, 3) := by decide +kernel
theorem dX9_use_23 : decode cX9_use 23 = .ok (.iload_n 1, 1) := by decide +kernel
theorem dX9_use_24 : decode cX9_use 24 = .ok (.iaload, 1) := by decide +kernel
theorem dX9_use_25 : decode cX9_use 25 = .ok (.goto 13, 3) := by decide +kernel
theorem dX9_use_28 : decode cX9_use 28 = .ok (.aload_n 0, 1) := by decide +kernel
theorem dX9_use_29 : decode cX9_use 29 = .ok (.getfield 7, 3) := by decide +kernel
theorem dX9_use_32 : decode cX9_use 32 = .ok (.iconst 3, 1) := by decide +kernel
theorem dX9_use_33 : decode cX9_use 33 = .ok (.iload_n 2, 1) := by decide +kernel
theorem dX9_use_34 : decode cX9_use 34 = .ok (.invokestatic 88, 3) := by decide +kernel
theorem dX9_use_37 : decode cX9_use 37 = .ok (.iaload, 1) := by decide +kernel
theorem dX9_use_38 : decode cX9_use 38 = .ok (.istore_n 3, 1) := by decide +kernel
theorem dX9_use_39 : decode cX9_use 39 = .ok (.aload_n 0, 1) := by decide +kernel
theorem dX9_use_40 : decode cX9_use 40 = .ok (.getfield 7, 3) := by decide +kernel
theorem dX9_use_43 : decode cX9_use 43 = .ok (.iconst 3, 1) := by decide +kernel
theorem dX9_use_44 : decode cX9_use 44 = .ok (.iload_n 2, 1) := by decide +kernel
theorem dX9_use_45 : decode cX9_use 45 = .ok (.invokestatic 88, 3) := by decide +kernel
theorem dX9_use_48 : decode cX9_use 48 = .ok (.dup2, 1) := by decide +kernel
theorem dX9_use_49 : decode cX9_use 49 = .ok (.iaload, 1) := by decide +kernel
theorem dX9_use_50 : decode cX9_use 50 = .ok (.iload_n 3, 1) := by decide +kernel
theorem dX9_use_51 : decode cX9_use 51 = .ok (.isub, 1) := by decide +kernel
theorem dX9_use_52 : decode cX9_use 52 = .ok (.iastore, 1) := by decide +kernel
theorem dX9_use_53 : decode cX9_use 53 = .ok (.aload_n 0, 1) := by decide +kernel
theorem dX9_use_54 : decode cX9_use 54 = .ok (.dup, 1) := by decide +kernel
theorem dX9_use_55 : decode cX9_use 55 = .ok (.getfield 136, 3) := by decide +kernel
theorem dX9_use_58 : decode cX9_use 58 = .ok (.iload_n 3, 1) := by decide +kernel
theorem dX9_use_59 : decode cX9_use 59 = .ok (.iadd, 1) := by decide +kernel
theorem dX9_use_60 : decode cX9_use 60 = .ok (.putfield 136, 3) := by decide +kernel
theorem dX9_use_63 : decode cX9_use 63 = .ok (.aload_n 0, 1) := by decide +kernel
theorem dX9_use_64 : decode cX9_use 64 = .ok (.getfield 13, 3) := by decide +kernel
theorem dX9_use_67 : decode cX9_use 67 = .ok (.iload_n 2, 1) := by decide +kernel
theorem dX9_use_68 : decode cX9_use 68 = .ok (.bipush 9, 2) := by decide +kernel
theorem dX9_use_70 : decode cX9_use 70 = .ok (.iastore, 1) := by decide +kernel
theorem dX9_use_71 : decode cX9_use 71 = .ok (.aload_n 0, 1) := by decide +kernel
theorem dX9_use_72 : decode cX9_use 72 = .ok (.iload_n 2, 1) := by decide +kernel
theorem dX9_use_73 : decode cX9_use 73 = .ok (.putfield 127, 3) := by decide +kernel
theorem dX9_use_76 : decode cX9_use 76 = .ok (.return_, 1) := by decide +kernel
theorem dX9_keepNow_0 : decode cX9_keepNow 0 = .ok (.iconst 0, 1) := by decide +kernel
theorem dX9_keepNow_1 : decode cX9_keepNow 1 = .ok (.istore_n 1, 1) := by decide +kernel
theorem dX9_keepNow_2 : decode cX9_keepNow 2 = .ok (.iload_n 1, 1) := by decide +kernel
theorem dX9_keepNow_3 : decode cX9_keepNow 3 = .ok (.bipush 7, 2) := by decide +kernel
theorem dX9_keepNow_5 : decode cX9_keepNow 5 = .ok (.if_icmp .ge 37, 3) := by decide +kernel
theorem dX9_keepNow_8 : decode cX9_keepNow 8 = .ok (.aload_n 0, 1) := by decide +kernel
theorem dX9_keepNow_9 : decode cX9_keepNow 9 = .ok (.getfield 34, 3) := by decide +kernel
theorem dX9_keepNow_12 : decode cX9_keepNow 12 = .ok (.iload_n 1, 1) := by decide +kernel
theorem dX9_keepNow_13 : decode cX9_keepNow 13 = .ok (.aload_n 0, 1) := by decide +kernel
theorem dX9_keepNow_14 : decode cX9_keepNow 14 = .ok (.getfield 7, 3) := by decide +kernel
theorem dX9_keepNow_17 : decode cX9_keepNow 17 = .ok (.iconst 3, 1) := by decide +kernel
theorem dX9_keepNow_18 : decode cX9_keepNow 18 = .ok (.iload_n 1, 1) := by decide +kernel
theorem dX9_keepNow_19 : decode cX9_keepNow 19 = .ok (.invokestatic 88, 3) := by decide +kernel
theorem dX9_keepNow_22 : decode cX9_keepNow 22 = .ok (.iaload, 1) := by decide +kernel
theorem dX9_keepNow_23 : decode cX9_keepNow 23 = .ok (.iastore, 1) := by decide +kernel
theorem dX9_keepNow_24 : decode cX9_keepNow 24 = .ok (.aload_n 0, 1) := by decide +kernel
theorem dX9_keepNow_25 : decode cX9_keepNow 25 = .ok (.getfield 37, 3) := by decide +kernel
theorem dX9_keepNow_28 : decode cX9_keepNow 28 = .ok (.iload_n 1, 1) := by decide +kernel
theorem dX9_keepNow_29 : decode cX9_keepNow 29 = .ok (.aload_n 0, 1) := by decide +kernel
theorem dX9_keepNow_30 : decode cX9_keepNow 30 = .ok (.getfield 13, 3) := by decide +kernel
theorem dX9_keepNow_33 : decode cX9_keepNow 33 = .ok (.iload_n 1, 1) := by decide +kernel
theorem dX9_keepNow_34 : decode cX9_keepNow 34 = .ok (.iaload, 1) := by decide +kernel
theorem dX9_keepNow_35 : decode cX9_keepNow 35 = .ok (.iastore, 1) := by decide +kernel
theorem dX9_keepNow_36 : decode cX9_keepNow 36 = .ok (.iinc 1 1, 3) := by decide +kernel
theorem dX9_keepNow_39 : decode cX9_keepNow 39 = .ok (.goto (-37), 3) := by decide +kernel
theorem dX9_keepNow_42 : decode cX9_keepNow 42 = .ok (.return_, 1) := by decide +kernel
theorem dX9_putBack_0 : decode cX9_putBack 0 = .ok (.iconst 0, 1) := by decide +kernel
theorem dX9_putBack_1 : decode cX9_putBack 1 = .ok (.istore_n 1, 1) := by decide +kernel
theorem dX9_putBack_2 : decode cX9_putBack 2 = .ok (.iload_n 1, 1) := by decide +kernel
theorem dX9_putBack_3 : decode cX9_putBack 3 = .ok (.bipush 7, 2) := by decide +kernel
theorem dX9_putBack_5 : decode cX9_putBack 5 = .ok (.if_icmp .ge 37, 3) := by decide +kernel
theorem dX9_putBack_8 : decode cX9_putBack 8 = .ok (.aload_n 0, 1) := by decide +kernel
theorem dX9_putBack_9 : decode cX9_putBack 9 = .ok (.getfield 7, 3) := by decide +kernel
theorem dX9_putBack_12 : decode cX9_putBack 12 = .ok (.iconst 3, 1) := by decide +kernel
theorem dX9_putBack_13 : decode cX9_putBack 13 = .ok (.iload_n 1, 1) := by decide +kernel
theorem dX9_putBack_14 : decode cX9_putBack 14 = .ok (.invokestatic 88, 3) := by decide +kernel
theorem dX9_putBack_17 : decode cX9_putBack 17 = .ok (.aload_n 0, 1) := by decide +kernel
theorem dX9_putBack_18 : decode cX9_putBack 18 = .ok (.getfield 34, 3) := by decide +kernel
theorem dX9_putBack_21 : decode cX9_putBack 21 = .ok (.iload_n 1, 1) := by decide +kernel
theorem dX9_putBack_22 : decode cX9_putBack 22 = .ok (.iaload, 1) := by decide +kernel
theorem dX9_putBack_23 : decode cX9_putBack 23 = .ok (.iastore, 1) := by decide +kernel
theorem dX9_putBack_24 : decode cX9_putBack 24 = .ok (.aload_n 0, 1) := by decide +kernel
theorem dX9_putBack_25 : decode cX9_putBack 25 = .ok (.getfield 13, 3) := by decide +kernel
theorem dX9_putBack_28 : decode cX9_putBack 28 = .ok (.iload_n 1, 1) := by decide +kernel
theorem dX9_putBack_29 : decode cX9_putBack 29 = .ok (.aload_n 0, 1) := by decide +kernel
theorem dX9_putBack_30 : decode cX9_putBack 30 = .ok (.getfield 37, 3) := by decide +kernel
theorem dX9_putBack_33 : decode cX9_putBack 33 = .ok (.iload_n 1, 1) := by decide +kernel
theorem dX9_putBack_34 : decode cX9_putBack 34 = .ok (.iaload, 1) := by decide +kernel
theorem dX9_putBack_35 : decode cX9_putBack 35 = .ok (.iastore, 1) := by decide +kernel
theorem dX9_putBack_36 : decode cX9_putBack 36 = .ok (.iinc 1 1, 3) := by decide +kernel
theorem dX9_putBack_39 : decode cX9_putBack 39 = .ok (.goto (-37), 3) := by decide +kernel
theorem dX9_putBack_42 : decode cX9_putBack 42 = .ok (.return_, 1) := by decide +kernel
theorem dX9_comeIn_0 : decode cX9_comeIn 0 = .ok (.aload_n 0, 1) := by decide +kernel
theorem dX9_comeIn_1 : decode cX9_comeIn 1 = .ok (.iload_n 2, 1) := by decide +kernel
theorem dX9_comeIn_2 : decode cX9_comeIn 2 = .ok (.invokevirtual 113, 3) := by decide +kernel
theorem dX9_comeIn_5 : decode cX9_comeIn 5 = .ok (.ifCond .eq 11, 3) := by decide +kernel
theorem dX9_comeIn_8 : decode cX9_comeIn 8 = .ok (.aload_n 0, 1) := by decide +kernel
theorem dX9_comeIn_9 : decode cX9_comeIn 9 = .ok (.iload_n 2, 1) := by decide +kernel
theorem dX9_comeIn_10 : decode cX9_comeIn 10 = .ok (.invokevirtual 139, 3) := by decide +kernel
theorem dX9_comeIn_13 : decode cX9_comeIn 13 = .ok (.goto 5, 3) := by decide +kernel
theorem dX9_comeIn_16 : decode cX9_comeIn 16 = .ok (.bipush (-6), 2) := by decide +kernel
theorem dX9_comeIn_18 : decode cX9_comeIn 18 = .ok (.istore_n 3, 1) := by decide +kernel
theorem dX9_comeIn_19 : decode cX9_comeIn 19 = .ok (.iload_n 3, 1) := by decide +kernel
theorem dX9_comeIn_20 : decode cX9_comeIn 20 = .ok (.ifCond .ge 26, 3) := by decide +kernel
theorem dX9_comeIn_23 : decode cX9_comeIn 23 = .ok (.aload_n 0, 1) := by decide +kernel
theorem dX9_comeIn_24 : decode cX9_comeIn 24 = .ok (.iload_n 1, 1) := by decide +kernel
theorem dX9_comeIn_25 : decode cX9_comeIn 25 = .ok (.putfield 142, 3) := by decide +kernel
theorem dX9_comeIn_28 : decode cX9_comeIn 28 = .ok (.aload_n 0, 1) := by decide +kernel
theorem dX9_comeIn_29 : decode cX9_comeIn 29 = .ok (.aload_n 0, 1) := by decide +kernel
theorem dX9_comeIn_30 : decode cX9_comeIn 30 = .ok (.iload_n 2, 1) := by decide +kernel
theorem dX9_comeIn_31 : decode cX9_comeIn 31 = .ok (.invokevirtual 113, 3) := by decide +kernel
theorem dX9_comeIn_34 : decode cX9_comeIn 34 = .ok (.ifCond .eq 7, 3) := by decide +kernel
theorem dX9_comeIn_37 : decode cX9_comeIn 37 = .ok (.iconst 2, 1) := by decide +kernel
theorem dX9_comeIn_38 : decode cX9_comeIn 38 = .ok (.goto 4, 3) := by decide +kernel
theorem dX9_comeIn_41 : decode cX9_comeIn 41 = .ok (.iconst 1, 1) := by decide +kernel
theorem dX9_comeIn_42 : decode cX9_comeIn 42 = .ok (.putfield 145, 3) := by decide +kernel
theorem dX9_comeIn_45 : decode cX9_comeIn 45 = .ok (.return_, 1) := by decide +kernel
theorem dX9_comeIn_46 : decode cX9_comeIn 46 = .ok (.aload_n 0, 1) := by decide +kernel
theorem dX9_comeIn_47 : decode cX9_comeIn 47 = .ok (.getfield 40, 3) := by decide +kernel
theorem dX9_comeIn_50 : decode cX9_comeIn 50 = .ok (.iload_n 1, 1) := by decide +kernel
theorem dX9_comeIn_51 : decode cX9_comeIn 51 = .ok (.iload_n 3, 1) := by decide +kernel
theorem dX9_comeIn_52 : decode cX9_comeIn 52 = .ok (.iastore, 1) := by decide +kernel
theorem dX9_comeIn_53 : decode cX9_comeIn 53 = .ok (.aload_n 0, 1) := by decide +kernel
theorem dX9_comeIn_54 : decode cX9_comeIn 54 = .ok (.getfield 43, 3) := by decide +kernel
theorem dX9_comeIn_57 : decode cX9_comeIn 57 = .ok (.iload_n 3, 1) := by decide +kernel
theorem dX9_comeIn_58 : decode cX9_comeIn 58 = .ok (.aload_n 0, 1) := by decide +kernel
theorem dX9_comeIn_59 : decode cX9_comeIn 59 = .ok (.getfield 43, 3) := by decide +kernel
theorem dX9_comeIn_62 : decode cX9_comeIn 62 = .ok (.iload_n 3, 1) := by decide +kernel
theorem dX9_comeIn_63 : decode cX9_comeIn 63 = .ok (.iaload, 1) := by decide +kernel
theorem dX9_comeIn_64 : decode cX9_comeIn 64 = .ok (.ifCond .ge 7, 3) := by decide +kernel
theorem dX9_comeIn_67 : decode cX9_comeIn 67 = .ok (.iload_n 2, 1) := by decide +kernel
theorem dX9_comeIn_68 : decode cX9_comeIn 68 = .ok (.goto 9, 3) := by decide +kernel
theorem dX9_comeIn_71 : decode cX9_comeIn 71 = .ok (.aload_n 0, 1) := by decide +kernel
theorem dX9_comeIn_72 : decode cX9_comeIn 72 = .ok (.getfield 43, 3) := by decide +kernel
theorem dX9_comeIn_75 : decode cX9_comeIn 75 = .ok (.iload_n 3, 1) := by decide +kernel
theorem dX9_comeIn_76 : decode cX9_comeIn 76 = .ok (.iaload, 1) := by decide +kernel
theorem dX9_comeIn_77 : decode cX9_comeIn 77 = .ok (.iastore, 1) := by decide +kernel
theorem dX9_comeIn_78 : decode cX9_comeIn 78 = .ok (.aload_n 0, 1) := by decide +kernel
theorem dX9_comeIn_79 : decode cX9_comeIn 79 = .ok (.getfield 46, 3) := by decide +kernel
theorem dX9_comeIn_82 : decode cX9_comeIn 82 = .ok (.iload_n 3, 1) := by decide +kernel
theorem dX9_comeIn_83 : decode cX9_comeIn 83 = .ok (.iload_n 2, 1) := by decide +kernel
theorem dX9_comeIn_84 : decode cX9_comeIn 84 = .ok (.iastore, 1) := by decide +kernel
theorem dX9_comeIn_85 : decode cX9_comeIn 85 = .ok (.aload_n 0, 1) := by decide +kernel
theorem dX9_comeIn_86 : decode cX9_comeIn 86 = .ok (.dup, 1) := by decide +kernel
theorem dX9_comeIn_87 : decode cX9_comeIn 87 = .ok (.getfield 148, 3) := by decide +kernel
theorem dX9_comeIn_90 : decode cX9_comeIn 90 = .ok (.iconst 1, 1) := by decide +kernel
theorem dX9_comeIn_91 : decode cX9_comeIn 91 = .ok (.iadd, 1) := by decide +kernel
theorem dX9_comeIn_92 : decode cX9_comeIn 92 = .ok (.putfield 148, 3) := by decide +kernel
theorem dX9_comeIn_95 : decode cX9_comeIn 95 = .ok (.aload_n 0, 1) := by decide +kernel
theorem dX9_comeIn_96 : decode cX9_comeIn 96 = .ok (.iload_n 2, 1) := by decide +kernel
theorem dX9_comeIn_97 : decode cX9_comeIn 97 = .ok (.iload_n 3, 1) := by decide +kernel
theorem dX9_comeIn_98 : decode cX9_comeIn 98 = .ok (.invokevirtual 151, 3) := by decide +kernel
theorem dX9_comeIn_101 : decode cX9_comeIn 101 = .ok (.return_, 1) := by decide +kernel
theorem dX9_passHour_0 : decode cX9_passHour 0 = .ok (.iconst 0, 1) := by decide +kernel
theorem dX9_passHour_1 : decode cX9_passHour 1 = .ok (.istore_n 1, 1) := by decide +kernel
theorem dX9_passHour_2 : decode cX9_passHour 2 = .ok (.iload_n 1, 1) := by decide +kernel
theorem dX9_passHour_3 : decode cX9_passHour 3 = .ok (.aload_n 0, 1) := by decide +kernel
theorem dX9_passHour_4 : decode cX9_passHour 4 = .ok (.getfield 84, 3) := by decide +kernel
theorem dX9_passHour_7 : decode cX9_passHour 7 = .ok (.if_icmp .ge 32, 3) := by decide +kernel
theorem dX9_passHour_10 : decode cX9_passHour 10 = .ok (.aload_n 0, 1) := by decide +kernel
theorem dX9_passHour_11 : decode cX9_passHour 11 = .ok (.getfield 13, 3) := by decide +kernel
theorem dX9_passHour_14 : decode cX9_passHour 14 = .ok (.iload_n 1, 1) := by decide +kernel
theorem dX9_passHour_15 : decode cX9_passHour 15 = .ok (.dup2, 1) := by decide +kernel
theorem dX9_passHour_16 : decode cX9_passHour 16 = .ok (.iaload, 1) := by decide +kernel
theorem dX9_passHour_17 : decode cX9_passHour 17 = .ok (.aload_n 0, 1) := by decide +kernel
theorem dX9_passHour_18 : decode cX9_passHour 18 = .ok (.getfield 13, 3) := by decide +kernel
theorem dX9_passHour_21 : decode cX9_passHour 21 = .ok (.iload_n 1, 1) := by decide +kernel
theorem dX9_passHour_22 : decode cX9_passHour 22 = .ok (.iaload, 1) := by decide +kernel
theorem dX9_passHour_23 : decode cX9_passHour 23 = .ok (.ifCond .le 7, 3) := by decide +kernel
theorem dX9_passHour_26 : decode cX9_passHour 26 = .ok (.iconst 1, 1) := by decide +kernel
theorem dX9_passHour_27 : decode cX9_passHour 27 = .ok (.goto 4, 3) := by decide +kernel
theorem dX9_passHour_30 : decode cX9_passHour 30 = .ok (.iconst 0, 1) := by decide +kernel
theorem dX9_passHour_31 : decode cX9_passHour 31 = .ok (.isub, 1) := by decide +kernel
theorem dX9_passHour_32 : decode cX9_passHour 32 = .ok (.iastore, 1) := by decide +kernel
theorem dX9_passHour_33 : decode cX9_passHour 33 = .ok (.iinc 1 1, 3) := by decide +kernel
theorem dX9_passHour_36 : decode cX9_passHour 36 = .ok (.goto (-34), 3) := by decide +kernel
theorem dX9_passHour_39 : decode cX9_passHour 39 = .ok (.return_, 1) := by decide +kernel
theorem dX9_goEvening_0 : decode cX9_goEvening 0 = .ok (.aload_n 0, 1) := by decide +kernel
theorem dX9_goEvening_1 : decode cX9_goEvening 1 = .ok (.bipush (-6), 2) := by decide +kernel
theorem dX9_goEvening_3 : decode cX9_goEvening 3 = .ok (.putfield 142, 3) := by decide +kernel
theorem dX9_goEvening_6 : decode cX9_goEvening 6 = .ok (.aload_n 0, 1) := by decide +kernel
theorem dX9_goEvening_7 : decode cX9_goEvening 7 = .ok (.bipush (-6), 2) := by decide +kernel
theorem dX9_goEvening_9 : decode cX9_goEvening 9 = .ok (.putfield 145, 3) := by decide +kernel
theorem dX9_goEvening_12 : decode cX9_goEvening 12 = .ok (.aload_n 0, 1) := by decide +kernel
theorem dX9_goEvening_13 : decode cX9_goEvening 13 = .ok (.iconst 0, 1) := by decide +kernel
theorem dX9_goEvening_14 : decode cX9_goEvening 14 = .ok (.putfield 148, 3) := by decide +kernel
theorem dX9_goEvening_17 : decode cX9_goEvening 17 = .ok (.aload_n 0, 1) := by decide +kernel
theorem dX9_goEvening_18 : decode cX9_goEvening 18 = .ok (.iconst 0, 1) := by decide +kernel
theorem dX9_goEvening_19 : decode cX9_goEvening 19 = .ok (.putfield 136, 3) := by decide +kernel
theorem dX9_goEvening_22 : decode cX9_goEvening 22 = .ok (.aload_n 0, 1) := by decide +kernel
theorem dX9_goEvening_23 : decode cX9_goEvening 23 = .ok (.bipush (-6), 2) := by decide +kernel
theorem dX9_goEvening_25 : decode cX9_goEvening 25 = .ok (.putfield 127, 3) := by decide +kernel
theorem dX9_goEvening_28 : decode cX9_goEvening 28 = .ok (.iconst 0, 1) := by decide +kernel
theorem dX9_goEvening_29 : decode cX9_goEvening 29 = .ok (.istore_n 1, 1) := by decide +kernel
theorem dX9_goEvening_30 : decode cX9_goEvening 30 = .ok (.iload_n 1, 1) := by decide +kernel
theorem dX9_goEvening_31 : decode cX9_goEvening 31 = .ok (.bipush 7, 2) := by decide +kernel
theorem dX9_goEvening_33 : decode cX9_goEvening 33 = .ok (.if_icmp .ge 25, 3) := by decide +kernel
theorem dX9_goEvening_36 : decode cX9_goEvening 36 = .ok (.aload_n 0, 1) := by decide +kernel
theorem dX9_goEvening_37 : decode cX9_goEvening 37 = .ok (.getfield 43, 3) := by decide +kernel
theorem dX9_goEvening_40 : decode cX9_goEvening 40 = .ok (.iload_n 1, 1) := by decide +kernel
theorem dX9_goEvening_41 : decode cX9_goEvening 41 = .ok (.bipush (-6), 2) := by decide +kernel
theorem dX9_goEvening_43 : decode cX9_goEvening 43 = .ok (.iastore, 1) := by decide +kernel
theorem dX9_goEvening_44 : decode cX9_goEvening 44 = .ok (.aload_n 0, 1) := by decide +kernel
theorem dX9_goEvening_45 : decode cX9_goEvening 45 = .ok (.getfield 46, 3) := by decide +kernel
theorem dX9_goEvening_48 : decode cX9_goEvening 48 = .ok (.iload_n 1, 1) := by decide +kernel
theorem dX9_goEvening_49 : decode cX9_goEvening 49 = .ok (.bipush (-6), 2) := by decide +kernel
theorem dX9_goEvening_51 : decode cX9_goEvening 51 = .ok (.iastore, 1) := by decide +kernel
theorem dX9_goEvening_52 : decode cX9_goEvening 52 = .ok (.iinc 1 1, 3) := by decide +kernel
theorem dX9_goEvening_55 : decode cX9_goEvening 55 = .ok (.goto (-25), 3) := by decide +kernel
theorem dX9_goEvening_58 : decode cX9_goEvening 58 = .ok (.iconst 0, 1) := by decide +kernel
theorem dX9_goEvening_59 : decode cX9_goEvening 59 = .ok (.istore_n 1, 1) := by decide +kernel
theorem dX9_goEvening_60 : decode cX9_goEvening 60 = .ok (.iload_n 1, 1) := by decide +kernel
theorem dX9_goEvening_61 : decode cX9_goEvening 61 = .ok (.aload_n 0, 1) := by decide +kernel
theorem dX9_goEvening_62 : decode cX9_goEvening 62 = .ok (.getfield 120, 3) := by decide +kernel
theorem dX9_goEvening_65 : decode cX9_goEvening 65 = .ok (.if_icmp .ge 108, 3) := by decide +kernel
theorem dX9_goEvening_68 : decode cX9_goEvening 68 = .ok (.aload_n 0, 1) := by decide +kernel
theorem dX9_goEvening_69 : decode cX9_goEvening 69 = .ok (.getfield 142, 3) := by decide +kernel
theorem dX9_goEvening_72 : decode cX9_goEvening 72 = .ok (.ifCond .ge 101, 3) := by decide +kernel
theorem dX9_goEvening_75 : decode cX9_goEvening 75 = .ok (.aload_n 0, 1) := by decide +kernel
theorem dX9_goEvening_76 : decode cX9_goEvening 76 = .ok (.getfield 40, 3) := by decide +kernel
theorem dX9_goEvening_79 : decode cX9_goEvening 79 = .ok (.iload_n 1, 1) := by decide +kernel
theorem dX9_goEvening_80 : decode cX9_goEvening 80 = .ok (.bipush (-6), 2) := by decide +kernel
theorem dX9_goEvening_82 : decode cX9_goEvening 82 = .ok (.iastore, 1) := by decide +kernel
theorem dX9_goEvening_83 : decode cX9_goEvening 83 = .ok (.aload_n 0, 1) := by decide +kernel
theorem dX9_goEvening_84 : decode cX9_goEvening 84 = .ok (.getfield 31, 3) := by decide +kernel
theorem dX9_goEvening_87 : decode cX9_goEvening 87 = .ok (.iload_n 1, 1) := by decide +kernel
theorem dX9_goEvening_88 : decode cX9_goEvening 88 = .ok (.iaload, 1) := by decide +kernel
theorem dX9_goEvening_89 : decode cX9_goEvening 89 = .ok (.bipush 46, 2) := by decide +kernel
theorem dX9_goEvening_91 : decode cX9_goEvening 91 = .ok (.if_icmp .ne 10, 3) := by decide +kernel
theorem dX9_goEvening_94 : decode cX9_goEvening 94 = .ok (.aload_n 0, 1) := by decide +kernel
theorem dX9_goEvening_95 : decode cX9_goEvening 95 = .ok (.invokevirtual 155, 3) := by decide +kernel
theorem dX9_goEvening_98 : decode cX9_goEvening 98 = .ok (.goto 69, 3) := by decide +kernel
theorem dX9_goEvening_101 : decode cX9_goEvening 101 = .ok (.aload_n 0, 1) := by decide +kernel
theorem dX9_goEvening_102 : decode cX9_goEvening 102 = .ok (.getfield 31, 3) := by decide +kernel
theorem dX9_goEvening_105 : decode cX9_goEvening 105 = .ok (.iload_n 1, 1) := by decide +kernel
theorem dX9_goEvening_106 : decode cX9_goEvening 106 = .ok (.iaload, 1) := by decide +kernel
theorem dX9_goEvening_107 : decode cX9_goEvening 107 = .ok (.i2l, 1) := by decide +kernel
theorem dX9_goEvening_108 : decode cX9_goEvening 108 = .ok (.ldc2_w 158, 3) := by decide +kernel
theorem dX9_goEvening_111 : decode cX9_goEvening 111 = .ok (.ldc2_w 160, 3) := by decide +kernel
theorem dX9_goEvening_114 : decode cX9_goEvening 114 = .ok (.invokestatic 92, 3) := by decide +kernel
theorem dX9_goEvening_117 : decode cX9_goEvening 117 = .ok (.ifCond .eq 36, 3) := by decide +kernel
theorem dX9_goEvening_120 : decode cX9_goEvening 120 = .ok (.aload_n 0, 1) := by decide +kernel
theorem dX9_goEvening_121 : decode cX9_goEvening 121 = .ok (.getfield 31, 3) := by decide +kernel
theorem dX9_goEvening_124 : decode cX9_goEvening 124 = .ok (.iload_n 1, 1) := by decide +kernel
theorem dX9_goEvening_125 : decode cX9_goEvening 125 = .ok (.iaload, 1) := by decide +kernel
theorem dX9_goEvening_126 : decode cX9_goEvening 126 = .ok (.bipush 48, 2) := by decide +kernel
theorem dX9_goEvening_128 : decode cX9_goEvening 128 = .ok (.isub, 1) := by decide +kernel
theorem dX9_goEvening_129 : decode cX9_goEvening 129 = .ok (.istore_n 2, 1) := by decide +kernel
theorem dX9_goEvening_130 : decode cX9_goEvening 130 = .ok (.aload_n 0, 1) := by decide +kernel
theorem dX9_goEvening_131 : decode cX9_goEvening 131 = .ok (.getfield 7, 3) := by decide +kernel
theorem dX9_goEvening_134 : decode cX9_goEvening 134 = .ok (.iconst 3, 1) := by decide +kernel
theorem dX9_goEvening_135 : decode cX9_goEvening 135 = .ok (.iload_n 2, 1) := by decide +kernel
theorem dX9_goEvening_136 : decode cX9_goEvening 136 = .ok (.invokestatic 88, 3) := by decide +kernel
theorem dX9_goEvening_139 : decode cX9_goEvening 139 = .ok (.aload_n 0, 1) := by decide +kernel
theorem dX9_goEvening_140 : decode cX9_goEvening 140 = .ok (.getfield 7, 3) := by decide +kernel
theorem dX9_goEvening_143 : decode cX9_goEvening 143 = .ok (.iconst 1, 1) := by decide +kernel
theorem dX9_goEvening_144 : decode cX9_goEvening 144 = .ok (.iload_n 2, 1) := by decide +kernel
theorem dX9_goEvening_145 : decode cX9_goEvening 145 = .ok (.invokestatic 88, 3) := by decide +kernel
theorem dX9_goEvening_148 : decode cX9_goEvening 148 = .ok (.iaload, 1) := by decide +kernel
theorem dX9_goEvening_149 : decode cX9_goEvening 149 = .ok (.iastore, 1) := by decide +kernel
theorem dX9_goEvening_150 : decode cX9_goEvening 150 = .ok (.goto 17, 3) := by decide +kernel
theorem dX9_goEvening_153 : decode cX9_goEvening 153 = .ok (.aload_n 0, 1) := by decide +kernel
theorem dX9_goEvening_154 : decode cX9_goEvening 154 = .ok (.iload_n 1, 1) := by decide +kernel
theorem dX9_goEvening_155 : decode cX9_goEvening 155 = .ok (.aload_n 0, 1) := by decide +kernel
theorem dX9_goEvening_156 : decode cX9_goEvening 156 = .ok (.getfield 31, 3) := by decide +kernel
theorem dX9_goEvening_159 : decode cX9_goEvening 159 = .ok (.iload_n 1, 1) := by decide +kernel
theorem dX9_goEvening_160 : decode cX9_goEvening 160 = .ok (.iaload, 1) := by decide +kernel
theorem dX9_goEvening_161 : decode cX9_goEvening 161 = .ok (.bipush 65, 2) := by decide +kernel
theorem dX9_goEvening_163 : decode cX9_goEvening 163 = .ok (.isub, 1) := by decide +kernel
theorem dX9_goEvening_164 : decode cX9_goEvening 164 = .ok (.invokevirtual 162, 3) := by decide +kernel
theorem dX9_goEvening_167 : decode cX9_goEvening 167 = .ok (.iinc 1 1, 3) := by decide +kernel
theorem dX9_goEvening_170 : decode cX9_goEvening 170 = .ok (.goto (-110), 3) := by decide +kernel
theorem dX9_goEvening_173 : decode cX9_goEvening 173 = .ok (.return_, 1) := by decide +kernel
theorem dX9_refusal_0 : decode cX9_refusal 0 = .ok (.aload_n 0, 1) := by decide +kernel
theorem dX9_refusal_1 : decode cX9_refusal 1 = .ok (.invokevirtual 165, 3) := by decide +kernel
theorem dX9_refusal_4 : decode cX9_refusal 4 = .ok (.ifCond .lt 6, 3) := by decide +kernel
theorem dX9_refusal_7 : decode cX9_refusal 7 = .ok (.bipush (-5), 2) := by decide +kernel
theorem dX9_refusal_9 : decode cX9_refusal 9 = .ok (.ireturn, 1) := by decide +kernel
theorem dX9_refusal_10 : decode cX9_refusal 10 = .ok (.aload_n 0, 1) := by decide +kernel
theorem dX9_refusal_11 : decode cX9_refusal 11 = .ok (.invokevirtual 169, 3) := by decide +kernel
theorem dX9_refusal_14 : decode cX9_refusal 14 = .ok (.aload_n 0, 1) := by decide +kernel
theorem dX9_refusal_15 : decode cX9_refusal 15 = .ok (.invokevirtual 172, 3) := by decide +kernel
theorem dX9_refusal_18 : decode cX9_refusal 18 = .ok (.iconst 0, 1) := by decide +kernel
theorem dX9_refusal_19 : decode cX9_refusal 19 = .ok (.istore_n 1, 1) := by decide +kernel
theorem dX9_refusal_20 : decode cX9_refusal 20 = .ok (.iload_n 1, 1) := by decide +kernel
theorem dX9_refusal_21 : decode cX9_refusal 21 = .ok (.bipush 7, 2) := by decide +kernel
theorem dX9_refusal_23 : decode cX9_refusal 23 = .ok (.if_icmp .ge 37, 3) := by decide +kernel
theorem dX9_refusal_26 : decode cX9_refusal 26 = .ok (.aload_n 0, 1) := by decide +kernel
theorem dX9_refusal_27 : decode cX9_refusal 27 = .ok (.getfield 49, 3) := by decide +kernel
theorem dX9_refusal_30 : decode cX9_refusal 30 = .ok (.iload_n 1, 1) := by decide +kernel
theorem dX9_refusal_31 : decode cX9_refusal 31 = .ok (.aload_n 0, 1) := by decide +kernel
theorem dX9_refusal_32 : decode cX9_refusal 32 = .ok (.getfield 7, 3) := by decide +kernel
theorem dX9_refusal_35 : decode cX9_refusal 35 = .ok (.iconst 3, 1) := by decide +kernel
theorem dX9_refusal_36 : decode cX9_refusal 36 = .ok (.iload_n 1, 1) := by decide +kernel
theorem dX9_refusal_37 : decode cX9_refusal 37 = .ok (.invokestatic 88, 3) := by decide +kernel
theorem dX9_refusal_40 : decode cX9_refusal 40 = .ok (.iaload, 1) := by decide +kernel
theorem dX9_refusal_41 : decode cX9_refusal 41 = .ok (.iastore, 1) := by decide +kernel
theorem dX9_refusal_42 : decode cX9_refusal 42 = .ok (.aload_n 0, 1) := by decide +kernel
theorem dX9_refusal_43 : decode cX9_refusal 43 = .ok (.getfield 52, 3) := by decide +kernel
theorem dX9_refusal_46 : decode cX9_refusal 46 = .ok (.iload_n 1, 1) := by decide +kernel
theorem dX9_refusal_47 : decode cX9_refusal 47 = .ok (.aload_n 0, 1) := by decide +kernel
theorem dX9_refusal_48 : decode cX9_refusal 48 = .ok (.getfield 13, 3) := by decide +kernel
theorem dX9_refusal_51 : decode cX9_refusal 51 = .ok (.iload_n 1, 1) := by decide +kernel
theorem dX9_refusal_52 : decode cX9_refusal 52 = .ok (.iaload, 1) := by decide +kernel
theorem dX9_refusal_53 : decode cX9_refusal 53 = .ok (.iastore, 1) := by decide +kernel
theorem dX9_refusal_54 : decode cX9_refusal 54 = .ok (.iinc 1 1, 3) := by decide +kernel
theorem dX9_refusal_57 : decode cX9_refusal 57 = .ok (.goto (-37), 3) := by decide +kernel
theorem dX9_refusal_60 : decode cX9_refusal 60 = .ok (.aload_n 0, 1) := by decide +kernel
theorem dX9_refusal_61 : decode cX9_refusal 61 = .ok (.invokevirtual 175, 3) := by decide +kernel
theorem dX9_refusal_64 : decode cX9_refusal 64 = .ok (.aload_n 0, 1) := by decide +kernel
theorem dX9_refusal_65 : decode cX9_refusal 65 = .ok (.getfield 142, 3) := by decide +kernel
theorem dX9_refusal_68 : decode cX9_refusal 68 = .ok (.ifCond .lt 8, 3) := by decide +kernel
theorem dX9_refusal_71 : decode cX9_refusal 71 = .ok (.bipush (-3), 2) := by decide +kernel
theorem dX9_refusal_73 : decode cX9_refusal 73 = .ok (.goto 5, 3) := by decide +kernel
theorem dX9_refusal_76 : decode cX9_refusal 76 = .ok (.bipush (-6), 2) := by decide +kernel
theorem dX9_refusal_78 : decode cX9_refusal 78 = .ok (.ireturn, 1) := by decide +kernel
theorem dX9_judge_0 : decode cX9_judge 0 = .ok (.iload_n 1, 1) := by decide +kernel
theorem dX9_judge_1 : decode cX9_judge 1 = .ok (.i2l, 1) := by decide +kernel
theorem dX9_judge_2 : decode cX9_judge 2 = .ok (.lconst 0, 1) := by decide +kernel
theorem dX9_judge_3 : decode cX9_judge 3 = .ok (.ldc2_w 96, 3) := by decide +kernel
theorem dX9_judge_6 : decode cX9_judge 6 = .ok (.invokestatic 92, 3) := by decide +kernel
theorem dX9_judge_9 : decode cX9_judge 9 = .ok (.ifCond .ne 6, 3) := by decide +kernel
theorem dX9_judge_12 : decode cX9_judge 12 = .ok (.bipush (-2), 2) := by decide +kernel
theorem dX9_judge_14 : decode cX9_judge 14 = .ok (.ireturn, 1) := by decide +kernel
theorem dX9_judge_15 : decode cX9_judge 15 = .ok (.aload_n 0, 1) := by decide +kernel
theorem dX9_judge_16 : decode cX9_judge 16 = .ok (.invokevirtual 178, 3) := by decide +kernel
theorem dX9_judge_19 : decode cX9_judge 19 = .ok (.istore_n 2, 1) := by decide +kernel
theorem dX9_judge_20 : decode cX9_judge 20 = .ok (.iload_n 2, 1) := by decide +kernel
theorem dX9_judge_21 : decode cX9_judge 21 = .ok (.bipush (-5), 2) := by decide +kernel
theorem dX9_judge_23 : decode cX9_judge 23 = .ok (.if_icmp .eq 14, 3) := by decide +kernel
theorem dX9_judge_26 : decode cX9_judge 26 = .ok (.iload_n 1, 1) := by decide +kernel
theorem dX9_judge_27 : decode cX9_judge 27 = .ok (.iconst 1, 1) := by decide +kernel
theorem dX9_judge_28 : decode cX9_judge 28 = .ok (.if_icmp .le 11, 3) := by decide +kernel
theorem dX9_judge_31 : decode cX9_judge 31 = .ok (.iload_n 2, 1) := by decide +kernel
theorem dX9_judge_32 : decode cX9_judge 32 = .ok (.bipush (-3), 2) := by decide +kernel
theorem dX9_judge_34 : decode cX9_judge 34 = .ok (.if_icmp .ne 5, 3) := by decide +kernel
theorem dX9_judge_37 : decode cX9_judge 37 = .ok (.iload_n 2, 1) := by decide +kernel
theorem dX9_judge_38 : decode cX9_judge 38 = .ok (.ireturn, 1) := by decide +kernel
theorem dX9_judge_39 : decode cX9_judge 39 = .ok (.iload_n 1, 1) := by decide +kernel
theorem dX9_judge_40 : decode cX9_judge 40 = .ok (.ifCond .ne 10, 3) := by decide +kernel
theorem dX9_judge_43 : decode cX9_judge 43 = .ok (.aload_n 0, 1) := by decide +kernel
theorem dX9_judge_44 : decode cX9_judge 44 = .ok (.getfield 142, 3) := by decide +kernel
theorem dX9_judge_47 : decode cX9_judge 47 = .ok (.goto 31, 3) := by decide +kernel
theorem dX9_judge_50 : decode cX9_judge 50 = .ok (.iload_n 1, 1) := by decide +kernel
theorem dX9_judge_51 : decode cX9_judge 51 = .ok (.iconst 1, 1) := by decide +kernel
theorem dX9_judge_52 : decode cX9_judge 52 = .ok (.if_icmp .ne 10, 3) := by decide +kernel
