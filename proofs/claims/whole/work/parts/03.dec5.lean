theorem dX5_init_0 : decode cX5_init 0 = .ok (.aload_n 0, 1) := by decide +kernel
theorem dX5_init_1 : decode cX5_init 1 = .ok (.invokespecial 3, 3) := by decide +kernel
theorem dX5_init_4 : decode cX5_init 4 = .ok (.aload_n 0, 1) := by decide +kernel
theorem dX5_init_5 : decode cX5_init 5 = .ok (.bipush 7, 2) := by decide +kernel
theorem dX5_init_7 : decode cX5_init 7 = .ok (.newarray .int, 2) := by decide +kernel
theorem dX5_init_9 : decode cX5_init 9 = .ok (.putfield 9, 3) := by decide +kernel
theorem dX5_init_12 : decode cX5_init 12 = .ok (.aload_n 0, 1) := by decide +kernel
theorem dX5_init_13 : decode cX5_init 13 = .ok (.bipush 6, 2) := by decide +kernel
theorem dX5_init_15 : decode cX5_init 15 = .ok (.newarray .int, 2) := by decide +kernel
theorem dX5_init_17 : decode cX5_init 17 = .ok (.putfield 15, 3) := by decide +kernel
theorem dX5_init_20 : decode cX5_init 20 = .ok (.aload_n 0, 1) := by decide +kernel
theorem dX5_init_21 : decode cX5_init 21 = .ok (.bipush 7, 2) := by decide +kernel
theorem dX5_init_23 : decode cX5_init 23 = .ok (.newarray .int, 2) := by decide +kernel
theorem dX5_init_25 : decode cX5_init 25 = .ok (.putfield 18, 3) := by decide +kernel
theorem dX5_init_28 : decode cX5_init 28 = .ok (.aload_n 0, 1) := by decide +kernel
theorem dX5_init_29 : decode cX5_init 29 = .ok (.bipush 6, 2) := by decide +kernel
theorem dX5_init_31 : decode cX5_init 31 = .ok (.newarray .int, 2) := by decide +kernel
theorem dX5_init_33 : decode cX5_init 33 = .ok (.putfield 21, 3) := by decide +kernel
theorem dX5_init_36 : decode cX5_init 36 = .ok (.aload_n 0, 1) := by decide +kernel
theorem dX5_init_37 : decode cX5_init 37 = .ok (.bipush 7, 2) := by decide +kernel
theorem dX5_init_39 : decode cX5_init 39 = .ok (.newarray .int, 2) := by decide +kernel
theorem dX5_init_41 : decode cX5_init 41 = .ok (.putfield 24, 3) := by decide +kernel
theorem dX5_init_44 : decode cX5_init 44 = .ok (.aload_n 0, 1) := by decide +kernel
theorem dX5_init_45 : decode cX5_init 45 = .ok (.bipush 7, 2) := by decide +kernel
theorem dX5_init_47 : decode cX5_init 47 = .ok (.bipush 10, 2) := by decide +kernel
theorem dX5_init_49 : decode cX5_init 49 = .ok (.multianewarray 27 2, 4) := by decide +kernel
theorem dX5_init_53 : decode cX5_init 53 = .ok (.putfield 29, 3) := by decide +kernel
theorem dX5_init_56 : decode cX5_init 56 = .ok (.aload_n 0, 1) := by decide +kernel
theorem dX5_init_57 : decode cX5_init 57 = .ok (.aload_n 1, 1) := by decide +kernel
theorem dX5_init_58 : decode cX5_init 58 = .ok (.putfield 32, 3) := by decide +kernel
theorem dX5_init_61 : decode cX5_init 61 = .ok (.aload_n 0, 1) := by decide +kernel
theorem dX5_init_62 : decode cX5_init 62 = .ok (.aload_n 2, 1) := by decide +kernel
theorem dX5_init_63 : decode cX5_init 63 = .ok (.putfield 36, 3) := by decide +kernel
theorem dX5_init_66 : decode cX5_init 66 = .ok (.return_, 1) := by decide +kernel
theorem dX5_gather_0 : decode cX5_gather 0 = .ok (.aload_n 1, 1) := by decide +kernel
theorem dX5_gather_1 : decode cX5_gather 1 = .ok (.iconst 0, 1) := by decide +kernel
theorem dX5_gather_2 : decode cX5_gather 2 = .ok (.aload_n 0, 1) := by decide +kernel
theorem dX5_gather_3 : decode cX5_gather 3 = .ok (.getfield 9, 3) := by decide +kernel
theorem dX5_gather_6 : decode cX5_gather 6 = .ok (.iconst 0, 1) := by decide +kernel
theorem dX5_gather_7 : decode cX5_gather 7 = .ok (.bipush 7, 2) := by decide +kernel
theorem dX5_gather_9 : decode cX5_gather 9 = .ok (.invokestatic 40, 3) := by decide +kernel
theorem dX5_gather_12 : decode cX5_gather 12 = .ok (.aload_n 0, 1) := by decide +kernel
theorem dX5_gather_13 : decode cX5_gather 13 = .ok (.getfield 18, 3) := by decide +kernel
theorem dX5_gather_16 : decode cX5_gather 16 = .ok (.bipush (-6), 2) := by decide +kernel
theorem dX5_gather_18 : decode cX5_gather 18 = .ok (.invokestatic 46, 3) := by decide +kernel
theorem dX5_gather_21 : decode cX5_gather 21 = .ok (.aload_n 0, 1) := by decide +kernel
theorem dX5_gather_22 : decode cX5_gather 22 = .ok (.getfield 24, 3) := by decide +kernel
theorem dX5_gather_25 : decode cX5_gather 25 = .ok (.iconst 0, 1) := by decide +kernel
theorem dX5_gather_26 : decode cX5_gather 26 = .ok (.invokestatic 46, 3) := by decide +kernel
theorem dX5_gather_29 : decode cX5_gather 29 = .ok (.iconst 0, 1) := by decide +kernel
theorem dX5_gather_30 : decode cX5_gather 30 = .ok (.istore_n 3, 1) := by decide +kernel
theorem dX5_gather_31 : decode cX5_gather 31 = .ok (.iload_n 3, 1) := by decide +kernel
theorem dX5_gather_32 : decode cX5_gather 32 = .ok (.bipush 7, 2) := by decide +kernel
theorem dX5_gather_34 : decode cX5_gather 34 = .ok (.if_icmp .ge 19, 3) := by decide +kernel
theorem dX5_gather_37 : decode cX5_gather 37 = .ok (.aload_n 0, 1) := by decide +kernel
theorem dX5_gather_38 : decode cX5_gather 38 = .ok (.getfield 29, 3) := by decide +kernel
theorem dX5_gather_41 : decode cX5_gather 41 = .ok (.iload_n 3, 1) := by decide +kernel
theorem dX5_gather_42 : decode cX5_gather 42 = .ok (.aaload, 1) := by decide +kernel
theorem dX5_gather_43 : decode cX5_gather 43 = .ok (.iconst 0, 1) := by decide +kernel
theorem dX5_gather_44 : decode cX5_gather 44 = .ok (.invokestatic 46, 3) := by decide +kernel
theorem dX5_gather_47 : decode cX5_gather 47 = .ok (.iinc 3 1, 3) := by decide +kernel
theorem dX5_gather_50 : decode cX5_gather 50 = .ok (.goto (-19), 3) := by decide +kernel
theorem dX5_gather_53 : decode cX5_gather 53 = .ok (.aload_n 0, 1) := by decide +kernel
theorem dX5_gather_54 : decode cX5_gather 54 = .ok (.iconst 0, 1) := by decide +kernel
theorem dX5_gather_55 : decode cX5_gather 55 = .ok (.putfield 52, 3) := by decide +kernel
theorem dX5_gather_58 : decode cX5_gather 58 = .ok (.aload_n 0, 1) := by decide +kernel
theorem dX5_gather_59 : decode cX5_gather 59 = .ok (.bipush (-6), 2) := by decide +kernel
theorem dX5_gather_61 : decode cX5_gather 61 = .ok (.putfield 56, 3) := by decide +kernel
theorem dX5_gather_64 : decode cX5_gather 64 = .ok (.aload_n 0, 1) := by decide +kernel
theorem dX5_gather_65 : decode cX5_gather 65 = .ok (.iconst 0, 1) := by decide +kernel
theorem dX5_gather_66 : decode cX5_gather 66 = .ok (.putfield 59, 3) := by decide +kernel
theorem dX5_gather_69 : decode cX5_gather 69 = .ok (.aload_n 0, 1) := by decide +kernel
theorem dX5_gather_70 : decode cX5_gather 70 = .ok (.iconst 0, 1) := by decide +kernel
theorem dX5_gather_71 : decode cX5_gather 71 = .ok (.putfield 62, 3) := by decide +kernel
theorem dX5_gather_74 : decode cX5_gather 74 = .ok (.aload_n 0, 1) := by decide +kernel
theorem dX5_gather_75 : decode cX5_gather 75 = .ok (.getfield 36, 3) := by decide +kernel
theorem dX5_gather_78 : decode cX5_gather 78 = .ok (.invokevirtual 65, 3) := by decide +kernel
theorem dX5_gather_81 : decode cX5_gather 81 = .ok (.aload_n 0, 1) := by decide +kernel
theorem dX5_gather_82 : decode cX5_gather 82 = .ok (.iconst 0, 1) := by decide +kernel
theorem dX5_gather_83 : decode cX5_gather 83 = .ok (.iconst 0, 1) := by decide +kernel
theorem dX5_gather_84 : decode cX5_gather 84 = .ok (.iload_n 2, 1) := by decide +kernel
theorem dX5_gather_85 : decode cX5_gather 85 = .ok (.bipush 6, 2) := by decide +kernel
theorem dX5_gather_87 : decode cX5_gather 87 = .ok (.invokestatic 70, 3) := by decide +kernel
theorem dX5_gather_90 : decode cX5_gather 90 = .ok (.invokevirtual 76, 3) := by decide +kernel
theorem dX5_gather_93 : decode cX5_gather 93 = .ok (.return_, 1) := by decide +kernel
theorem dX5_walk_0 : decode cX5_walk 0 = .ok (.aload_n 0, 1) := by decide +kernel
theorem dX5_walk_1 : decode cX5_walk 1 = .ok (.getfield 36, 3) := by decide +kernel
theorem dX5_walk_4 : decode cX5_walk 4 = .ok (.aload_n 0, 1) := by decide +kernel
theorem dX5_walk_5 : decode cX5_walk 5 = .ok (.getfield 9, 3) := by decide +kernel
theorem dX5_walk_8 : decode cX5_walk 8 = .ok (.invokevirtual 80, 3) := by decide +kernel
theorem dX5_walk_11 : decode cX5_walk 11 = .ok (.istore 4, 2) := by decide +kernel
theorem dX5_walk_13 : decode cX5_walk 13 = .ok (.iload 4, 2) := by decide +kernel
theorem dX5_walk_15 : decode cX5_walk 15 = .ok (.ifCond .ne 9, 3) := by decide +kernel
theorem dX5_walk_18 : decode cX5_walk 18 = .ok (.aload_n 0, 1) := by decide +kernel
theorem dX5_walk_19 : decode cX5_walk 19 = .ok (.iload_n 1, 1) := by decide +kernel
theorem dX5_walk_20 : decode cX5_walk 20 = .ok (.iload_n 2, 1) := by decide +kernel
theorem dX5_walk_21 : decode cX5_walk 21 = .ok (.invokevirtual 84, 3) := by decide +kernel
theorem dX5_walk_24 : decode cX5_walk 24 = .ok (.iload 4, 2) := by decide +kernel
theorem dX5_walk_26 : decode cX5_walk 26 = .ok (.bipush (-6), 2) := by decide +kernel
theorem dX5_walk_28 : decode cX5_walk 28 = .ok (.if_icmp .eq 8, 3) := by decide +kernel
theorem dX5_walk_31 : decode cX5_walk 31 = .ok (.iload_n 1, 1) := by decide +kernel
theorem dX5_walk_32 : decode cX5_walk 32 = .ok (.iload_n 3, 1) := by decide +kernel
theorem dX5_walk_33 : decode cX5_walk 33 = .ok (.if_icmp .lt 4, 3) := by decide +kernel
theorem dX5_walk_36 : decode cX5_walk 36 = .ok (.return_, 1) := by decide +kernel
theorem dX5_walk_37 : decode cX5_walk 37 = .ok (.iconst 0, 1) := by decide +kernel
theorem dX5_walk_38 : decode cX5_walk 38 = .ok (.istore 5, 2) := by decide +kernel
theorem dX5_walk_40 : decode cX5_walk 40 = .ok (.iload 5, 2) := by decide +kernel
theorem dX5_walk_42 : decode cX5_walk 42 = .ok (.iconst 4, 1) := by decide +kernel
theorem dX5_walk_43 : decode cX5_walk 43 = .ok (.if_icmp .ge 151, 3) := by decide +kernel
theorem dX5_walk_46 : decode cX5_walk 46 = .ok (.aload_n 0, 1) := by decide +kernel
theorem dX5_walk_47 : decode cX5_walk 47 = .ok (.getfield 32, 3) := by decide +kernel
theorem dX5_walk_50 : decode cX5_walk 50 = .ok (.iload 5, 2) := by decide +kernel
theorem dX5_walk_52 : decode cX5_walk 52 = .ok (.invokevirtual 88, 3) := by decide +kernel
theorem dX5_walk_55 : decode cX5_walk 55 = .ok (.ifCond .eq 15, 3) := by decide +kernel
theorem dX5_walk_58 : decode cX5_walk 58 = .ok (.aload_n 0, 1) := by decide +kernel
theorem dX5_walk_59 : decode cX5_walk 59 = .ok (.getfield 36, 3) := by decide +kernel
theorem dX5_walk_62 : decode cX5_walk 62 = .ok (.iload 5, 2) := by decide +kernel
theorem dX5_walk_64 : decode cX5_walk 64 = .ok (.invokevirtual 94, 3) := by decide +kernel
theorem dX5_walk_67 : decode cX5_walk 67 = .ok (.goto 5, 3) := by decide +kernel
theorem dX5_walk_70 : decode cX5_walk 70 = .ok (.bipush (-6), 2) := by decide +kernel
theorem dX5_walk_72 : decode cX5_walk 72 = .ok (.istore 6, 2) := by decide +kernel
theorem dX5_walk_74 : decode cX5_walk 74 = .ok (.iload 6, 2) := by decide +kernel
theorem dX5_walk_76 : decode cX5_walk 76 = .ok (.bipush (-6), 2) := by decide +kernel
theorem dX5_walk_78 : decode cX5_walk 78 = .ok (.if_icmp .ne 6, 3) := by decide +kernel
theorem dX5_walk_81 : decode cX5_walk 81 = .ok (.goto 107, 3) := by decide +kernel
theorem dX5_walk_84 : decode cX5_walk 84 = .ok (.aload_n 0, 1) := by decide +kernel
theorem dX5_walk_85 : decode cX5_walk 85 = .ok (.getfield 36, 3) := by decide +kernel
theorem dX5_walk_88 : decode cX5_walk 88 = .ok (.getfield 98, 3) := by decide +kernel
theorem dX5_walk_91 : decode cX5_walk 91 = .ok (.istore 7, 2) := by decide +kernel
theorem dX5_walk_93 : decode cX5_walk 93 = .ok (.aload_n 0, 1) := by decide +kernel
theorem dX5_walk_94 : decode cX5_walk 94 = .ok (.getfield 36, 3) := by decide +kernel
theorem dX5_walk_97 : decode cX5_walk 97 = .ok (.iload 5, 2) := by decide +kernel
theorem dX5_walk_99 : decode cX5_walk 99 = .ok (.iload 6, 2) := by decide +kernel
theorem dX5_walk_101 : decode cX5_walk 101 = .ok (.invokevirtual 101, 3) := by decide +kernel
theorem dX5_walk_104 : decode cX5_walk 104 = .ok (.istore 8, 2) := by decide +kernel
theorem dX5_walk_106 : decode cX5_walk 106 = .ok (.aload_n 0, 1) := by decide +kernel
theorem dX5_walk_107 : decode cX5_walk 107 = .ok (.getfield 18, 3) := by decide +kernel
theorem dX5_walk_110 : decode cX5_walk 110 = .ok (.iload 6, 2) := by decide +kernel
theorem dX5_walk_112 : decode cX5_walk 112 = .ok (.iaload, 1) := by decide +kernel
theorem dX5_walk_113 : decode cX5_walk 113 = .ok (.bipush (-6), 2) := by decide +kernel
theorem dX5_walk_115 : decode cX5_walk 115 = .ok (.if_icmp .ne 7, 3) := by decide +kernel
theorem dX5_walk_118 : decode cX5_walk 118 = .ok (.iconst 1, 1) := by decide +kernel
theorem dX5_walk_119 : decode cX5_walk 119 = .ok (.goto 4, 3) := by decide +kernel
theorem dX5_walk_122 : decode cX5_walk 122 = .ok (.iconst 0, 1) := by decide +kernel
theorem dX5_walk_123 : decode cX5_walk 123 = .ok (.istore 9, 2) := by decide +kernel
theorem dX5_walk_125 : decode cX5_walk 125 = .ok (.iload 9, 2) := by decide +kernel
theorem dX5_walk_127 : decode cX5_walk 127 = .ok (.ifCond .eq 12, 3) := by decide +kernel
theorem dX5_walk_130 : decode cX5_walk 130 = .ok (.aload_n 0, 1) := by decide +kernel
theorem dX5_walk_131 : decode cX5_walk 131 = .ok (.getfield 18, 3) := by decide +kernel
theorem dX5_walk_134 : decode cX5_walk 134 = .ok (.iload 6, 2) := by decide +kernel
theorem dX5_walk_136 : decode cX5_walk 136 = .ok (.iload 5, 2) := by decide +kernel
theorem dX5_walk_138 : decode cX5_walk 138 = .ok (.iastore, 1) := by decide +kernel
theorem dX5_walk_139 : decode cX5_walk 139 = .ok (.aload_n 0, 1) := by decide +kernel
theorem dX5_walk_140 : decode cX5_walk 140 = .ok (.getfield 15, 3) := by decide +kernel
theorem dX5_walk_143 : decode cX5_walk 143 = .ok (.iload_n 1, 1) := by decide +kernel
theorem dX5_walk_144 : decode cX5_walk 144 = .ok (.iload 5, 2) := by decide +kernel
theorem dX5_walk_146 : decode cX5_walk 146 = .ok (.iastore, 1) := by decide +kernel
theorem dX5_walk_147 : decode cX5_walk 147 = .ok (.aload_n 0, 1) := by decide +kernel
theorem dX5_walk_148 : decode cX5_walk 148 = .ok (.iload_n 1, 1) := by decide +kernel
theorem dX5_walk_149 : decode cX5_walk 149 = .ok (.iconst 1, 1) := by decide +kernel
theorem dX5_walk_150 : decode cX5_walk 150 = .ok (.iadd, 1) := by decide +kernel
theorem dX5_walk_151 : decode cX5_walk 151 = .ok (.iload_n 2, 1) := by decide +kernel
theorem dX5_walk_152 : decode cX5_walk 152 = .ok (.iconst 1, 1) := by decide +kernel
theorem dX5_walk_153 : decode cX5_walk 153 = .ok (.iload 5, 2) := by decide +kernel
theorem dX5_walk_155 : decode cX5_walk 155 = .ok (.ishl, 1) := by decide +kernel
theorem dX5_walk_156 : decode cX5_walk 156 = .ok (.ior, 1) := by decide +kernel
theorem dX5_walk_157 : decode cX5_walk 157 = .ok (.iload_n 3, 1) := by decide +kernel
theorem dX5_walk_158 : decode cX5_walk 158 = .ok (.invokevirtual 76, 3) := by decide +kernel
theorem dX5_walk_161 : decode cX5_walk 161 = .ok (.iload 9, 2) := by decide +kernel
theorem dX5_walk_163 : decode cX5_walk 163 = .ok (.ifCond .eq 12, 3) := by decide +kernel
theorem dX5_walk_166 : decode cX5_walk 166 = .ok (.aload_n 0, 1) := by decide +kernel
theorem dX5_walk_167 : decode cX5_walk 167 = .ok (.getfield 18, 3) := by decide +kernel
theorem dX5_walk_170 : decode cX5_walk 170 = .ok (.iload 6, 2) := by decide +kernel
theorem dX5_walk_172 : decode cX5_walk 172 = .ok (.bipush (-6), 2) := by decide +kernel
theorem dX5_walk_174 : decode cX5_walk 174 = .ok (.iastore, 1) := by decide +kernel
theorem dX5_walk_175 : decode cX5_walk 175 = .ok (.aload_n 0, 1) := by decide +kernel
theorem dX5_walk_176 : decode cX5_walk 176 = .ok (.getfield 36, 3) := by decide +kernel
theorem dX5_walk_179 : decode cX5_walk 179 = .ok (.iload 6, 2) := by decide +kernel
theorem dX5_walk_181 : decode cX5_walk 181 = .ok (.iload 8, 2) := by decide +kernel
theorem dX5_walk_183 : decode cX5_walk 183 = .ok (.iload 7, 2) := by decide +kernel
theorem dX5_walk_185 : decode cX5_walk 185 = .ok (.invokevirtual 104, 3) := by decide +kernel
theorem dX5_walk_188 : decode cX5_walk 188 = .ok (.iinc 5 1, 3) := by decide +kernel
theorem dX5_walk_191 : decode cX5_walk 191 = .ok (.goto (-151), 3) := by decide +kernel
theorem dX5_walk_194 : decode cX5_walk 194 = .ok (.return_, 1) := by decide +kernel
theorem dX5_note_0 : decode cX5_note 0 = .ok (.aload_n 0, 1) := by decide +kernel
theorem dX5_note_1 : decode cX5_note 1 = .ok (.aload_n 0, 1) := by decide +kernel
theorem dX5_note_2 : decode cX5_note 2 = .ok (.getfield 52, 3) := by decide +kernel
theorem dX5_note_5 : decode cX5_note 5 = .ok (.ifCond .ne 7, 3) := by decide +kernel
theorem dX5_note_8 : decode cX5_note 8 = .ok (.iload_n 2, 1) := by decide +kernel
theorem dX5_note_9 : decode cX5_note 9 = .ok (.goto 9, 3) := by decide +kernel
theorem dX5_note_12 : decode cX5_note 12 = .ok (.aload_n 0, 1) := by decide +kernel
theorem dX5_note_13 : decode cX5_note 13 = .ok (.getfield 59, 3) := by decide +kernel
theorem dX5_note_16 : decode cX5_note 16 = .ok (.iload_n 2, 1) := by decide +kernel
theorem dX5_note_17 : decode cX5_note 17 = .ok (.iand, 1) := by decide +kernel
theorem dX5_note_18 : decode cX5_note 18 = .ok (.putfield 59, 3) := by decide +kernel
theorem dX5_note_21 : decode cX5_note 21 = .ok (.aload_n 0, 1) := by decide +kernel
theorem dX5_note_22 : decode cX5_note 22 = .ok (.dup, 1) := by decide +kernel
theorem dX5_note_23 : decode cX5_note 23 = .ok (.getfield 62, 3) := by decide +kernel
theorem dX5_note_26 : decode cX5_note 26 = .ok (.iload_n 2, 1) := by decide +kernel
theorem dX5_note_27 : decode cX5_note 27 = .ok (.ior, 1) := by decide +kernel
theorem dX5_note_28 : decode cX5_note 28 = .ok (.putfield 62, 3) := by decide +kernel
theorem dX5_note_31 : decode cX5_note 31 = .ok (.aload_n 0, 1) := by decide +kernel
theorem dX5_note_32 : decode cX5_note 32 = .ok (.getfield 52, 3) := by decide +kernel
theorem dX5_note_35 : decode cX5_note 35 = .ok (.ifCond .eq 11, 3) := by decide +kernel
theorem dX5_note_38 : decode cX5_note 38 = .ok (.iload_n 1, 1) := by decide +kernel
theorem dX5_note_39 : decode cX5_note 39 = .ok (.aload_n 0, 1) := by decide +kernel
theorem dX5_note_40 : decode cX5_note 40 = .ok (.getfield 56, 3) := by decide +kernel
theorem dX5_note_43 : decode cX5_note 43 = .ok (.if_icmp .ge 22, 3) := by decide +kernel
theorem dX5_note_46 : decode cX5_note 46 = .ok (.aload_n 0, 1) := by decide +kernel
theorem dX5_note_47 : decode cX5_note 47 = .ok (.iload_n 1, 1) := by decide +kernel
theorem dX5_note_48 : decode cX5_note 48 = .ok (.putfield 56, 3) := by decide +kernel
theorem dX5_note_51 : decode cX5_note 51 = .ok (.aload_n 0, 1) := by decide +kernel
theorem dX5_note_52 : decode cX5_note 52 = .ok (.getfield 15, 3) := by decide +kernel
theorem dX5_note_55 : decode cX5_note 55 = .ok (.iconst 0, 1) := by decide +kernel
theorem dX5_note_56 : decode cX5_note 56 = .ok (.aload_n 0, 1) := by decide +kernel
theorem dX5_note_57 : decode cX5_note 57 = .ok (.getfield 21, 3) := by decide +kernel
theorem dX5_note_60 : decode cX5_note 60 = .ok (.iconst 0, 1) := by decide +kernel
theorem dX5_note_61 : decode cX5_note 61 = .ok (.iload_n 1, 1) := by decide +kernel
theorem dX5_note_62 : decode cX5_note 62 = .ok (.invokestatic 40, 3) := by decide +kernel
theorem dX5_note_65 : decode cX5_note 65 = .ok (.aload_n 0, 1) := by decide +kernel
theorem dX5_note_66 : decode cX5_note 66 = .ok (.dup, 1) := by decide +kernel
theorem dX5_note_67 : decode cX5_note 67 = .ok (.getfield 52, 3) := by decide +kernel
theorem dX5_note_70 : decode cX5_note 70 = .ok (.iconst 1, 1) := by decide +kernel
theorem dX5_note_71 : decode cX5_note 71 = .ok (.iadd, 1) := by decide +kernel
theorem dX5_note_72 : decode cX5_note 72 = .ok (.putfield 52, 3) := by decide +kernel
theorem dX5_note_75 : decode cX5_note 75 = .ok (.iconst 0, 1) := by decide +kernel
theorem dX5_note_76 : decode cX5_note 76 = .ok (.istore_n 3, 1) := by decide +kernel
theorem dX5_note_77 : decode cX5_note 77 = .ok (.iload_n 3, 1) := by decide +kernel
theorem dX5_note_78 : decode cX5_note 78 = .ok (.aload_n 0, 1) := by decide +kernel
theorem dX5_note_79 : decode cX5_note 79 = .ok (.getfield 32, 3) := by decide +kernel
theorem dX5_note_82 : decode cX5_note 82 = .ok (.getfield 107, 3) := by decide +kernel
theorem dX5_note_85 : decode cX5_note 85 = .ok (.if_icmp .ge 62, 3) := by decide +kernel
theorem dX5_note_88 : decode cX5_note 88 = .ok (.aload_n 0, 1) := by decide +kernel
theorem dX5_note_89 : decode cX5_note 89 = .ok (.getfield 24, 3) := by decide +kernel
theorem dX5_note_92 : decode cX5_note 92 = .ok (.iload_n 3, 1) := by decide +kernel
theorem dX5_note_93 : decode cX5_note 93 = .ok (.dup2, 1) := by decide +kernel
theorem dX5_note_94 : decode cX5_note 94 = .ok (.iaload, 1) := by decide +kernel
theorem dX5_note_95 : decode cX5_note 95 = .ok (.aload_n 0, 1) := by decide +kernel
theorem dX5_note_96 : decode cX5_note 96 = .ok (.getfield 18, 3) := by decide +kernel
theorem dX5_note_99 : decode cX5_note 99 = .ok (.iload_n 3, 1) := by decide +kernel
theorem dX5_note_100 : decode cX5_note 100 = .ok (.iaload, 1) := by decide +kernel
theorem dX5_note_101 : decode cX5_note 101 = .ok (.bipush (-6), 2) := by decide +kernel
theorem dX5_note_103 : decode cX5_note 103 = .ok (.if_icmp .ne 8, 3) := by decide +kernel
theorem dX5_note_106 : decode cX5_note 106 = .ok (.bipush 16, 2) := by decide +kernel
theorem dX5_note_108 : decode cX5_note 108 = .ok (.goto 11, 3) := by decide +kernel
theorem dX5_note_111 : decode cX5_note 111 = .ok (.iconst 1, 1) := by decide +kernel
theorem dX5_note_112 : decode cX5_note 112 = .ok (.aload_n 0, 1) := by decide +kernel
theorem dX5_note_113 : decode cX5_note 113 = .ok (.getfield 18, 3) := by decide +kernel
theorem dX5_note_116 : decode cX5_note 116 = .ok (.iload_n 3, 1) := by decide +kernel
theorem dX5_note_117 : decode cX5_note 117 = .ok (.iaload, 1) := by decide +kernel
theorem dX5_note_118 : decode cX5_note 118 = .ok (.ishl, 1) := by decide +kernel
theorem dX5_note_119 : decode cX5_note 119 = .ok (.ior, 1) := by decide +kernel
theorem dX5_note_120 : decode cX5_note 120 = .ok (.iastore, 1) := by decide +kernel
theorem dX5_note_121 : decode cX5_note 121 = .ok (.aload_n 0, 1) := by decide +kernel
theorem dX5_note_122 : decode cX5_note 122 = .ok (.getfield 29, 3) := by decide +kernel
theorem dX5_note_125 : decode cX5_note 125 = .ok (.iload_n 3, 1) := by decide +kernel
theorem dX5_note_126 : decode cX5_note 126 = .ok (.aaload, 1) := by decide +kernel
theorem dX5_note_127 : decode cX5_note 127 = .ok (.aload_n 0, 1) := by decide +kernel
theorem dX5_note_128 : decode cX5_note 128 = .ok (.getfield 36, 3) := by decide +kernel
theorem dX5_note_131 : decode cX5_note 131 = .ok (.getfield 110, 3) := by decide +kernel
theorem dX5_note_134 : decode cX5_note 134 = .ok (.iload_n 3, 1) := by decide +kernel
theorem dX5_note_135 : decode cX5_note 135 = .ok (.iaload, 1) := by decide +kernel
theorem dX5_note_136 : decode cX5_note 136 = .ok (.dup2, 1) := by decide +kernel
theorem dX5_note_137 : decode cX5_note 137 = .ok (.iaload, 1) := by decide +kernel
theorem dX5_note_138 : decode cX5_note 138 = .ok (.iconst 1, 1) := by decide +kernel
theorem dX5_note_139 : decode cX5_note 139 = .ok (.iadd, 1) := by decide +kernel
theorem dX5_note_140 : decode cX5_note 140 = .ok (.iastore, 1) := by decide +kernel
theorem dX5_note_141 : decode cX5_note 141 = .ok (.iinc 3 1, 3) := by decide +kernel
theorem dX5_note_144 : decode cX5_note 144 = .ok (.goto (-67), 3) := by decide +kernel
theorem dX5_note_147 : decode cX5_note 147 = .ok (.return_, 1) := by decide +kernel
theorem dX5_atPlace_0 : decode cX5_atPlace 0 = .ok (.iload_n 1, 1) := by decide +kernel
theorem dX5_atPlace_1 : decode cX5_atPlace 1 = .ok (.ifCond .lt 26, 3) := by decide +kernel
theorem dX5_atPlace_4 : decode cX5_atPlace 4 = .ok (.iload_n 1, 1) := by decide +kernel
theorem dX5_atPlace_5 : decode cX5_atPlace 5 = .ok (.aload_n 0, 1) := by decide +kernel
theorem dX5_atPlace_6 : decode cX5_atPlace 6 = .ok (.getfield 56, 3) := by decide +kernel
theorem dX5_atPlace_9 : decode cX5_atPlace 9 = .ok (.if_icmp .ge 18, 3) := by decide +kernel
theorem dX5_atPlace_12 : decode cX5_atPlace 12 = .ok (.iload_n 1, 1) := by decide +kernel
theorem dX5_atPlace_13 : decode cX5_atPlace 13 = .ok (.bipush 6, 2) := by decide +kernel
theorem dX5_atPlace_15 : decode cX5_atPlace 15 = .ok (.if_icmp .ge 12, 3) := by decide +kernel
theorem dX5_atPlace_18 : decode cX5_atPlace 18 = .ok (.aload_n 0, 1) := by decide +kernel
theorem dX5_atPlace_19 : decode cX5_atPlace 19 = .ok (.getfield 21, 3) := by decide +kernel
theorem dX5_atPlace_22 : decode cX5_atPlace 22 = .ok (.iload_n 1, 1) := by decide +kernel
theorem dX5_atPlace_23 : decode cX5_atPlace 23 = .ok (.iaload, 1) := by decide +kernel
theorem dX5_atPlace_24 : decode cX5_atPlace 24 = .ok (.goto 5, 3) := by decide +kernel
theorem dX5_atPlace_27 : decode cX5_atPlace 27 = .ok (.bipush (-6), 2) := by decide +kernel
theorem dX5_atPlace_29 : decode cX5_atPlace 29 = .ok (.ireturn, 1) := by decide +kernel
theorem dX5_bestToLookAt_0 : decode cX5_bestToLookAt 0 = .ok (.aload_n 0, 1) := by decide +kernel
theorem dX5_bestToLookAt_1 : decode cX5_bestToLookAt 1 = .ok (.getfield 52, 3) := by decide +kernel
theorem dX5_bestToLookAt_4 : decode cX5_bestToLookAt 4 = .ok (.ifCond .ne 6, 3) := by decide +kernel
theorem dX5_bestToLookAt_7 : decode cX5_bestToLookAt 7 = .ok (.bipush (-6), 2) := by decide +kernel
theorem dX5_bestToLookAt_9 : decode cX5_bestToLookAt 9 = .ok (.ireturn, 1) := by decide +kernel
theorem dX5_bestToLookAt_10 : decode cX5_bestToLookAt 10 = .ok (.bipush (-6), 2) := by decide +kernel
theorem dX5_bestToLookAt_12 : decode cX5_bestToLookAt 12 = .ok (.istore_n 1, 1) := by decide +kernel
theorem dX5_bestToLookAt_13 : decode cX5_bestToLookAt 13 = .ok (.iconst 0, 1) := by decide +kernel
theorem dX5_bestToLookAt_14 : decode cX5_bestToLookAt 14 = .ok (.istore_n 2, 1) := by decide +kernel
theorem dX5_bestToLookAt_15 : decode cX5_bestToLookAt 15 = .ok (.iconst 0, 1) := by decide +kernel
theorem dX5_bestToLookAt_16 : decode cX5_bestToLookAt 16 = .ok (.istore_n 3, 1) := by decide +kernel
theorem dX5_bestToLookAt_17 : decode cX5_bestToLookAt 17 = .ok (.iload_n 3, 1) := by decide +kernel
theorem dX5_bestToLookAt_18 : decode cX5_bestToLookAt 18 = .ok (.aload_n 0, 1) := by decide +kernel
theorem dX5_bestToLookAt_19 : decode cX5_bestToLookAt 19 = .ok (.getfield 32, 3) := by decide +kernel
theorem dX5_bestToLookAt_22 : decode cX5_bestToLookAt 22 = .ok (.getfield 107, 3) := by decide +kernel
theorem dX5_bestToLookAt_25 : decode cX5_bestToLookAt 25 = .ok (.if_icmp .ge 47, 3) := by decide +kernel
theorem dX5_bestToLookAt_28 : decode cX5_bestToLookAt 28 = .ok (.aload_n 0, 1) := by decide +kernel
theorem dX5_bestToLookAt_29 : decode cX5_bestToLookAt 29 = .ok (.getfield 9, 3) := by decide +kernel
theorem dX5_bestToLookAt_32 : decode cX5_bestToLookAt 32 = .ok (.iload_n 3, 1) := by decide +kernel
theorem dX5_bestToLookAt_33 : decode cX5_bestToLookAt 33 = .ok (.iaload, 1) := by decide +kernel
theorem dX5_bestToLookAt_34 : decode cX5_bestToLookAt 34 = .ok (.bipush (-6), 2) := by decide +kernel
theorem dX5_bestToLookAt_36 : decode cX5_bestToLookAt 36 = .ok (.if_icmp .eq 6, 3) := by decide +kernel
theorem dX5_bestToLookAt_39 : decode cX5_bestToLookAt 39 = .ok (.goto 27, 3) := by decide +kernel
theorem dX5_bestToLookAt_42 : decode cX5_bestToLookAt 42 = .ok (.aload_n 0, 1) := by decide +kernel
theorem dX5_bestToLookAt_43 : decode cX5_bestToLookAt 43 = .ok (.iload_n 3, 1) := by decide +kernel
theorem dX5_bestToLookAt_44 : decode cX5_bestToLookAt 44 = .ok (.invokevirtual 113, 3) := by decide +kernel
theorem dX5_bestToLookAt_47 : decode cX5_bestToLookAt 47 = .ok (.istore 4, 2) := by decide +kernel
theorem dX5_bestToLookAt_49 : decode cX5_bestToLookAt 49 = .ok (.iload_n 1, 1) := by decide +kernel
theorem dX5_bestToLookAt_50 : decode cX5_bestToLookAt 50 = .ok (.bipush (-6), 2) := by decide +kernel
theorem dX5_bestToLookAt_52 : decode cX5_bestToLookAt 52 = .ok (.if_icmp .eq 9, 3) := by decide +kernel
theorem dX5_bestToLookAt_55 : decode cX5_bestToLookAt 55 = .ok (.iload 4, 2) := by decide +kernel
theorem dX5_bestToLookAt_57 : decode cX5_bestToLookAt 57 = .ok (.iload_n 2, 1) := by decide +kernel
theorem dX5_bestToLookAt_58 : decode cX5_bestToLookAt 58 = .ok (.if_icmp .ge 8, 3) := by decide +kernel
theorem dX5_bestToLookAt_61 : decode cX5_bestToLookAt 61 = .ok (.iload_n 3, 1) := by decide +kernel
theorem dX5_bestToLookAt_62 : decode cX5_bestToLookAt 62 = .ok (.istore_n 1, 1) := by decide +kernel
theorem dX5_bestToLookAt_63 : decode cX5_bestToLookAt 63 = .ok (.iload 4, 2) := by decide +kernel
theorem dX5_bestToLookAt_65 : decode cX5_bestToLookAt 65 = .ok (.istore_n 2, 1) := by decide +kernel
theorem dX5_bestToLookAt_66 : decode cX5_bestToLookAt 66 = .ok (.iinc 3 1, 3) := by decide +kernel
theorem dX5_bestToLookAt_69 : decode cX5_bestToLookAt 69 = .ok (.goto (-52), 3) := by decide +kernel
theorem dX5_bestToLookAt_72 : decode cX5_bestToLookAt 72 = .ok (.iload_n 1, 1) := by decide +kernel
theorem dX5_bestToLookAt_73 : decode cX5_bestToLookAt 73 = .ok (.ireturn, 1) := by decide +kernel
theorem dX5_mostLeftOver_0 : decode cX5_mostLeftOver 0 = .ok (.iconst 0, 1) := by decide +kernel
theorem dX5_mostLeftOver_1 : decode cX5_mostLeftOver 1 = .ok (.istore_n 2, 1) := by decide +kernel
theorem dX5_mostLeftOver_2 : decode cX5_mostLeftOver 2 = .ok (.iconst 0, 1) := by decide +kernel
theorem dX5_mostLeftOver_3 : decode cX5_mostLeftOver 3 = .ok (.istore_n 3, 1) := by decide +kernel
theorem dX5_mostLeftOver_4 : decode cX5_mostLeftOver 4 = .ok (.iload_n 3, 1) := by decide +kernel
theorem dX5_mostLeftOver_5 : decode cX5_mostLeftOver 5 = .ok (.bipush 9, 2) := by decide +kernel
theorem dX5_mostLeftOver_7 : decode cX5_mostLeftOver 7 = .ok (.if_icmp .gt 22, 3) := by decide +kernel
theorem dX5_mostLeftOver_10 : decode cX5_mostLeftOver 10 = .ok (.iload_n 2, 1) := by decide +kernel
theorem dX5_mostLeftOver_11 : decode cX5_mostLeftOver 11 = .ok (.aload_n 0, 1) := by decide +kernel
theorem dX5_mostLeftOver_12 : decode cX5_mostLeftOver 12 = .ok (.getfield 29, 3) := by decide +kernel
theorem dX5_mostLeftOver_15 : decode cX5_mostLeftOver 15 = .ok (.iload_n 1, 1) := by decide +kernel
theorem dX5_mostLeftOver_16 : decode cX5_mostLeftOver 16 = .ok (.aaload, 1) := by decide +kernel
theorem dX5_mostLeftOver_17 : decode cX5_mostLeftOver 17 = .ok (.iload_n 3, 1) := by decide +kernel
theorem dX5_mostLeftOver_18 : decode cX5_mostLeftOver 18 = .ok (.iaload, 1) := by decide +kernel
theorem dX5_mostLeftOver_19 : decode cX5_mostLeftOver 19 = .ok (.invokestatic 116, 3) := by decide +kernel
theorem dX5_mostLeftOver_22 : decode cX5_mostLeftOver 22 = .ok (.istore_n 2, 1) := by decide +kernel
theorem dX5_mostLeftOver_23 : decode cX5_mostLeftOver 23 = .ok (.iinc 3 1, 3) := by decide +kernel
theorem dX5_mostLeftOver_26 : decode cX5_mostLeftOver 26 = .ok (.goto (-22), 3) := by decide +kernel
theorem dX5_mostLeftOver_29 : decode cX5_mostLeftOver 29 = .ok (.iload_n 2, 1) := by decide +kernel
theorem dX5_mostLeftOver_30 : decode cX5_mostLeftOver 30 = .ok (.ireturn, 1) := by decide +kernel
theorem dX6_init_0 : decode cX6_init 0 = .ok (.aload_n 0, 1) := by decide +kernel
theorem dX6_init_1 : decode cX6_init 1 = .ok (.invokespecial 3, 3) := by decide +kernel
theorem dX6_init_4 : decode cX6_init 4 = .ok (.aload_n 0, 1) := by decide +kernel
theorem dX6_init_5 : decode cX6_init 5 = .ok (.bipush 7, 2) := by decide +kernel
theorem dX6_init_7 : decode cX6_init 7 = .ok (.newarray .int, 2) := by decide +kernel
theorem dX6_init_9 : decode cX6_init 9 = .ok (.putfield 9, 3) := by decide +kernel
theorem dX6_init_12 : decode cX6_init 12 = .ok (.aload_n 0, 1) := by decide +kernel
theorem dX6_init_13 : decode cX6_init 13 = .ok (.bipush 7, 2) := by decide +kernel
theorem dX6_init_15 : decode cX6_init 15 = .ok (.newarray .int, 2) := by decide +kernel
theorem dX6_init_17 : decode cX6_init 17 = .ok (.putfield 15, 3) := by decide +kernel
theorem dX6_init_20 : decode cX6_init 20 = .ok (.aload_n 0, 1) := by decide +kernel
theorem dX6_init_21 : decode cX6_init 21 = .ok (.bipush 7, 2) := by decide +kernel
theorem dX6_init_23 : decode cX6_init 23 = .ok (.newarray .int, 2) := by decide +kernel
theorem dX6_init_25 : decode cX6_init 25 = .ok (.putfield 18, 3) := by decide +kernel
theorem dX6_init_28 : decode cX6_init 28 = .ok (.aload_n 0, 1) := by decide +kernel
theorem dX6_init_29 : decode cX6_init 29 = .ok (.bipush 7, 2) := by decide +kernel
theorem dX6_init_31 : decode cX6_init 31 = .ok (.newarray .int, 2) := by decide +kernel
theorem dX6_init_33 : decode cX6_init 33 = .ok (.putfield 21, 3) := by decide +kernel
theorem dX6_init_36 : decode cX6_init 36 = .ok (.aload_n 0, 1) := by decide +kernel
theorem dX6_init_37 : decode cX6_init 37 = .ok (.bipush 7, 2) := by decide +kernel
theorem dX6_init_39 : decode cX6_init 39 = .ok (.newarray .int, 2) := by decide +kernel
theorem dX6_init_41 : decode cX6_init 41 = .ok (.putfield 24, 3) := by decide +kernel
theorem dX6_init_44 : decode cX6_init 44 = .ok (.aload_n 0, 1) := by decide +kernel
theorem dX6_init_45 : decode cX6_init 45 = .ok (.iconst 4, 1) := by decide +kernel
theorem dX6_init_46 : decode cX6_init 46 = .ok (.newarray .int, 2) := by decide +kernel
theorem dX6_init_48 : decode cX6_init 48 = .ok (.putfield 27, 3) := by decide +kernel
theorem dX6_init_51 : decode cX6_init 51 = .ok (.aload_n 0, 1) := by decide +kernel
theorem dX6_init_52 : decode cX6_init 52 = .ok (.iconst 4, 1) := by decide +kernel
theorem dX6_init_53 : decode cX6_init 53 = .ok (.newarray .int, 2) := by decide +kernel
theorem dX6_init_55 : decode cX6_init 55 = .ok (.putfield 30, 3) := by decide +kernel
theorem dX6_init_58 : decode cX6_init 58 = .ok (.aload_n 0, 1) := by decide +kernel
theorem dX6_init_59 : decode cX6_init 59 = .ok (.iconst 4, 1) := by decide +kernel
theorem dX6_init_60 : decode cX6_init 60 = .ok (.newarray .int, 2) := by decide +kernel
theorem dX6_init_62 : decode cX6_init 62 = .ok (.putfield 33, 3) := by decide +kernel
theorem dX6_init_65 : decode cX6_init 65 = .ok (.aload_n 0, 1) := by decide +kernel
theorem dX6_init_66 : decode cX6_init 66 = .ok (.iconst 4, 1) := by decide +kernel
theorem dX6_init_67 : decode cX6_init 67 = .ok (.newarray .int, 2) := by decide +kernel
theorem dX6_init_69 : decode cX6_init 69 = .ok (.putfield 36, 3) := by decide +kernel
theorem dX6_init_72 : decode cX6_init 72 = .ok (.aload_n 0, 1) := by decide +kernel
theorem dX6_init_73 : decode cX6_init 73 = .ok (.bipush 7, 2) := by decide +kernel
theorem dX6_init_75 : decode cX6_init 75 = .ok (.invokevirtual 39, 3) := by decide +kernel
theorem dX6_init_78 : decode cX6_init 78 = .ok (.return_, 1) := by decide +kernel
theorem dX6_asAtFirst_0 : decode cX6_asAtFirst 0 = .ok (.aload_n 0, 1) := by decide +kernel
theorem dX6_asAtFirst_1 : decode cX6_asAtFirst 1 = .ok (.iload_n 1, 1) := by decide +kernel
theorem dX6_asAtFirst_2 : decode cX6_asAtFirst 2 = .ok (.putfield 43, 3) := by decide +kernel
theorem dX6_asAtFirst_5 : decode cX6_asAtFirst 5 = .ok (.aload_n 0, 1) := by decide +kernel
theorem dX6_asAtFirst_6 : decode cX6_asAtFirst 6 = .ok (.iconst 0, 1) := by decide +kernel
theorem dX6_asAtFirst_7 : decode cX6_asAtFirst 7 = .ok (.putfield 47, 3) := by decide +kernel
theorem dX6_asAtFirst_10 : decode cX6_asAtFirst 10 = .ok (.iconst 0, 1) := by decide +kernel
theorem dX6_asAtFirst_11 : decode cX6_asAtFirst 11 = .ok (.istore_n 2, 1) := by decide +kernel
theorem dX6_asAtFirst_12 : decode cX6_asAtFirst 12 = .ok (.iload_n 2, 1) := by decide +kernel
theorem dX6_asAtFirst_13 : decode cX6_asAtFirst 13 = .ok (.bipush 7, 2) := by decide +kernel
theorem dX6_asAtFirst_15 : decode cX6_asAtFirst 15 = .ok (.if_icmp .ge 16, 3) := by decide +kernel
theorem dX6_asAtFirst_18 : decode cX6_asAtFirst 18 = .ok (.aload_n 0, 1) := by decide +kernel
theorem dX6_asAtFirst_19 : decode cX6_asAtFirst 19 = .ok (.getfield 9, 3) := by decide +kernel
theorem dX6_asAtFirst_22 : decode cX6_asAtFirst 22 = .ok (.iload_n 2, 1) := by decide +kernel
theorem dX6_asAtFirst_23 : decode cX6_asAtFirst 23 = .ok (.iload_n 2, 1) := by decide +kernel
theorem dX6_asAtFirst_24 : decode cX6_asAtFirst 24 = .ok (.iastore, 1) := by decide +kernel
theorem dX6_asAtFirst_25 : decode cX6_asAtFirst 25 = .ok (.iinc 2 1, 3) := by decide +kernel
theorem dX6_asAtFirst_28 : decode cX6_asAtFirst 28 = .ok (.goto (-16), 3) := by decide +kernel
theorem dX6_asAtFirst_31 : decode cX6_asAtFirst 31 = .ok (.aload_n 0, 1) := by decide +kernel
theorem dX6_asAtFirst_32 : decode cX6_asAtFirst 32 = .ok (.getfield 15, 3) := by decide +kernel
theorem dX6_asAtFirst_35 : decode cX6_asAtFirst 35 = .ok (.bipush 9, 2) := by decide +kernel
theorem dX6_asAtFirst_37 : decode cX6_asAtFirst 37 = .ok (.invokestatic 50, 3) := by decide +kernel
theorem dX6_asAtFirst_40 : decode cX6_asAtFirst 40 = .ok (.aload_n 0, 1) := by decide +kernel
theorem dX6_asAtFirst_41 : decode cX6_asAtFirst 41 = .ok (.getfield 18, 3) := by decide +kernel
theorem dX6_asAtFirst_44 : decode cX6_asAtFirst 44 = .ok (.bipush 9, 2) := by decide +kernel
theorem dX6_asAtFirst_46 : decode cX6_asAtFirst 46 = .ok (.invokestatic 50, 3) := by decide +kernel
theorem dX6_asAtFirst_49 : decode cX6_asAtFirst 49 = .ok (.aload_n 0, 1) := by decide +kernel
theorem dX6_asAtFirst_50 : decode cX6_asAtFirst 50 = .ok (.getfield 21, 3) := by decide +kernel
theorem dX6_asAtFirst_53 : decode cX6_asAtFirst 53 = .ok (.iconst 0, 1) := by decide +kernel
theorem dX6_asAtFirst_54 : decode cX6_asAtFirst 54 = .ok (.invokestatic 50, 3) := by decide +kernel
theorem dX6_asAtFirst_57 : decode cX6_asAtFirst 57 = .ok (.aload_n 0, 1) := by decide +kernel
theorem dX6_asAtFirst_58 : decode cX6_asAtFirst 58 = .ok (.getfield 24, 3) := by decide +kernel
theorem dX6_asAtFirst_61 : decode cX6_asAtFirst 61 = .ok (.bipush (-6), 2) := by decide +kernel
theorem dX6_asAtFirst_63 : decode cX6_asAtFirst 63 = .ok (.invokestatic 50, 3) := by decide +kernel
theorem dX6_asAtFirst_66 : decode cX6_asAtFirst 66 = .ok (.return_, 1) := by decide +kernel
theorem dX6_hasThing_0 : decode cX6_hasThing 0 = .ok (.iload_n 1, 1) := by decide +kernel
theorem dX6_hasThing_1 : decode cX6_hasThing 1 = .ok (.ifCond .lt 15, 3) := by decide +kernel
theorem dX6_hasThing_4 : decode cX6_hasThing 4 = .ok (.iload_n 1, 1) := by decide +kernel
theorem dX6_hasThing_5 : decode cX6_hasThing 5 = .ok (.aload_n 0, 1) := by decide +kernel
theorem dX6_hasThing_6 : decode cX6_hasThing 6 = .ok (.getfield 43, 3) := by decide +kernel
theorem dX6_hasThing_9 : decode cX6_hasThing 9 = .ok (.if_icmp .ge 7, 3) := by decide +kernel
theorem dX6_hasThing_12 : decode cX6_hasThing 12 = .ok (.iconst 1, 1) := by decide +kernel
theorem dX6_hasThing_13 : decode cX6_hasThing 13 = .ok (.goto 4, 3) := by decide +kernel
theorem dX6_hasThing_16 : decode cX6_hasThing 16 = .ok (.iconst 0, 1) := by decide +kernel
theorem dX6_hasThing_17 : decode cX6_hasThing 17 = .ok (.ireturn, 1) := by decide +kernel
theorem dX6_hasGuest_0 : decode cX6_hasGuest 0 = .ok (.iload_n 1, 1) := by decide +kernel
theorem dX6_hasGuest_1 : decode cX6_hasGuest 1 = .ok (.ifCond .lt 24, 3) := by decide +kernel
theorem dX6_hasGuest_4 : decode cX6_hasGuest 4 = .ok (.iload_n 1, 1) := by decide +kernel
theorem dX6_hasGuest_5 : decode cX6_hasGuest 5 = .ok (.iconst 4, 1) := by decide +kernel
theorem dX6_hasGuest_6 : decode cX6_hasGuest 6 = .ok (.if_icmp .ge 19, 3) := by decide +kernel
theorem dX6_hasGuest_9 : decode cX6_hasGuest 9 = .ok (.aload_n 0, 1) := by decide +kernel
theorem dX6_hasGuest_10 : decode cX6_hasGuest 10 = .ok (.getfield 56, 3) := by decide +kernel
theorem dX6_hasGuest_13 : decode cX6_hasGuest 13 = .ok (.iload_n 1, 1) := by decide +kernel
theorem dX6_hasGuest_14 : decode cX6_hasGuest 14 = .ok (.ishr, 1) := by decide +kernel
theorem dX6_hasGuest_15 : decode cX6_hasGuest 15 = .ok (.iconst 1, 1) := by decide +kernel
theorem dX6_hasGuest_16 : decode cX6_hasGuest 16 = .ok (.iand, 1) := by decide +kernel
theorem dX6_hasGuest_17 : decode cX6_hasGuest 17 = .ok (.iconst 1, 1) := by decide +kernel
theorem dX6_hasGuest_18 : decode cX6_hasGuest 18 = .ok (.if_icmp .ne 7, 3) := by decide +kernel
theorem dX6_hasGuest_21 : decode cX6_hasGuest 21 = .ok (.iconst 1, 1) := by decide +kernel
theorem dX6_hasGuest_22 : decode cX6_hasGuest 22 = .ok (.goto 4, 3) := by decide +kernel
theorem dX6_hasGuest_25 : decode cX6_hasGuest 25 = .ok (.iconst 0, 1) := by decide +kernel
theorem dX6_hasGuest_26 : decode cX6_hasGuest 26 = .ok (.ireturn, 1) := by decide +kernel
theorem dX6_ofThing_0 : decode cX6_ofThing 0 = .ok (.iload_n 2, 1) := by decide +kernel
theorem dX6_ofThing_1 : decode cX6_ofThing 1 = .ok (.tableswitch 72 0 4 #[35, 42, 49, 58, 65], 35) := by decide +kernel
theorem dX6_ofThing_36 : decode cX6_ofThing 36 = .ok (.aload_n 0, 1) := by decide +kernel
theorem dX6_ofThing_37 : decode cX6_ofThing 37 = .ok (.getfield 9, 3) := by decide +kernel
theorem dX6_ofThing_40 : decode cX6_ofThing 40 = .ok (.iload_n 1, 1) := by decide +kernel
theorem dX6_ofThing_41 : decode cX6_ofThing 41 = .ok (.iaload, 1) := by decide +kernel
theorem dX6_ofThing_42 : decode cX6_ofThing 42 = .ok (.ireturn, 1) := by decide +kernel
theorem dX6_ofThing_43 : decode cX6_ofThing 43 = .ok (.aload_n 0, 1) := by decide +kernel
theorem dX6_ofThing_44 : decode cX6_ofThing 44 = .ok (.getfield 15, 3) := by decide +kernel
theorem dX6_ofThing_47 : decode cX6_ofThing 47 = .ok (.iload_n 1, 1) := by decide +kernel
theorem dX6_ofThing_48 : decode cX6_ofThing 48 = .ok (.iaload, 1) := by decide +kernel
theorem dX6_ofThing_49 : decode cX6_ofThing 49 = .ok (.ireturn, 1) := by decide +kernel
theorem dX6_ofThing_50 : decode cX6_ofThing 50 = .ok (.aload_n 0, 1) := by decide +kernel
theorem dX6_ofThing_51 : decode cX6_ofThing 51 = .ok (.getfield 47, 3) := by decide +kernel
theorem dX6_ofThing_54 : decode cX6_ofThing 54 = .ok (.iload_n 1, 1) := by decide +kernel
theorem dX6_ofThing_55 : decode cX6_ofThing 55 = .ok (.ishr, 1) := by decide +kernel
theorem dX6_ofThing_56 : decode cX6_ofThing 56 = .ok (.iconst 1, 1) := by decide +kernel
theorem dX6_ofThing_57 : decode cX6_ofThing 57 = .ok (.iand, 1) := by decide +kernel
theorem dX6_ofThing_58 : decode cX6_ofThing 58 = .ok (.ireturn, 1) := by decide +kernel
theorem dX6_ofThing_59 : decode cX6_ofThing 59 = .ok (.aload_n 0, 1) := by decide +kernel
theorem dX6_ofThing_60 : decode cX6_ofThing 60 = .ok (.getfield 18, 3) := by decide +kernel
theorem dX6_ofThing_63 : decode cX6_ofThing 63 = .ok (.iload_n 1, 1) := by decide +kernel
theorem dX6_ofThing_64 : decode cX6_ofThing 64 = .ok (.iaload, 1) := by decide +kernel
theorem dX6_ofThing_65 : decode cX6_ofThing 65 = .ok (.ireturn, 1) := by decide +kernel
theorem dX6_ofThing_66 : decode cX6_ofThing 66 = .ok (.aload_n 0, 1) := by decide +kernel
theorem dX6_ofThing_67 : decode cX6_ofThing 67 = .ok (.getfield 21, 3) := by decide +kernel
theorem dX6_ofThing_70 : decode cX6_ofThing 70 = .ok (.iload_n 1, 1) := by decide +kernel
theorem dX6_ofThing_71 : decode cX6_ofThing 71 = .ok (.iaload, 1) := by decide +kernel
theorem dX6_ofThing_72 : decode cX6_ofThing 72 = .ok (.ireturn, 1) := by decide +kernel
theorem dX6_ofThing_73 : decode cX6_ofThing 73 = .ok (.aload_n 0, 1) := by decide +kernel
theorem dX6_ofThing_74 : decode cX6_ofThing 74 = .ok (.getfield 24, 3) := by decide +kernel
theorem dX6_ofThing_77 : decode cX6_ofThing 77 = .ok (.iload_n 1, 1) := by decide +kernel
theorem dX6_ofThing_78 : decode cX6_ofThing 78 = .ok (.iaload, 1) := by decide +kernel
theorem dX6_ofThing_79 : decode cX6_ofThing 79 = .ok (.ireturn, 1) := by decide +kernel
theorem dX6_ofGuest_0 : decode cX6_ofGuest 0 = .ok (.iload_n 2, 1) := by decide +kernel
theorem dX6_ofGuest_1 : decode cX6_ofGuest 1 = .ok (.tableswitch 48 0 2 #[27, 34, 41], 27) := by decide +kernel
theorem dX6_ofGuest_28 : decode cX6_ofGuest 28 = .ok (.aload_n 0, 1) := by decide +kernel
theorem dX6_ofGuest_29 : decode cX6_ofGuest 29 = .ok (.getfield 27, 3) := by decide +kernel
theorem dX6_ofGuest_32 : decode cX6_ofGuest 32 = .ok (.iload_n 1, 1) := by decide +kernel
theorem dX6_ofGuest_33 : decode cX6_ofGuest 33 = .ok (.iaload, 1) := by decide +kernel
theorem dX6_ofGuest_34 : decode cX6_ofGuest 34 = .ok (.ireturn, 1) := by decide +kernel
theorem dX6_ofGuest_35 : decode cX6_ofGuest 35 = .ok (.aload_n 0, 1) := by decide +kernel
theorem dX6_ofGuest_36 : decode cX6_ofGuest 36 = .ok (.getfield 30, 3) := by decide +kernel
theorem dX6_ofGuest_39 : decode cX6_ofGuest 39 = .ok (.iload_n 1, 1) := by decide +kernel
theorem dX6_ofGuest_40 : decode cX6_ofGuest 40 = .ok (.iaload, 1) := by decide +kernel
theorem dX6_ofGuest_41 : decode cX6_ofGuest 41 = .ok (.ireturn, 1) := by decide +kernel
theorem dX6_ofGuest_42 : decode cX6_ofGuest 42 = .ok (.aload_n 0, 1) := by decide +kernel
theorem dX6_ofGuest_43 : decode cX6_ofGuest 43 = .ok (.getfield 33, 3) := by decide +kernel
theorem dX6_ofGuest_46 : decode cX6_ofGuest 46 = .ok (.iload_n 1, 1) := by decide +kernel
theorem dX6_ofGuest_47 : decode cX6_ofGuest 47 = .ok (.iaload, 1) := by decide +kernel
theorem dX6_ofGuest_48 : decode cX6_ofGuest 48 = .ok (.ireturn, 1) := by decide +kernel
theorem dX6_ofGuest_49 : decode cX6_ofGuest 49 = .ok (.aload_n 0, 1) := by decide +kernel
theorem dX6_ofGuest_50 : decode cX6_ofGuest 50 = .ok (.getfield 36, 3) := by decide +kernel
theorem dX6_ofGuest_53 : decode cX6_ofGuest 53 = .ok (.iload_n 1, 1) := by decide +kernel
theorem dX6_ofGuest_54 : decode cX6_ofGuest 54 = .ok (.iaload, 1) := by decide +kernel
theorem dX6_ofGuest_55 : decode cX6_ofGuest 55 = .ok (.ireturn, 1) := by decide +kernel
theorem dX6_change_0 : decode cX6_change 0 = .ok (.iload_n 2, 1) := by decide +kernel
theorem dX6_change_1 : decode cX6_change 1 = .ok (.tableswitch 82 0 2 #[27, 37, 61], 27) := by decide +kernel
theorem dX6_change_28 : decode cX6_change 28 = .ok (.aload_n 0, 1) := by decide +kernel
theorem dX6_change_29 : decode cX6_change 29 = .ok (.getfield 9, 3) := by decide +kernel
theorem dX6_change_32 : decode cX6_change 32 = .ok (.iload_n 1, 1) := by decide +kernel
theorem dX6_change_33 : decode cX6_change 33 = .ok (.iload_n 3, 1) := by decide +kernel
theorem dX6_change_34 : decode cX6_change 34 = .ok (.iastore, 1) := by decide +kernel
theorem dX6_change_35 : decode cX6_change 35 = .ok (.goto 55, 3) := by decide +kernel
theorem dX6_change_38 : decode cX6_change 38 = .ok (.aload_n 0, 1) := by decide +kernel
theorem dX6_change_39 : decode cX6_change 39 = .ok (.getfield 15, 3) := by decide +kernel
theorem dX6_change_42 : decode cX6_change 42 = .ok (.iload_n 1, 1) := by decide +kernel
theorem dX6_change_43 : decode cX6_change 43 = .ok (.iload_n 3, 1) := by decide +kernel
theorem dX6_change_44 : decode cX6_change 44 = .ok (.iastore, 1) := by decide +kernel
theorem dX6_change_45 : decode cX6_change 45 = .ok (.aload_n 0, 1) := by decide +kernel
theorem dX6_change_46 : decode cX6_change 46 = .ok (.getfield 18, 3) := by decide +kernel
theorem dX6_change_49 : decode cX6_change 49 = .ok (.iload_n 1, 1) := by decide +kernel
theorem dX6_change_50 : decode cX6_change 50 = .ok (.iload_n 3, 1) := by decide +kernel
theorem dX6_change_51 : decode cX6_change 51 = .ok (.iastore, 1) := by decide +kernel
theorem dX6_change_52 : decode cX6_change 52 = .ok (.aload_n 0, 1) := by decide +kernel
theorem dX6_change_53 : decode cX6_change 53 = .ok (.getfield 21, 3) := by decide +kernel
theorem dX6_change_56 : decode cX6_change 56 = .ok (.iload_n 1, 1) := by decide +kernel
theorem dX6_change_57 : decode cX6_change 57 = .ok (.iconst 0, 1) := by decide +kernel
theorem dX6_change_58 : decode cX6_change 58 = .ok (.iastore, 1) := by decide +kernel
theorem dX6_change_59 : decode cX6_change 59 = .ok (.goto 31, 3) := by decide +kernel
theorem dX6_change_62 : decode cX6_change 62 = .ok (.aload_n 0, 1) := by decide +kernel
theorem dX6_change_63 : decode cX6_change 63 = .ok (.aload_n 0, 1) := by decide +kernel
theorem dX6_change_64 : decode cX6_change 64 = .ok (.getfield 47, 3) := by decide +kernel
theorem dX6_change_67 : decode cX6_change 67 = .ok (.iconst 1, 1) := by decide +kernel
theorem dX6_change_68 : decode cX6_change 68 = .ok (.iload_n 1, 1) := by decide +kernel
theorem dX6_change_69 : decode cX6_change 69 = .ok (.ishl, 1) := by decide +kernel
theorem dX6_change_70 : decode cX6_change 70 = .ok (.iconst (-1), 1) := by decide +kernel
theorem dX6_change_71 : decode cX6_change 71 = .ok (.ixor, 1) := by decide +kernel
theorem dX6_change_72 : decode cX6_change 72 = .ok (.iand, 1) := by decide +kernel
theorem dX6_change_73 : decode cX6_change 73 = .ok (.iload_n 3, 1) := by decide +kernel
theorem dX6_change_74 : decode cX6_change 74 = .ok (.iload_n 1, 1) := by decide +kernel
theorem dX6_change_75 : decode cX6_change 75 = .ok (.ishl, 1) := by decide +kernel
theorem dX6_change_76 : decode cX6_change 76 = .ok (.ior, 1) := by decide +kernel
theorem dX6_change_77 : decode cX6_change 77 = .ok (.putfield 47, 3) := by decide +kernel
theorem dX6_change_80 : decode cX6_change 80 = .ok (.goto 10, 3) := by decide +kernel
theorem dX6_change_83 : decode cX6_change 83 = .ok (.aload_n 0, 1) := by decide +kernel
theorem dX6_change_84 : decode cX6_change 84 = .ok (.getfield 18, 3) := by decide +kernel
theorem dX6_change_87 : decode cX6_change 87 = .ok (.iload_n 1, 1) := by decide +kernel
theorem dX6_change_88 : decode cX6_change 88 = .ok (.iload_n 3, 1) := by decide +kernel
theorem dX6_change_89 : decode cX6_change 89 = .ok (.iastore, 1) := by decide +kernel
theorem dX6_change_90 : decode cX6_change 90 = .ok (.return_, 1) := by decide +kernel
theorem dX6_welcome_0 : decode cX6_welcome 0 = .ok (.aload_n 0, 1) := by decide +kernel
theorem dX6_welcome_1 : decode cX6_welcome 1 = .ok (.dup, 1) := by decide +kernel
theorem dX6_welcome_2 : decode cX6_welcome 2 = .ok (.getfield 56, 3) := by decide +kernel
theorem dX6_welcome_5 : decode cX6_welcome 5 = .ok (.iconst 1, 1) := by decide +kernel
theorem dX6_welcome_6 : decode cX6_welcome 6 = .ok (.iload_n 1, 1) := by decide +kernel
theorem dX6_welcome_7 : decode cX6_welcome 7 = .ok (.ishl, 1) := by decide +kernel
theorem dX6_welcome_8 : decode cX6_welcome 8 = .ok (.ior, 1) := by decide +kernel
theorem dX6_welcome_9 : decode cX6_welcome 9 = .ok (.putfield 56, 3) := by decide +kernel
theorem dX6_welcome_12 : decode cX6_welcome 12 = .ok (.aload_n 0, 1) := by decide +kernel
theorem dX6_welcome_13 : decode cX6_welcome 13 = .ok (.getfield 27, 3) := by decide +kernel
theorem dX6_welcome_16 : decode cX6_welcome 16 = .ok (.iload_n 1, 1) := by decide +kernel
theorem dX6_welcome_17 : decode cX6_welcome 17 = .ok (.iload_n 2, 1) := by decide +kernel
theorem dX6_welcome_18 : decode cX6_welcome 18 = .ok (.iastore, 1) := by decide +kernel
theorem dX6_welcome_19 : decode cX6_welcome 19 = .ok (.aload_n 0, 1) := by decide +kernel
theorem dX6_welcome_20 : decode cX6_welcome 20 = .ok (.getfield 30, 3) := by decide +kernel
theorem dX6_welcome_23 : decode cX6_welcome 23 = .ok (.iload_n 1, 1) := by decide +kernel
theorem dX6_welcome_24 : decode cX6_welcome 24 = .ok (.iload_n 3, 1) := by decide +kernel
theorem dX6_welcome_25 : decode cX6_welcome 25 = .ok (.iastore, 1) := by decide +kernel
theorem dX6_welcome_26 : decode cX6_welcome 26 = .ok (.aload_n 0, 1) := by decide +kernel
theorem dX6_welcome_27 : decode cX6_welcome 27 = .ok (.getfield 33, 3) := by decide +kernel
theorem dX6_welcome_30 : decode cX6_welcome 30 = .ok (.iload_n 1, 1) := by decide +kernel
theorem dX6_welcome_31 : decode cX6_welcome 31 = .ok (.iload 4, 2) := by decide +kernel
theorem dX6_welcome_33 : decode cX6_welcome 33 = .ok (.iastore, 1) := by decide +kernel
theorem dX6_welcome_34 : decode cX6_welcome 34 = .ok (.aload_n 0, 1) := by decide +kernel
theorem dX6_welcome_35 : decode cX6_welcome 35 = .ok (.getfield 36, 3) := by decide +kernel
theorem dX6_welcome_38 : decode cX6_welcome 38 = .ok (.iload_n 1, 1) := by decide +kernel
theorem dX6_welcome_39 : decode cX6_welcome 39 = .ok (.iload 5, 2) := by decide +kernel
theorem dX6_welcome_41 : decode cX6_welcome 41 = .ok (.iastore, 1) := by decide +kernel
theorem dX6_welcome_42 : decode cX6_welcome 42 = .ok (.return_, 1) := by decide +kernel
theorem dX6_sightBits_0 : decode cX6_sightBits 0 = .ok (.iconst 0, 1) := by decide +kernel
theorem dX6_sightBits_1 : decode cX6_sightBits 1 = .ok (.istore_n 1, 1) := by decide +kernel
theorem dX6_sightBits_2 : decode cX6_sightBits 2 = .ok (.iconst 0, 1) := by decide +kernel
theorem dX6_sightBits_3 : decode cX6_sightBits 3 = .ok (.istore_n 2, 1) := by decide +kernel
theorem dX6_sightBits_4 : decode cX6_sightBits 4 = .ok (.iload_n 2, 1) := by decide +kernel
theorem dX6_sightBits_5 : decode cX6_sightBits 5 = .ok (.bipush 7, 2) := by decide +kernel
theorem dX6_sightBits_7 : decode cX6_sightBits 7 = .ok (.if_icmp .ge 26, 3) := by decide +kernel
theorem dX6_sightBits_10 : decode cX6_sightBits 10 = .ok (.aload_n 0, 1) := by decide +kernel
theorem dX6_sightBits_11 : decode cX6_sightBits 11 = .ok (.getfield 24, 3) := by decide +kernel
theorem dX6_sightBits_14 : decode cX6_sightBits 14 = .ok (.iload_n 2, 1) := by decide +kernel
theorem dX6_sightBits_15 : decode cX6_sightBits 15 = .ok (.iaload, 1) := by decide +kernel
theorem dX6_sightBits_16 : decode cX6_sightBits 16 = .ok (.bipush (-6), 2) := by decide +kernel
theorem dX6_sightBits_18 : decode cX6_sightBits 18 = .ok (.if_icmp .eq 9, 3) := by decide +kernel
theorem dX6_sightBits_21 : decode cX6_sightBits 21 = .ok (.iload_n 1, 1) := by decide +kernel
theorem dX6_sightBits_22 : decode cX6_sightBits 22 = .ok (.iconst 1, 1) := by decide +kernel
theorem dX6_sightBits_23 : decode cX6_sightBits 23 = .ok (.iload_n 2, 1) := by decide +kernel
theorem dX6_sightBits_24 : decode cX6_sightBits 24 = .ok (.ishl, 1) := by decide +kernel
theorem dX6_sightBits_25 : decode cX6_sightBits 25 = .ok (.ior, 1) := by decide +kernel
theorem dX6_sightBits_26 : decode cX6_sightBits 26 = .ok (.istore_n 1, 1) := by decide +kernel
theorem dX6_sightBits_27 : decode cX6_sightBits 27 = .ok (.iinc 2 1, 3) := by decide +kernel
theorem dX6_sightBits_30 : decode cX6_sightBits 30 = .ok (.goto (-26), 3) := by decide +kernel
theorem dX6_sightBits_33 : decode cX6_sightBits 33 = .ok (.iload_n 1, 1) := by decide +kernel
theorem dX6_sightBits_34 : decode cX6_sightBits 34 = .ok (.ireturn, 1) := by decide +kernel
theorem dX6_copyFrom_0 : decode cX6_copyFrom 0 = .ok (.aload_n 0, 1) := by decide +kernel
theorem dX6_copyFrom_1 : decode cX6_copyFrom 1 = .ok (.aload_n 1, 1) := by decide +kernel
theorem dX6_copyFrom_2 : decode cX6_copyFrom 2 = .ok (.getfield 43, 3) := by decide +kernel
theorem dX6_copyFrom_5 : decode cX6_copyFrom 5 = .ok (.putfield 43, 3) := by decide +kernel
theorem dX6_copyFrom_8 : decode cX6_copyFrom 8 = .ok (.aload_n 0, 1) := by decide +kernel
theorem dX6_copyFrom_9 : decode cX6_copyFrom 9 = .ok (.aload_n 1, 1) := by decide +kernel
theorem dX6_copyFrom_10 : decode cX6_copyFrom 10 = .ok (.getfield 47, 3) := by decide +kernel
theorem dX6_copyFrom_13 : decode cX6_copyFrom 13 = .ok (.putfield 47, 3) := by decide +kernel
theorem dX6_copyFrom_16 : decode cX6_copyFrom 16 = .ok (.aload_n 0, 1) := by decide +kernel
theorem dX6_copyFrom_17 : decode cX6_copyFrom 17 = .ok (.aload_n 1, 1) := by decide +kernel
theorem dX6_copyFrom_18 : decode cX6_copyFrom 18 = .ok (.getfield 56, 3) := by decide +kernel
theorem dX6_copyFrom_21 : decode cX6_copyFrom 21 = .ok (.putfield 56, 3) := by decide +kernel
theorem dX6_copyFrom_24 : decode cX6_copyFrom 24 = .ok (.aload_n 1, 1) := by decide +kernel
theorem dX6_copyFrom_25 : decode cX6_copyFrom 25 = .ok (.getfield 9, 3) := by decide +kernel
theorem dX6_copyFrom_28 : decode cX6_copyFrom 28 = .ok (.iconst 0, 1) := by decide +kernel
theorem dX6_copyFrom_29 : decode cX6_copyFrom 29 = .ok (.aload_n 0, 1) := by decide +kernel
theorem dX6_copyFrom_30 : decode cX6_copyFrom 30 = .ok (.getfield 9, 3) := by decide +kernel
theorem dX6_copyFrom_33 : decode cX6_copyFrom 33 = .ok (.iconst 0, 1) := by decide +kernel
theorem dX6_copyFrom_34 : decode cX6_copyFrom 34 = .ok (.bipush 7, 2) := by decide +kernel
theorem dX6_copyFrom_36 : decode cX6_copyFrom 36 = .ok (.invokestatic 59, 3) := by decide +kernel
theorem dX6_copyFrom_39 : decode cX6_copyFrom 39 = .ok (.aload_n 1, 1) := by decide +kernel
theorem dX6_copyFrom_40 : decode cX6_copyFrom 40 = .ok (.getfield 15, 3) := by decide +kernel
theorem dX6_copyFrom_43 : decode cX6_copyFrom 43 = .ok (.iconst 0, 1) := by decide +kernel
theorem dX6_copyFrom_44 : decode cX6_copyFrom 44 = .ok (.aload_n 0, 1) := by decide +kernel
theorem dX6_copyFrom_45 : decode cX6_copyFrom 45 = .ok (.getfield 15, 3) := by decide +kernel
theorem dX6_copyFrom_48 : decode cX6_copyFrom 48 = .ok (.iconst 0, 1) := by decide +kernel
theorem dX6_copyFrom_49 : decode cX6_copyFrom 49 = .ok (.bipush 7, 2) := by decide +kernel
theorem dX6_copyFrom_51 : decode cX6_copyFrom 51 = .ok (.invokestatic 59, 3) := by decide +kernel
theorem dX6_copyFrom_54 : decode cX6_copyFrom 54 = .ok (.aload_n 1, 1) := by decide +kernel
theorem dX6_copyFrom_55 : decode cX6_copyFrom 55 = .ok (.getfield 18, 3) := by decide +kernel
theorem dX6_copyFrom_58 : decode cX6_copyFrom 58 = .ok (.iconst 0, 1) := by decide +kernel
theorem dX6_copyFrom_59 : decode cX6_copyFrom 59 = .ok (.aload_n 0, 1) := by decide +kernel
theorem dX6_copyFrom_60 : decode cX6_copyFrom 60 = .ok (.getfield 18, 3) := by decide +kernel
theorem dX6_copyFrom_63 : decode cX6_copyFrom 63 = .ok (.iconst 0, 1) := by decide +kernel
theorem dX6_copyFrom_64 : decode cX6_copyFrom 64 = .ok (.bipush 7, 2) := by decide +kernel
theorem dX6_copyFrom_66 : decode cX6_copyFrom 66 = .ok (.invokestatic 59, 3) := by decide +kernel
theorem dX6_copyFrom_69 : decode cX6_copyFrom 69 = .ok (.aload_n 1, 1) := by decide +kernel
theorem dX6_copyFrom_70 : decode cX6_copyFrom 70 = .ok (.getfield 21, 3) := by decide +kernel
theorem dX6_copyFrom_73 : decode cX6_copyFrom 73 = .ok (.iconst 0, 1) := by decide +kernel
theorem dX6_copyFrom_74 : decode cX6_copyFrom 74 = .ok (.aload_n 0, 1) := by decide +kernel
theorem dX6_copyFrom_75 : decode cX6_copyFrom 75 = .ok (.getfield 21, 3) := by decide +kernel
theorem dX6_copyFrom_78 : decode cX6_copyFrom 78 = .ok (.iconst 0, 1) := by decide +kernel
theorem dX6_copyFrom_79 : decode cX6_copyFrom 79 = .ok (.bipush 7, 2) := by decide +kernel
theorem dX6_copyFrom_81 : decode cX6_copyFrom 81 = .ok (.invokestatic 59, 3) := by decide +kernel
theorem dX6_copyFrom_84 : decode cX6_copyFrom 84 = .ok (.aload_n 1, 1) := by decide +kernel
theorem dX6_copyFrom_85 : decode cX6_copyFrom 85 = .ok (.getfield 24, 3) := by decide +kernel
theorem dX6_copyFrom_88 : decode cX6_copyFrom 88 = .ok (.iconst 0, 1) := by decide +kernel
theorem dX6_copyFrom_89 : decode cX6_copyFrom 89 = .ok (.aload_n 0, 1) := by decide +kernel
theorem dX6_copyFrom_90 : decode cX6_copyFrom 90 = .ok (.getfield 24, 3) := by decide +kernel
theorem dX6_copyFrom_93 : decode cX6_copyFrom 93 = .ok (.iconst 0, 1) := by decide +kernel
theorem dX6_copyFrom_94 : decode cX6_copyFrom 94 = .ok (.bipush 7, 2) := by decide +kernel
theorem dX6_copyFrom_96 : decode cX6_copyFrom 96 = .ok (.invokestatic 59, 3) := by decide +kernel
theorem dX6_copyFrom_99 : decode cX6_copyFrom 99 = .ok (.aload_n 1, 1) := by decide +kernel
theorem dX6_copyFrom_100 : decode cX6_copyFrom 100 = .ok (.getfield 27, 3) := by decide +kernel
theorem dX6_copyFrom_103 : decode cX6_copyFrom 103 = .ok (.iconst 0, 1) := by decide +kernel
theorem dX6_copyFrom_104 : decode cX6_copyFrom 104 = .ok (.aload_n 0, 1) := by decide +kernel
theorem dX6_copyFrom_105 : decode cX6_copyFrom 105 = .ok (.getfield 27, 3) := by decide +kernel
theorem dX6_copyFrom_108 : decode cX6_copyFrom 108 = .ok (.iconst 0, 1) := by decide +kernel
theorem dX6_copyFrom_109 : decode cX6_copyFrom 109 = .ok (.iconst 4, 1) := by decide +kernel
theorem dX6_copyFrom_110 : decode cX6_copyFrom 110 = .ok (.invokestatic 59, 3) := by decide +kernel
theorem dX6_copyFrom_113 : decode cX6_copyFrom 113 = .ok (.aload_n 1, 1) := by decide +kernel
theorem dX6_copyFrom_114 : decode cX6_copyFrom 114 = .ok (.getfield 30, 3) := by decide +kernel
theorem dX6_copyFrom_117 : decode cX6_copyFrom 117 = .ok (.iconst 0, 1) := by decide +kernel
theorem dX6_copyFrom_118 : decode cX6_copyFrom 118 = .ok (.aload_n 0, 1) := by decide +kernel
theorem dX6_copyFrom_119 : decode cX6_copyFrom 119 = .ok (.getfield 30, 3) := by decide +kernel
theorem dX6_copyFrom_122 : decode cX6_copyFrom 122 = .ok (.iconst 0, 1) := by decide +kernel
theorem dX6_copyFrom_123 : decode cX6_copyFrom 123 = .ok (.iconst 4, 1) := by decide +kernel
theorem dX6_copyFrom_124 : decode cX6_copyFrom 124 = .ok (.invokestatic 59, 3) := by decide +kernel
theorem dX6_copyFrom_127 : decode cX6_copyFrom 127 = .ok (.aload_n 1, 1) := by decide +kernel
theorem dX6_copyFrom_128 : decode cX6_copyFrom 128 = .ok (.getfield 33, 3) := by decide +kernel
theorem dX6_copyFrom_131 : decode cX6_copyFrom 131 = .ok (.iconst 0, 1) := by decide +kernel
theorem dX6_copyFrom_132 : decode cX6_copyFrom 132 = .ok (.aload_n 0, 1) := by decide +kernel
theorem dX6_copyFrom_133 : decode cX6_copyFrom 133 = .ok (.getfield 33, 3) := by decide +kernel
theorem dX6_copyFrom_136 : decode cX6_copyFrom 136 = .ok (.iconst 0, 1) := by decide +kernel
theorem dX6_copyFrom_137 : decode cX6_copyFrom 137 = .ok (.iconst 4, 1) := by decide +kernel
theorem dX6_copyFrom_138 : decode cX6_copyFrom 138 = .ok (.invokestatic 59, 3) := by decide +kernel
theorem dX6_copyFrom_141 : decode cX6_copyFrom 141 = .ok (.aload_n 1, 1) := by decide +kernel
theorem dX6_copyFrom_142 : decode cX6_copyFrom 142 = .ok (.getfield 36, 3) := by decide +kernel
theorem dX6_copyFrom_145 : decode cX6_copyFrom 145 = .ok (.iconst 0, 1) := by decide +kernel
theorem dX6_copyFrom_146 : decode cX6_copyFrom 146 = .ok (.aload_n 0, 1) := by decide +kernel
theorem dX6_copyFrom_147 : decode cX6_copyFrom 147 = .ok (.getfield 36, 3) := by decide +kernel
theorem dX6_copyFrom_150 : decode cX6_copyFrom 150 = .ok (.iconst 0, 1) := by decide +kernel
theorem dX6_copyFrom_151 : decode cX6_copyFrom 151 = .ok (.iconst 4, 1) := by decide +kernel
theorem dX6_copyFrom_152 : decode cX6_copyFrom 152 = .ok (.invokestatic 59, 3) := by decide +kernel
theorem dX6_copyFrom_155 : decode cX6_copyFrom 155 = .ok (.return_, 1) := by decide +kernel
theorem dX7_init_0 : decode cX7_init 0 = .ok (.aload_n 0, 1) := by decide +kernel
theorem dX7_init_1 : decode cX7_init 1 = .ok (.invokespecial 3, 3) := by decide +kernel
theorem dX7_init_4 : decode cX7_init 4 = .ok (.aload_n 0, 1) := by decide +kernel
theorem dX7_init_5 : decode cX7_init 5 = .ok (.iconst 4, 1) := by decide +kernel
theorem dX7_init_6 : decode cX7_init 6 = .ok (.newarray .int, 2) := by decide +kernel
theorem dX7_init_8 : decode cX7_init 8 = .ok (.putfield 9, 3) := by decide +kernel
theorem dX7_init_11 : decode cX7_init 11 = .ok (.aload_n 0, 1) := by decide +kernel
theorem dX7_init_12 : decode cX7_init 12 = .ok (.aload_n 1, 1) := by decide +kernel
theorem dX7_init_13 : decode cX7_init 13 = .ok (.putfield 15, 3) := by decide +kernel
theorem dX7_init_16 : decode cX7_init 16 = .ok (.aload_n 0, 1) := by decide +kernel
theorem dX7_init_17 : decode cX7_init 17 = .ok (.aload_n 2, 1) := by decide +kernel
theorem dX7_init_18 : decode cX7_init 18 = .ok (.putfield 19, 3) := by decide +kernel
theorem dX7_init_21 : decode cX7_init 21 = .ok (.return_, 1) := by decide +kernel
theorem dX7_areAlike_0 : decode cX7_areAlike 0 = .ok (.aload_n 0, 1) := by decide +kernel
theorem dX7_areAlike_1 : decode cX7_areAlike 1 = .ok (.getfield 15, 3) := by decide +kernel
theorem dX7_areAlike_4 : decode cX7_areAlike 4 = .ok (.iload_n 1, 1) := by decide +kernel
theorem dX7_areAlike_5 : decode cX7_areAlike 5 = .ok (.invokevirtual 23, 3) := by decide +kernel
theorem dX7_areAlike_8 : decode cX7_areAlike 8 = .ok (.ifCond .eq 33, 3) := by decide +kernel
theorem dX7_areAlike_11 : decode cX7_areAlike 11 = .ok (.aload_n 0, 1) := by decide +kernel
theorem dX7_areAlike_12 : decode cX7_areAlike 12 = .ok (.getfield 15, 3) := by decide +kernel
theorem dX7_areAlike_15 : decode cX7_areAlike 15 = .ok (.iload_n 2, 1) := by decide +kernel
theorem dX7_areAlike_16 : decode cX7_areAlike 16 = .ok (.invokevirtual 23, 3) := by decide +kernel
theorem dX7_areAlike_19 : decode cX7_areAlike 19 = .ok (.ifCond .eq 22, 3) := by decide +kernel
theorem dX7_areAlike_22 : decode cX7_areAlike 22 = .ok (.aload_n 0, 1) := by decide +kernel
theorem dX7_areAlike_23 : decode cX7_areAlike 23 = .ok (.getfield 9, 3) := by decide +kernel
theorem dX7_areAlike_26 : decode cX7_areAlike 26 = .ok (.iload_n 1, 1) := by decide +kernel
theorem dX7_areAlike_27 : decode cX7_areAlike 27 = .ok (.iaload, 1) := by decide +kernel
theorem dX7_areAlike_28 : decode cX7_areAlike 28 = .ok (.aload_n 0, 1) := by decide +kernel
theorem dX7_areAlike_29 : decode cX7_areAlike 29 = .ok (.getfield 9, 3) := by decide +kernel
theorem dX7_areAlike_32 : decode cX7_areAlike 32 = .ok (.iload_n 2, 1) := by decide +kernel
theorem dX7_areAlike_33 : decode cX7_areAlike 33 = .ok (.iaload, 1) := by decide +kernel
theorem dX7_areAlike_34 : decode cX7_areAlike 34 = .ok (.if_icmp .ne 7, 3) := by decide +kernel
theorem dX7_areAlike_37 : decode cX7_areAlike 37 = .ok (.iconst 1, 1) := by decide +kernel
theorem dX7_areAlike_38 : decode cX7_areAlike 38 = .ok (.goto 4, 3) := by decide +kernel
theorem dX7_areAlike_41 : decode cX7_areAlike 41 = .ok (.iconst 0, 1) := by decide +kernel
theorem dX7_areAlike_42 : decode cX7_areAlike 42 = .ok (.ireturn, 1) := by decide +kernel
theorem dX7_howMany_0 : decode cX7_howMany 0 = .ok (.iconst 0, 1) := by decide +kernel
theorem dX7_howMany_1 : decode cX7_howMany 1 = .ok (.istore_n 1, 1) := by decide +kernel
theorem dX7_howMany_2 : decode cX7_howMany 2 = .ok (.iload_n 1, 1) := by decide +kernel
theorem dX7_howMany_3 : decode cX7_howMany 3 = .ok (.iconst 4, 1) := by decide +kernel
theorem dX7_howMany_4 : decode cX7_howMany 4 = .ok (.if_icmp .ge 65, 3) := by decide +kernel
theorem dX7_howMany_7 : decode cX7_howMany 7 = .ok (.aload_n 0, 1) := by decide +kernel
theorem dX7_howMany_8 : decode cX7_howMany 8 = .ok (.getfield 15, 3) := by decide +kernel
theorem dX7_howMany_11 : decode cX7_howMany 11 = .ok (.iload_n 1, 1) := by decide +kernel
theorem dX7_howMany_12 : decode cX7_howMany 12 = .ok (.invokevirtual 23, 3) := by decide +kernel
theorem dX7_howMany_15 : decode cX7_howMany 15 = .ok (.ifCond .eq 14, 3) := by decide +kernel
theorem dX7_howMany_18 : decode cX7_howMany 18 = .ok (.aload_n 0, 1) := by decide +kernel
theorem dX7_howMany_19 : decode cX7_howMany 19 = .ok (.getfield 19, 3) := by decide +kernel
theorem dX7_howMany_22 : decode cX7_howMany 22 = .ok (.iload_n 1, 1) := by decide +kernel
theorem dX7_howMany_23 : decode cX7_howMany 23 = .ok (.invokevirtual 29, 3) := by decide +kernel
theorem dX7_howMany_26 : decode cX7_howMany 26 = .ok (.goto 5, 3) := by decide +kernel
theorem dX7_howMany_29 : decode cX7_howMany 29 = .ok (.bipush (-6), 2) := by decide +kernel
theorem dX7_howMany_31 : decode cX7_howMany 31 = .ok (.istore_n 2, 1) := by decide +kernel
theorem dX7_howMany_32 : decode cX7_howMany 32 = .ok (.aload_n 0, 1) := by decide +kernel
theorem dX7_howMany_33 : decode cX7_howMany 33 = .ok (.getfield 9, 3) := by decide +kernel
theorem dX7_howMany_36 : decode cX7_howMany 36 = .ok (.iload_n 1, 1) := by decide +kernel
theorem dX7_howMany_37 : decode cX7_howMany 37 = .ok (.iload_n 2, 1) := by decide +kernel
theorem dX7_howMany_38 : decode cX7_howMany 38 = .ok (.bipush (-6), 2) := by decide +kernel
theorem dX7_howMany_40 : decode cX7_howMany 40 = .ok (.if_icmp .ne 8, 3) := by decide +kernel
theorem dX7_howMany_43 : decode cX7_howMany 43 = .ok (.bipush (-6), 2) := by decide +kernel
theorem dX7_howMany_45 : decode cX7_howMany 45 = .ok (.goto 17, 3) := by decide +kernel
theorem dX7_howMany_48 : decode cX7_howMany 48 = .ok (.bipush 10, 2) := by decide +kernel
theorem dX7_howMany_50 : decode cX7_howMany 50 = .ok (.iload_n 2, 1) := by decide +kernel
theorem dX7_howMany_51 : decode cX7_howMany 51 = .ok (.imul, 1) := by decide +kernel
theorem dX7_howMany_52 : decode cX7_howMany 52 = .ok (.aload_n 0, 1) := by decide +kernel
theorem dX7_howMany_53 : decode cX7_howMany 53 = .ok (.getfield 19, 3) := by decide +kernel
theorem dX7_howMany_56 : decode cX7_howMany 56 = .ok (.iload_n 1, 1) := by decide +kernel
theorem dX7_howMany_57 : decode cX7_howMany 57 = .ok (.iload_n 2, 1) := by decide +kernel
theorem dX7_howMany_58 : decode cX7_howMany 58 = .ok (.invokevirtual 35, 3) := by decide +kernel
theorem dX7_howMany_61 : decode cX7_howMany 61 = .ok (.iadd, 1) := by decide +kernel
theorem dX7_howMany_62 : decode cX7_howMany 62 = .ok (.iastore, 1) := by decide +kernel
theorem dX7_howMany_63 : decode cX7_howMany 63 = .ok (.iinc 1 1, 3) := by decide +kernel
theorem dX7_howMany_66 : decode cX7_howMany 66 = .ok (.goto (-64), 3) := by decide +kernel
theorem dX7_howMany_69 : decode cX7_howMany 69 = .ok (.iconst 0, 1) := by decide +kernel
theorem dX7_howMany_70 : decode cX7_howMany 70 = .ok (.istore_n 1, 1) := by decide +kernel
theorem dX7_howMany_71 : decode cX7_howMany 71 = .ok (.iconst 0, 1) := by decide +kernel
theorem dX7_howMany_72 : decode cX7_howMany 72 = .ok (.istore_n 2, 1) := by decide +kernel
theorem dX7_howMany_73 : decode cX7_howMany 73 = .ok (.iload_n 2, 1) := by decide +kernel
theorem dX7_howMany_74 : decode cX7_howMany 74 = .ok (.iconst 4, 1) := by decide +kernel
theorem dX7_howMany_75 : decode cX7_howMany 75 = .ok (.if_icmp .ge 36, 3) := by decide +kernel
theorem dX7_howMany_78 : decode cX7_howMany 78 = .ok (.iload_n 2, 1) := by decide +kernel
theorem dX7_howMany_79 : decode cX7_howMany 79 = .ok (.iconst 1, 1) := by decide +kernel
theorem dX7_howMany_80 : decode cX7_howMany 80 = .ok (.iadd, 1) := by decide +kernel
theorem dX7_howMany_81 : decode cX7_howMany 81 = .ok (.istore_n 3, 1) := by decide +kernel
theorem dX7_howMany_82 : decode cX7_howMany 82 = .ok (.iload_n 3, 1) := by decide +kernel
theorem dX7_howMany_83 : decode cX7_howMany 83 = .ok (.iconst 4, 1) := by decide +kernel
theorem dX7_howMany_84 : decode cX7_howMany 84 = .ok (.if_icmp .ge 21, 3) := by decide +kernel
theorem dX7_howMany_87 : decode cX7_howMany 87 = .ok (.aload_n 0, 1) := by decide +kernel
theorem dX7_howMany_88 : decode cX7_howMany 88 = .ok (.iload_n 2, 1) := by decide +kernel
theorem dX7_howMany_89 : decode cX7_howMany 89 = .ok (.iload_n 3, 1) := by decide +kernel
theorem dX7_howMany_90 : decode cX7_howMany 90 = .ok (.invokevirtual 39, 3) := by decide +kernel
theorem dX7_howMany_93 : decode cX7_howMany 93 = .ok (.ifCond .eq 6, 3) := by decide +kernel
theorem dX7_howMany_96 : decode cX7_howMany 96 = .ok (.iinc 1 1, 3) := by decide +kernel
theorem dX7_howMany_99 : decode cX7_howMany 99 = .ok (.iinc 3 1, 3) := by decide +kernel
theorem dX7_howMany_102 : decode cX7_howMany 102 = .ok (.goto (-20), 3) := by decide +kernel
theorem dX7_howMany_105 : decode cX7_howMany 105 = .ok (.iinc 2 1, 3) := by decide +kernel
theorem dX7_howMany_108 : decode cX7_howMany 108 = .ok (.goto (-35), 3) := by decide +kernel
theorem dX7_howMany_111 : decode cX7_howMany 111 = .ok (.iload_n 1, 1) := by decide +kernel
theorem dX7_howMany_112 : decode cX7_howMany 112 = .ok (.ireturn, 1) := by decide +kernel
theorem dX7_atPlace_0 : decode cX7_atPlace 0 = .ok (.iload_n 1, 1) := by decide +kernel
theorem dX7_atPlace_1 : decode cX7_atPlace 1 = .ok (.ifCond .lt 11, 3) := by decide +kernel
theorem dX7_atPlace_4 : decode cX7_atPlace 4 = .ok (.iload_n 1, 1) := by decide +kernel
theorem dX7_atPlace_5 : decode cX7_atPlace 5 = .ok (.aload_n 0, 1) := by decide +kernel
theorem dX7_atPlace_6 : decode cX7_atPlace 6 = .ok (.invokevirtual 43, 3) := by decide +kernel
theorem dX7_atPlace_9 : decode cX7_atPlace 9 = .ok (.if_icmp .lt 6, 3) := by decide +kernel
theorem dX7_atPlace_12 : decode cX7_atPlace 12 = .ok (.bipush (-6), 2) := by decide +kernel
theorem dX7_atPlace_14 : decode cX7_atPlace 14 = .ok (.ireturn, 1) := by decide +kernel
theorem dX7_atPlace_15 : decode cX7_atPlace 15 = .ok (.iload_n 1, 1) := by decide +kernel
theorem dX7_atPlace_16 : decode cX7_atPlace 16 = .ok (.istore_n 2, 1) := by decide +kernel
theorem dX7_atPlace_17 : decode cX7_atPlace 17 = .ok (.iconst 0, 1) := by decide +kernel
theorem dX7_atPlace_18 : decode cX7_atPlace 18 = .ok (.istore_n 3, 1) := by decide +kernel
theorem dX7_atPlace_19 : decode cX7_atPlace 19 = .ok (.iload_n 3, 1) := by decide +kernel
theorem dX7_atPlace_20 : decode cX7_atPlace 20 = .ok (.iconst 4, 1) := by decide +kernel
theorem dX7_atPlace_21 : decode cX7_atPlace 21 = .ok (.if_icmp .ge 54, 3) := by decide +kernel
theorem dX7_atPlace_24 : decode cX7_atPlace 24 = .ok (.iload_n 3, 1) := by decide +kernel
theorem dX7_atPlace_25 : decode cX7_atPlace 25 = .ok (.iconst 1, 1) := by decide +kernel
theorem dX7_atPlace_26 : decode cX7_atPlace 26 = .ok (.iadd, 1) := by decide +kernel
theorem dX7_atPlace_27 : decode cX7_atPlace 27 = .ok (.istore 4, 2) := by decide +kernel
theorem dX7_atPlace_29 : decode cX7_atPlace 29 = .ok (.iload 4, 2) := by decide +kernel
theorem dX7_atPlace_31 : decode cX7_atPlace 31 = .ok (.iconst 4, 1) := by decide +kernel
theorem dX7_atPlace_32 : decode cX7_atPlace 32 = .ok (.if_icmp .ge 37, 3) := by decide +kernel
theorem dX7_atPlace_35 : decode cX7_atPlace 35 = .ok (.aload_n 0, 1) := by decide +kernel
theorem dX7_atPlace_36 : decode cX7_atPlace 36 = .ok (.iload_n 3, 1) := by decide +kernel
theorem dX7_atPlace_37 : decode cX7_atPlace 37 = .ok (.iload 4, 2) := by decide +kernel
theorem dX7_atPlace_39 : decode cX7_atPlace 39 = .ok (.invokevirtual 39, 3) := by decide +kernel
theorem dX7_atPlace_42 : decode cX7_atPlace 42 = .ok (.ifCond .ne 6, 3) := by decide +kernel
theorem dX7_atPlace_45 : decode cX7_atPlace 45 = .ok (.goto 18, 3) := by decide +kernel
theorem dX7_atPlace_48 : decode cX7_atPlace 48 = .ok (.iload_n 2, 1) := by decide +kernel
theorem dX7_atPlace_49 : decode cX7_atPlace 49 = .ok (.ifCond .ne 11, 3) := by decide +kernel
theorem dX7_atPlace_52 : decode cX7_atPlace 52 = .ok (.bipush 10, 2) := by decide +kernel
theorem dX7_atPlace_54 : decode cX7_atPlace 54 = .ok (.iload_n 3, 1) := by decide +kernel
theorem dX7_atPlace_55 : decode cX7_atPlace 55 = .ok (.imul, 1) := by decide +kernel
theorem dX7_atPlace_56 : decode cX7_atPlace 56 = .ok (.iload 4, 2) := by decide +kernel
theorem dX7_atPlace_58 : decode cX7_atPlace 58 = .ok (.iadd, 1) := by decide +kernel
theorem dX7_atPlace_59 : decode cX7_atPlace 59 = .ok (.ireturn, 1) := by decide +kernel
theorem dX7_atPlace_60 : decode cX7_atPlace 60 = .ok (.iinc 2 (-1), 3) := by decide +kernel
theorem dX7_atPlace_63 : decode cX7_atPlace 63 = .ok (.iinc 4 1, 3) := by decide +kernel
theorem dX7_atPlace_66 : decode cX7_atPlace 66 = .ok (.goto (-37), 3) := by decide +kernel
theorem dX7_atPlace_69 : decode cX7_atPlace 69 = .ok (.iinc 3 1, 3) := by decide +kernel
theorem dX7_atPlace_72 : decode cX7_atPlace 72 = .ok (.goto (-53), 3) := by decide +kernel
theorem dX7_atPlace_75 : decode cX7_atPlace 75 = .ok (.bipush (-6), 2) := by decide +kernel
theorem dX7_atPlace_77 : decode cX7_atPlace 77 = .ok (.ireturn, 1) := by decide +kernel
theorem dX7_fewestLaidAnew_0 : decode cX7_fewestLaidAnew 0 = .ok (.aload_n 0, 1) := by decide +kernel
theorem dX7_fewestLaidAnew_1 : decode cX7_fewestLaidAnew 1 = .ok (.invokevirtual 43, 3) := by decide +kernel
theorem dX7_fewestLaidAnew_4 : decode cX7_fewestLaidAnew 4 = .ok (.ifCond .ne 5, 3) := by decide +kernel
theorem dX7_fewestLaidAnew_7 : decode cX7_fewestLaidAnew 7 = .ok (.iconst 0, 1) := by decide +kernel
theorem dX7_fewestLaidAnew_8 : decode cX7_fewestLaidAnew 8 = .ok (.ireturn, 1) := by decide +kernel
theorem dX7_fewestLaidAnew_9 : decode cX7_fewestLaidAnew 9 = .ok (.iconst 0, 1) := by decide +kernel
theorem dX7_fewestLaidAnew_10 : decode cX7_fewestLaidAnew 10 = .ok (.istore_n 1, 1) := by decide +kernel
theorem dX7_fewestLaidAnew_11 : decode cX7_fewestLaidAnew 11 = .ok (.iload_n 1, 1) := by decide +kernel
theorem dX7_fewestLaidAnew_12 : decode cX7_fewestLaidAnew 12 = .ok (.aload_n 0, 1) := by decide +kernel
theorem dX7_fewestLaidAnew_13 : decode cX7_fewestLaidAnew 13 = .ok (.getfield 15, 3) := by decide +kernel
theorem dX7_fewestLaidAnew_16 : decode cX7_fewestLaidAnew 16 = .ok (.getfield 47, 3) := by decide +kernel
theorem dX7_fewestLaidAnew_19 : decode cX7_fewestLaidAnew 19 = .ok (.if_icmp .ge 22, 3) := by decide +kernel
theorem dX7_fewestLaidAnew_22 : decode cX7_fewestLaidAnew 22 = .ok (.aload_n 0, 1) := by decide +kernel
theorem dX7_fewestLaidAnew_23 : decode cX7_fewestLaidAnew 23 = .ok (.iload_n 1, 1) := by decide +kernel
theorem dX7_fewestLaidAnew_24 : decode cX7_fewestLaidAnew 24 = .ok (.iload_n 1, 1) := by decide +kernel
theorem dX7_fewestLaidAnew_25 : decode cX7_fewestLaidAnew 25 = .ok (.invokevirtual 51, 3) := by decide +kernel
theorem dX7_fewestLaidAnew_28 : decode cX7_fewestLaidAnew 28 = .ok (.ifCond .eq 7, 3) := by decide +kernel
theorem dX7_fewestLaidAnew_31 : decode cX7_fewestLaidAnew 31 = .ok (.iconst 1, 1) := by decide +kernel
theorem dX7_fewestLaidAnew_32 : decode cX7_fewestLaidAnew 32 = .ok (.iload_n 1, 1) := by decide +kernel
theorem dX7_fewestLaidAnew_33 : decode cX7_fewestLaidAnew 33 = .ok (.ishl, 1) := by decide +kernel
theorem dX7_fewestLaidAnew_34 : decode cX7_fewestLaidAnew 34 = .ok (.ireturn, 1) := by decide +kernel
theorem dX7_fewestLaidAnew_35 : decode cX7_fewestLaidAnew 35 = .ok (.iinc 1 1, 3) := by decide +kernel
theorem dX7_fewestLaidAnew_38 : decode cX7_fewestLaidAnew 38 = .ok (.goto (-27), 3) := by decide +kernel
theorem dX7_fewestLaidAnew_41 : decode cX7_fewestLaidAnew 41 = .ok (.iconst 1, 1) := by decide +kernel
theorem dX7_fewestLaidAnew_42 : decode cX7_fewestLaidAnew 42 = .ok (.istore_n 1, 1) := by decide +kernel
theorem dX7_fewestLaidAnew_43 : decode cX7_fewestLaidAnew 43 = .ok (.iload_n 1, 1) := by decide +kernel
theorem dX7_fewestLaidAnew_44 : decode cX7_fewestLaidAnew 44 = .ok (.aload_n 0, 1) := by decide +kernel
theorem dX7_fewestLaidAnew_45 : decode cX7_fewestLaidAnew 45 = .ok (.getfield 15, 3) := by decide +kernel
theorem dX7_fewestLaidAnew_48 : decode cX7_fewestLaidAnew 48 = .ok (.getfield 47, 3) := by decide +kernel
theorem dX7_fewestLaidAnew_51 : decode cX7_fewestLaidAnew 51 = .ok (.if_icmp .ge 39, 3) := by decide +kernel
theorem dX7_fewestLaidAnew_54 : decode cX7_fewestLaidAnew 54 = .ok (.iconst 0, 1) := by decide +kernel
theorem dX7_fewestLaidAnew_55 : decode cX7_fewestLaidAnew 55 = .ok (.istore_n 2, 1) := by decide +kernel
theorem dX7_fewestLaidAnew_56 : decode cX7_fewestLaidAnew 56 = .ok (.iload_n 2, 1) := by decide +kernel
theorem dX7_fewestLaidAnew_57 : decode cX7_fewestLaidAnew 57 = .ok (.iload_n 1, 1) := by decide +kernel
theorem dX7_fewestLaidAnew_58 : decode cX7_fewestLaidAnew 58 = .ok (.if_icmp .ge 26, 3) := by decide +kernel
theorem dX7_fewestLaidAnew_61 : decode cX7_fewestLaidAnew 61 = .ok (.aload_n 0, 1) := by decide +kernel
theorem dX7_fewestLaidAnew_62 : decode cX7_fewestLaidAnew 62 = .ok (.iload_n 2, 1) := by decide +kernel
theorem dX7_fewestLaidAnew_63 : decode cX7_fewestLaidAnew 63 = .ok (.iload_n 1, 1) := by decide +kernel
theorem dX7_fewestLaidAnew_64 : decode cX7_fewestLaidAnew 64 = .ok (.invokevirtual 51, 3) := by decide +kernel
theorem dX7_fewestLaidAnew_67 : decode cX7_fewestLaidAnew 67 = .ok (.ifCond .eq 11, 3) := by decide +kernel
theorem dX7_fewestLaidAnew_70 : decode cX7_fewestLaidAnew 70 = .ok (.iconst 1, 1) := by decide +kernel
theorem dX7_fewestLaidAnew_71 : decode cX7_fewestLaidAnew 71 = .ok (.iload_n 2, 1) := by decide +kernel
theorem dX7_fewestLaidAnew_72 : decode cX7_fewestLaidAnew 72 = .ok (.ishl, 1) := by decide +kernel
theorem dX7_fewestLaidAnew_73 : decode cX7_fewestLaidAnew 73 = .ok (.iconst 1, 1) := by decide +kernel
theorem dX7_fewestLaidAnew_74 : decode cX7_fewestLaidAnew 74 = .ok (.iload_n 1, 1) := by decide +kernel
theorem dX7_fewestLaidAnew_75 : decode cX7_fewestLaidAnew 75 = .ok (.ishl, 1) := by decide +kernel
theorem dX7_fewestLaidAnew_76 : decode cX7_fewestLaidAnew 76 = .ok (.ior, 1) := by decide +kernel
theorem dX7_fewestLaidAnew_77 : decode cX7_fewestLaidAnew 77 = .ok (.ireturn, 1) := by decide +kernel
theorem dX7_fewestLaidAnew_78 : decode cX7_fewestLaidAnew 78 = .ok (.iinc 2 1, 3) := by decide +kernel
theorem dX7_fewestLaidAnew_81 : decode cX7_fewestLaidAnew 81 = .ok (.goto (-25), 3) := by decide +kernel
theorem dX7_fewestLaidAnew_84 : decode cX7_fewestLaidAnew 84 = .ok (.iinc 1 1, 3) := by decide +kernel
theorem dX7_fewestLaidAnew_87 : decode cX7_fewestLaidAnew 87 = .ok (.goto (-44), 3) := by decide +kernel
theorem dX7_fewestLaidAnew_90 : decode cX7_fewestLaidAnew 90 = .ok (.bipush (-6), 2) := by decide +kernel
theorem dX7_fewestLaidAnew_92 : decode cX7_fewestLaidAnew 92 = .ok (.ireturn, 1) := by decide +kernel
theorem dX7_helps_0 : decode cX7_helps 0 = .ok (.aload_n 0, 1) := by decide +kernel
theorem dX7_helps_1 : decode cX7_helps 1 = .ok (.getfield 15, 3) := by decide +kernel
theorem dX7_helps_4 : decode cX7_helps 4 = .ok (.getfield 54, 3) := by decide +kernel
theorem dX7_helps_7 : decode cX7_helps 7 = .ok (.iload_n 1, 1) := by decide +kernel
theorem dX7_helps_8 : decode cX7_helps 8 = .ok (.ishr, 1) := by decide +kernel
theorem dX7_helps_9 : decode cX7_helps 9 = .ok (.iconst 1, 1) := by decide +kernel
theorem dX7_helps_10 : decode cX7_helps 10 = .ok (.iand, 1) := by decide +kernel
theorem dX7_helps_11 : decode cX7_helps 11 = .ok (.iconst 1, 1) := by decide +kernel
theorem dX7_helps_12 : decode cX7_helps 12 = .ok (.if_icmp .eq 18, 3) := by decide +kernel
theorem dX7_helps_15 : decode cX7_helps 15 = .ok (.aload_n 0, 1) := by decide +kernel
theorem dX7_helps_16 : decode cX7_helps 16 = .ok (.getfield 15, 3) := by decide +kernel
theorem dX7_helps_19 : decode cX7_helps 19 = .ok (.getfield 54, 3) := by decide +kernel
theorem dX7_helps_22 : decode cX7_helps 22 = .ok (.iload_n 2, 1) := by decide +kernel
theorem dX7_helps_23 : decode cX7_helps 23 = .ok (.ishr, 1) := by decide +kernel
theorem dX7_helps_24 : decode cX7_helps 24 = .ok (.iconst 1, 1) := by decide +kernel
theorem dX7_helps_25 : decode cX7_helps 25 = .ok (.iand, 1) := by decide +kernel
theorem dX7_helps_26 : decode cX7_helps 26 = .ok (.iconst 1, 1) := by decide +kernel
theorem dX7_helps_27 : decode cX7_helps 27 = .ok (.if_icmp .ne 5, 3) := by decide +kernel
theorem dX7_helps_30 : decode cX7_helps 30 = .ok (.iconst 0, 1) := by decide +kernel
theorem dX7_helps_31 : decode cX7_helps 31 = .ok (.ireturn, 1) := by decide +kernel
theorem dX7_helps_32 : decode cX7_helps 32 = .ok (.iconst 0, 1) := by decide +kernel
theorem dX7_helps_33 : decode cX7_helps 33 = .ok (.istore_n 3, 1) := by decide +kernel
theorem dX7_helps_34 : decode cX7_helps 34 = .ok (.iconst 0, 1) := by decide +kernel
theorem dX7_helps_35 : decode cX7_helps 35 = .ok (.istore 4, 2) := by decide +kernel
theorem dX7_helps_37 : decode cX7_helps 37 = .ok (.iload 4, 2) := by decide +kernel
theorem dX7_helps_39 : decode cX7_helps 39 = .ok (.bipush 9, 2) := by decide +kernel
theorem dX7_helps_41 : decode cX7_helps 41 = .ok (.if_icmp .gt 68, 3) := by decide +kernel
theorem dX7_helps_44 : decode cX7_helps 44 = .ok (.iload_n 3, 1) := by decide +kernel
theorem dX7_helps_45 : decode cX7_helps 45 = .ok (.ifCond .ne 64, 3) := by decide +kernel
theorem dX7_helps_48 : decode cX7_helps 48 = .ok (.iconst 0, 1) := by decide +kernel
theorem dX7_helps_49 : decode cX7_helps 49 = .ok (.istore 5, 2) := by decide +kernel
theorem dX7_helps_51 : decode cX7_helps 51 = .ok (.iload 5, 2) := by decide +kernel
theorem dX7_helps_53 : decode cX7_helps 53 = .ok (.bipush 9, 2) := by decide +kernel
theorem dX7_helps_55 : decode cX7_helps 55 = .ok (.if_icmp .gt 48, 3) := by decide +kernel
theorem dX7_helps_58 : decode cX7_helps 58 = .ok (.iload_n 3, 1) := by decide +kernel
theorem dX7_helps_59 : decode cX7_helps 59 = .ok (.ifCond .ne 44, 3) := by decide +kernel
theorem dX7_helps_62 : decode cX7_helps 62 = .ok (.aload_n 0, 1) := by decide +kernel
theorem dX7_helps_63 : decode cX7_helps 63 = .ok (.getfield 19, 3) := by decide +kernel
theorem dX7_helps_66 : decode cX7_helps 66 = .ok (.getfield 57, 3) := by decide +kernel
theorem dX7_helps_69 : decode cX7_helps 69 = .ok (.iload_n 1, 1) := by decide +kernel
theorem dX7_helps_70 : decode cX7_helps 70 = .ok (.iload 4, 2) := by decide +kernel
theorem dX7_helps_72 : decode cX7_helps 72 = .ok (.iastore, 1) := by decide +kernel
theorem dX7_helps_73 : decode cX7_helps 73 = .ok (.aload_n 0, 1) := by decide +kernel
theorem dX7_helps_74 : decode cX7_helps 74 = .ok (.getfield 19, 3) := by decide +kernel
theorem dX7_helps_77 : decode cX7_helps 77 = .ok (.getfield 57, 3) := by decide +kernel
theorem dX7_helps_80 : decode cX7_helps 80 = .ok (.iload_n 2, 1) := by decide +kernel
theorem dX7_helps_81 : decode cX7_helps 81 = .ok (.iload 5, 2) := by decide +kernel
theorem dX7_helps_83 : decode cX7_helps 83 = .ok (.iastore, 1) := by decide +kernel
theorem dX7_helps_84 : decode cX7_helps 84 = .ok (.aload_n 0, 1) := by decide +kernel
theorem dX7_helps_85 : decode cX7_helps 85 = .ok (.invokevirtual 43, 3) := by decide +kernel
theorem dX7_helps_88 : decode cX7_helps 88 = .ok (.ifCond .ne 7, 3) := by decide +kernel
theorem dX7_helps_91 : decode cX7_helps 91 = .ok (.iconst 1, 1) := by decide +kernel
theorem dX7_helps_92 : decode cX7_helps 92 = .ok (.goto 4, 3) := by decide +kernel
theorem dX7_helps_95 : decode cX7_helps 95 = .ok (.iconst 0, 1) := by decide +kernel
theorem dX7_helps_96 : decode cX7_helps 96 = .ok (.istore_n 3, 1) := by decide +kernel
theorem dX7_helps_97 : decode cX7_helps 97 = .ok (.iinc 5 1, 3) := by decide +kernel
theorem dX7_helps_100 : decode cX7_helps 100 = .ok (.goto (-49), 3) := by decide +kernel
theorem dX7_helps_103 : decode cX7_helps 103 = .ok (.iinc 4 1, 3) := by decide +kernel
theorem dX7_helps_106 : decode cX7_helps 106 = .ok (.goto (-69), 3) := by decide +kernel
theorem dX7_helps_109 : decode cX7_helps 109 = .ok (.aload_n 0, 1) := by decide +kernel
theorem dX7_helps_110 : decode cX7_helps 110 = .ok (.getfield 19, 3) := by decide +kernel
theorem dX7_helps_113 : decode cX7_helps 113 = .ok (.getfield 57, 3) := by decide +kernel
theorem dX7_helps_116 : decode cX7_helps 116 = .ok (.iload_n 1, 1) := by decide +kernel
theorem dX7_helps_117 : decode cX7_helps 117 = .ok (.aload_n 0, 1) := by decide +kernel
theorem dX7_helps_118 : decode cX7_helps 118 = .ok (.getfield 15, 3) := by decide +kernel
theorem dX7_helps_121 : decode cX7_helps 121 = .ok (.getfield 60, 3) := by decide +kernel
theorem dX7_helps_124 : decode cX7_helps 124 = .ok (.iload_n 1, 1) := by decide +kernel
theorem dX7_helps_125 : decode cX7_helps 125 = .ok (.iaload, 1) := by decide +kernel
theorem dX7_helps_126 : decode cX7_helps 126 = .ok (.iastore, 1) := by decide +kernel
theorem dX7_helps_127 : decode cX7_helps 127 = .ok (.aload_n 0, 1) := by decide +kernel
theorem dX7_helps_128 : decode cX7_helps 128 = .ok (.getfield 19, 3) := by decide +kernel
theorem dX7_helps_131 : decode cX7_helps 131 = .ok (.getfield 57, 3) := by decide +kernel
theorem dX7_helps_134 : decode cX7_helps 134 = .ok (.iload_n 2, 1) := by decide +kernel
theorem dX7_helps_135 : decode cX7_helps 135 = .ok (.aload_n 0, 1) := by decide +kernel
theorem dX7_helps_136 : decode cX7_helps 136 = .ok (.getfield 15, 3) := by decide +kernel
theorem dX7_helps_139 : decode cX7_helps 139 = .ok (.getfield 60, 3) := by decide +kernel
theorem dX7_helps_142 : decode cX7_helps 142 = .ok (.iload_n 2, 1) := by decide +kernel
theorem dX7_helps_143 : decode cX7_helps 143 = .ok (.iaload, 1) := by decide +kernel
theorem dX7_helps_144 : decode cX7_helps 144 = .ok (.iastore, 1) := by decide +kernel
theorem dX7_helps_145 : decode cX7_helps 145 = .ok (.iload_n 3, 1) := by decide +kernel
theorem dX7_helps_146 : decode cX7_helps 146 = .ok (.ireturn, 1) := by decide +kernel
