theorem dX8_init_0 : decode cX8_init 0 = .ok (.aload_n 0, 1) := by decide +kernel
theorem dX8_init_1 : decode cX8_init 1 = .ok (.invokespecial 1, 3) := by decide +kernel
theorem dX8_init_4 : decode cX8_init 4 = .ok (.aload_n 0, 1) := by decide +kernel
theorem dX8_init_5 : decode cX8_init 5 = .ok (.new 7, 3) := by decide +kernel
theorem dX8_init_8 : decode cX8_init 8 = .ok (.dup, 1) := by decide +kernel
theorem dX8_init_9 : decode cX8_init 9 = .ok (.invokespecial 9, 3) := by decide +kernel
theorem dX8_init_12 : decode cX8_init 12 = .ok (.putfield 10, 3) := by decide +kernel
theorem dX8_init_15 : decode cX8_init 15 = .ok (.aload_n 0, 1) := by decide +kernel
theorem dX8_init_16 : decode cX8_init 16 = .ok (.iconst 2, 1) := by decide +kernel
theorem dX8_init_17 : decode cX8_init 17 = .ok (.anewarray 7, 3) := by decide +kernel
theorem dX8_init_20 : decode cX8_init 20 = .ok (.dup, 1) := by decide +kernel
theorem dX8_init_21 : decode cX8_init 21 = .ok (.iconst 0, 1) := by decide +kernel
theorem dX8_init_22 : decode cX8_init 22 = .ok (.new 7, 3) := by decide +kernel
theorem dX8_init_25 : decode cX8_init 25 = .ok (.dup, 1) := by decide +kernel
theorem dX8_init_26 : decode cX8_init 26 = .ok (.invokespecial 9, 3) := by decide +kernel
theorem dX8_init_29 : decode cX8_init 29 = .ok (.aastore, 1) := by decide +kernel
theorem dX8_init_30 : decode cX8_init 30 = .ok (.dup, 1) := by decide +kernel
theorem dX8_init_31 : decode cX8_init 31 = .ok (.iconst 1, 1) := by decide +kernel
theorem dX8_init_32 : decode cX8_init 32 = .ok (.new 7, 3) := by decide +kernel
theorem dX8_init_35 : decode cX8_init 35 = .ok (.dup, 1) := by decide +kernel
theorem dX8_init_36 : decode cX8_init 36 = .ok (.invokespecial 9, 3) := by decide +kernel
theorem dX8_init_39 : decode cX8_init 39 = .ok (.aastore, 1) := by decide +kernel
theorem dX8_init_40 : decode cX8_init 40 = .ok (.putfield 16, 3) := by decide +kernel
theorem dX8_init_43 : decode cX8_init 43 = .ok (.aload_n 0, 1) := by decide +kernel
theorem dX8_init_44 : decode cX8_init 44 = .ok (.iconst 2, 1) := by decide +kernel
theorem dX8_init_45 : decode cX8_init 45 = .ok (.newarray .boolean, 2) := by decide +kernel
theorem dX8_init_47 : decode cX8_init 47 = .ok (.putfield 20, 3) := by decide +kernel
theorem dX8_init_50 : decode cX8_init 50 = .ok (.aload_n 0, 1) := by decide +kernel
theorem dX8_init_51 : decode cX8_init 51 = .ok (.new 24, 3) := by decide +kernel
theorem dX8_init_54 : decode cX8_init 54 = .ok (.dup, 1) := by decide +kernel
theorem dX8_init_55 : decode cX8_init 55 = .ok (.invokespecial 26, 3) := by decide +kernel
theorem dX8_init_58 : decode cX8_init 58 = .ok (.putfield 27, 3) := by decide +kernel
theorem dX8_init_61 : decode cX8_init 61 = .ok (.aload_n 0, 1) := by decide +kernel
theorem dX8_init_62 : decode cX8_init 62 = .ok (.new 31, 3) := by decide +kernel
theorem dX8_init_65 : decode cX8_init 65 = .ok (.dup, 1) := by decide +kernel
theorem dX8_init_66 : decode cX8_init 66 = .ok (.aload_n 0, 1) := by decide +kernel
theorem dX8_init_67 : decode cX8_init 67 = .ok (.getfield 10, 3) := by decide +kernel
theorem dX8_init_70 : decode cX8_init 70 = .ok (.invokespecial 33, 3) := by decide +kernel
theorem dX8_init_73 : decode cX8_init 73 = .ok (.putfield 36, 3) := by decide +kernel
theorem dX8_init_76 : decode cX8_init 76 = .ok (.aload_n 0, 1) := by decide +kernel
theorem dX8_init_77 : decode cX8_init 77 = .ok (.new 40, 3) := by decide +kernel
theorem dX8_init_80 : decode cX8_init 80 = .ok (.dup, 1) := by decide +kernel
theorem dX8_init_81 : decode cX8_init 81 = .ok (.aload_n 0, 1) := by decide +kernel
theorem dX8_init_82 : decode cX8_init 82 = .ok (.getfield 10, 3) := by decide +kernel
theorem dX8_init_85 : decode cX8_init 85 = .ok (.aload_n 0, 1) := by decide +kernel
theorem dX8_init_86 : decode cX8_init 86 = .ok (.getfield 36, 3) := by decide +kernel
theorem dX8_init_89 : decode cX8_init 89 = .ok (.invokespecial 42, 3) := by decide +kernel
theorem dX8_init_92 : decode cX8_init 92 = .ok (.putfield 45, 3) := by decide +kernel
theorem dX8_init_95 : decode cX8_init 95 = .ok (.aload_n 0, 1) := by decide +kernel
theorem dX8_init_96 : decode cX8_init 96 = .ok (.new 49, 3) := by decide +kernel
theorem dX8_init_99 : decode cX8_init 99 = .ok (.dup, 1) := by decide +kernel
theorem dX8_init_100 : decode cX8_init 100 = .ok (.aload_n 0, 1) := by decide +kernel
theorem dX8_init_101 : decode cX8_init 101 = .ok (.getfield 10, 3) := by decide +kernel
theorem dX8_init_104 : decode cX8_init 104 = .ok (.aload_n 0, 1) := by decide +kernel
theorem dX8_init_105 : decode cX8_init 105 = .ok (.getfield 36, 3) := by decide +kernel
theorem dX8_init_108 : decode cX8_init 108 = .ok (.invokespecial 51, 3) := by decide +kernel
theorem dX8_init_111 : decode cX8_init 111 = .ok (.putfield 52, 3) := by decide +kernel
theorem dX8_init_114 : decode cX8_init 114 = .ok (.aload_n 0, 1) := by decide +kernel
theorem dX8_init_115 : decode cX8_init 115 = .ok (.new 56, 3) := by decide +kernel
theorem dX8_init_118 : decode cX8_init 118 = .ok (.dup, 1) := by decide +kernel
theorem dX8_init_119 : decode cX8_init 119 = .ok (.aload_n 0, 1) := by decide +kernel
theorem dX8_init_120 : decode cX8_init 120 = .ok (.getfield 10, 3) := by decide +kernel
theorem dX8_init_123 : decode cX8_init 123 = .ok (.aload_n 0, 1) := by decide +kernel
theorem dX8_init_124 : decode cX8_init 124 = .ok (.getfield 36, 3) := by decide +kernel
theorem dX8_init_127 : decode cX8_init 127 = .ok (.invokespecial 58, 3) := by decide +kernel
theorem dX8_init_130 : decode cX8_init 130 = .ok (.putfield 59, 3) := by decide +kernel
theorem dX8_init_133 : decode cX8_init 133 = .ok (.aload_n 0, 1) := by decide +kernel
theorem dX8_init_134 : decode cX8_init 134 = .ok (.new 63, 3) := by decide +kernel
theorem dX8_init_137 : decode cX8_init 137 = .ok (.dup, 1) := by decide +kernel
theorem dX8_init_138 : decode cX8_init 138 = .ok (.aload_n 0, 1) := by decide +kernel
theorem dX8_init_139 : decode cX8_init 139 = .ok (.getfield 36, 3) := by decide +kernel
theorem dX8_init_142 : decode cX8_init 142 = .ok (.invokespecial 65, 3) := by decide +kernel
theorem dX8_init_145 : decode cX8_init 145 = .ok (.putfield 68, 3) := by decide +kernel
theorem dX8_init_148 : decode cX8_init 148 = .ok (.aload_n 0, 1) := by decide +kernel
theorem dX8_init_149 : decode cX8_init 149 = .ok (.new 72, 3) := by decide +kernel
theorem dX8_init_152 : decode cX8_init 152 = .ok (.dup, 1) := by decide +kernel
theorem dX8_init_153 : decode cX8_init 153 = .ok (.aload_n 0, 1) := by decide +kernel
theorem dX8_init_154 : decode cX8_init 154 = .ok (.getfield 10, 3) := by decide +kernel
theorem dX8_init_157 : decode cX8_init 157 = .ok (.aload_n 0, 1) := by decide +kernel
theorem dX8_init_158 : decode cX8_init 158 = .ok (.getfield 36, 3) := by decide +kernel
theorem dX8_init_161 : decode cX8_init 161 = .ok (.invokespecial 74, 3) := by decide +kernel
theorem dX8_init_164 : decode cX8_init 164 = .ok (.putfield 75, 3) := by decide +kernel
theorem dX8_init_167 : decode cX8_init 167 = .ok (.return_, 1) := by decide +kernel
theorem dX8_things_0 : decode cX8_things 0 = .ok (.iload_n 1, 1) := by decide +kernel
theorem dX8_things_1 : decode cX8_things 1 = .ok (.iconst 1, 1) := by decide +kernel
theorem dX8_things_2 : decode cX8_things 2 = .ok (.if_icmp .lt 9, 3) := by decide +kernel
theorem dX8_things_5 : decode cX8_things 5 = .ok (.iload_n 1, 1) := by decide +kernel
theorem dX8_things_6 : decode cX8_things 6 = .ok (.bipush 7, 2) := by decide +kernel
theorem dX8_things_8 : decode cX8_things 8 = .ok (.if_icmp .le 6, 3) := by decide +kernel
theorem dX8_things_11 : decode cX8_things 11 = .ok (.bipush (-2), 2) := by decide +kernel
theorem dX8_things_13 : decode cX8_things 13 = .ok (.ireturn, 1) := by decide +kernel
theorem dX8_things_14 : decode cX8_things 14 = .ok (.aload_n 0, 1) := by decide +kernel
theorem dX8_things_15 : decode cX8_things 15 = .ok (.getfield 10, 3) := by decide +kernel
theorem dX8_things_18 : decode cX8_things 18 = .ok (.getfield 79, 3) := by decide +kernel
theorem dX8_things_21 : decode cX8_things 21 = .ok (.istore_n 2, 1) := by decide +kernel
theorem dX8_things_22 : decode cX8_things 22 = .ok (.aload_n 0, 1) := by decide +kernel
theorem dX8_things_23 : decode cX8_things 23 = .ok (.getfield 10, 3) := by decide +kernel
theorem dX8_things_26 : decode cX8_things 26 = .ok (.iload_n 1, 1) := by decide +kernel
theorem dX8_things_27 : decode cX8_things 27 = .ok (.invokevirtual 83, 3) := by decide +kernel
theorem dX8_things_30 : decode cX8_things 30 = .ok (.iload_n 2, 1) := by decide +kernel
theorem dX8_things_31 : decode cX8_things 31 = .ok (.ireturn, 1) := by decide +kernel
theorem dX8_thing_0 : decode cX8_thing 0 = .ok (.aload_n 0, 1) := by decide +kernel
theorem dX8_thing_1 : decode cX8_thing 1 = .ok (.getfield 10, 3) := by decide +kernel
theorem dX8_thing_4 : decode cX8_thing 4 = .ok (.iload_n 1, 1) := by decide +kernel
theorem dX8_thing_5 : decode cX8_thing 5 = .ok (.invokevirtual 87, 3) := by decide +kernel
theorem dX8_thing_8 : decode cX8_thing 8 = .ok (.ifCond .ne 5, 3) := by decide +kernel
theorem dX8_thing_11 : decode cX8_thing 11 = .ok (.iconst (-1), 1) := by decide +kernel
theorem dX8_thing_12 : decode cX8_thing 12 = .ok (.ireturn, 1) := by decide +kernel
theorem dX8_thing_13 : decode cX8_thing 13 = .ok (.iload_n 2, 1) := by decide +kernel
theorem dX8_thing_14 : decode cX8_thing 14 = .ok (.ifCond .lt 8, 3) := by decide +kernel
theorem dX8_thing_17 : decode cX8_thing 17 = .ok (.iload_n 2, 1) := by decide +kernel
theorem dX8_thing_18 : decode cX8_thing 18 = .ok (.iconst 3, 1) := by decide +kernel
theorem dX8_thing_19 : decode cX8_thing 19 = .ok (.if_icmp .le 6, 3) := by decide +kernel
theorem dX8_thing_22 : decode cX8_thing 22 = .ok (.bipush (-2), 2) := by decide +kernel
theorem dX8_thing_24 : decode cX8_thing 24 = .ok (.ireturn, 1) := by decide +kernel
theorem dX8_thing_25 : decode cX8_thing 25 = .ok (.iload_n 3, 1) := by decide +kernel
theorem dX8_thing_26 : decode cX8_thing 26 = .ok (.ifCond .lt 18, 3) := by decide +kernel
theorem dX8_thing_29 : decode cX8_thing 29 = .ok (.iload_n 3, 1) := by decide +kernel
theorem dX8_thing_30 : decode cX8_thing 30 = .ok (.iload_n 2, 1) := by decide +kernel
theorem dX8_thing_31 : decode cX8_thing 31 = .ok (.iconst 2, 1) := by decide +kernel
theorem dX8_thing_32 : decode cX8_thing 32 = .ok (.if_icmp .ne 7, 3) := by decide +kernel
theorem dX8_thing_35 : decode cX8_thing 35 = .ok (.iconst 1, 1) := by decide +kernel
theorem dX8_thing_36 : decode cX8_thing 36 = .ok (.goto 5, 3) := by decide +kernel
theorem dX8_thing_39 : decode cX8_thing 39 = .ok (.bipush 9, 2) := by decide +kernel
theorem dX8_thing_41 : decode cX8_thing 41 = .ok (.if_icmp .le 6, 3) := by decide +kernel
theorem dX8_thing_44 : decode cX8_thing 44 = .ok (.bipush (-2), 2) := by decide +kernel
theorem dX8_thing_46 : decode cX8_thing 46 = .ok (.ireturn, 1) := by decide +kernel
theorem dX8_thing_47 : decode cX8_thing 47 = .ok (.iload_n 2, 1) := by decide +kernel
theorem dX8_thing_48 : decode cX8_thing 48 = .ok (.iconst 3, 1) := by decide +kernel
theorem dX8_thing_49 : decode cX8_thing 49 = .ok (.if_icmp .ne 19, 3) := by decide +kernel
theorem dX8_thing_52 : decode cX8_thing 52 = .ok (.iload_n 3, 1) := by decide +kernel
theorem dX8_thing_53 : decode cX8_thing 53 = .ok (.aload_n 0, 1) := by decide +kernel
theorem dX8_thing_54 : decode cX8_thing 54 = .ok (.getfield 10, 3) := by decide +kernel
theorem dX8_thing_57 : decode cX8_thing 57 = .ok (.getfield 91, 3) := by decide +kernel
theorem dX8_thing_60 : decode cX8_thing 60 = .ok (.iload_n 1, 1) := by decide +kernel
theorem dX8_thing_61 : decode cX8_thing 61 = .ok (.iaload, 1) := by decide +kernel
theorem dX8_thing_62 : decode cX8_thing 62 = .ok (.if_icmp .le 6, 3) := by decide +kernel
theorem dX8_thing_65 : decode cX8_thing 65 = .ok (.bipush (-3), 2) := by decide +kernel
theorem dX8_thing_67 : decode cX8_thing 67 = .ok (.ireturn, 1) := by decide +kernel
theorem dX8_thing_68 : decode cX8_thing 68 = .ok (.aload_n 0, 1) := by decide +kernel
theorem dX8_thing_69 : decode cX8_thing 69 = .ok (.getfield 10, 3) := by decide +kernel
theorem dX8_thing_72 : decode cX8_thing 72 = .ok (.iload_n 1, 1) := by decide +kernel
theorem dX8_thing_73 : decode cX8_thing 73 = .ok (.iload_n 2, 1) := by decide +kernel
theorem dX8_thing_74 : decode cX8_thing 74 = .ok (.invokevirtual 95, 3) := by decide +kernel
theorem dX8_thing_77 : decode cX8_thing 77 = .ok (.istore 4, 2) := by decide +kernel
theorem dX8_thing_79 : decode cX8_thing 79 = .ok (.aload_n 0, 1) := by decide +kernel
theorem dX8_thing_80 : decode cX8_thing 80 = .ok (.getfield 10, 3) := by decide +kernel
theorem dX8_thing_83 : decode cX8_thing 83 = .ok (.iload_n 1, 1) := by decide +kernel
theorem dX8_thing_84 : decode cX8_thing 84 = .ok (.iload_n 2, 1) := by decide +kernel
theorem dX8_thing_85 : decode cX8_thing 85 = .ok (.iload_n 3, 1) := by decide +kernel
theorem dX8_thing_86 : decode cX8_thing 86 = .ok (.invokevirtual 99, 3) := by decide +kernel
theorem dX8_thing_89 : decode cX8_thing 89 = .ok (.iload 4, 2) := by decide +kernel
theorem dX8_thing_91 : decode cX8_thing 91 = .ok (.ireturn, 1) := by decide +kernel
theorem dX8_guest_0 : decode cX8_guest 0 = .ok (.iload_n 1, 1) := by decide +kernel
theorem dX8_guest_1 : decode cX8_guest 1 = .ok (.ifCond .lt 8, 3) := by decide +kernel
theorem dX8_guest_4 : decode cX8_guest 4 = .ok (.iload_n 1, 1) := by decide +kernel
theorem dX8_guest_5 : decode cX8_guest 5 = .ok (.iconst 4, 1) := by decide +kernel
theorem dX8_guest_6 : decode cX8_guest 6 = .ok (.if_icmp .lt 5, 3) := by decide +kernel
theorem dX8_guest_9 : decode cX8_guest 9 = .ok (.iconst (-1), 1) := by decide +kernel
theorem dX8_guest_10 : decode cX8_guest 10 = .ok (.ireturn, 1) := by decide +kernel
theorem dX8_guest_11 : decode cX8_guest 11 = .ok (.iload_n 2, 1) := by decide +kernel
theorem dX8_guest_12 : decode cX8_guest 12 = .ok (.ifCond .lt 20, 3) := by decide +kernel
theorem dX8_guest_15 : decode cX8_guest 15 = .ok (.iload_n 2, 1) := by decide +kernel
theorem dX8_guest_16 : decode cX8_guest 16 = .ok (.bipush 9, 2) := by decide +kernel
theorem dX8_guest_18 : decode cX8_guest 18 = .ok (.if_icmp .gt 14, 3) := by decide +kernel
theorem dX8_guest_21 : decode cX8_guest 21 = .ok (.iload_n 3, 1) := by decide +kernel
theorem dX8_guest_22 : decode cX8_guest 22 = .ok (.iconst 1, 1) := by decide +kernel
theorem dX8_guest_23 : decode cX8_guest 23 = .ok (.if_icmp .lt 9, 3) := by decide +kernel
theorem dX8_guest_26 : decode cX8_guest 26 = .ok (.iload_n 3, 1) := by decide +kernel
theorem dX8_guest_27 : decode cX8_guest 27 = .ok (.bipush 9, 2) := by decide +kernel
theorem dX8_guest_29 : decode cX8_guest 29 = .ok (.if_icmp .le 6, 3) := by decide +kernel
theorem dX8_guest_32 : decode cX8_guest 32 = .ok (.bipush (-2), 2) := by decide +kernel
theorem dX8_guest_34 : decode cX8_guest 34 = .ok (.ireturn, 1) := by decide +kernel
theorem dX8_guest_35 : decode cX8_guest 35 = .ok (.iload 4, 2) := by decide +kernel
theorem dX8_guest_37 : decode cX8_guest 37 = .ok (.ifCond .lt 22, 3) := by decide +kernel
theorem dX8_guest_40 : decode cX8_guest 40 = .ok (.iload 4, 2) := by decide +kernel
theorem dX8_guest_42 : decode cX8_guest 42 = .ok (.iconst 3, 1) := by decide +kernel
theorem dX8_guest_43 : decode cX8_guest 43 = .ok (.if_icmp .gt 16, 3) := by decide +kernel
theorem dX8_guest_46 : decode cX8_guest 46 = .ok (.iload 5, 2) := by decide +kernel
theorem dX8_guest_48 : decode cX8_guest 48 = .ok (.iconst 1, 1) := by decide +kernel
theorem dX8_guest_49 : decode cX8_guest 49 = .ok (.if_icmp .lt 10, 3) := by decide +kernel
theorem dX8_guest_52 : decode cX8_guest 52 = .ok (.iload 5, 2) := by decide +kernel
theorem dX8_guest_54 : decode cX8_guest 54 = .ok (.bipush 9, 2) := by decide +kernel
theorem dX8_guest_56 : decode cX8_guest 56 = .ok (.if_icmp .le 6, 3) := by decide +kernel
theorem dX8_guest_59 : decode cX8_guest 59 = .ok (.bipush (-2), 2) := by decide +kernel
theorem dX8_guest_61 : decode cX8_guest 61 = .ok (.ireturn, 1) := by decide +kernel
theorem dX8_guest_62 : decode cX8_guest 62 = .ok (.aload_n 0, 1) := by decide +kernel
theorem dX8_guest_63 : decode cX8_guest 63 = .ok (.getfield 10, 3) := by decide +kernel
theorem dX8_guest_66 : decode cX8_guest 66 = .ok (.iload_n 1, 1) := by decide +kernel
theorem dX8_guest_67 : decode cX8_guest 67 = .ok (.iload_n 2, 1) := by decide +kernel
theorem dX8_guest_68 : decode cX8_guest 68 = .ok (.iload_n 3, 1) := by decide +kernel
theorem dX8_guest_69 : decode cX8_guest 69 = .ok (.iload 4, 2) := by decide +kernel
theorem dX8_guest_71 : decode cX8_guest 71 = .ok (.iload 5, 2) := by decide +kernel
theorem dX8_guest_73 : decode cX8_guest 73 = .ok (.invokevirtual 103, 3) := by decide +kernel
theorem dX8_guest_76 : decode cX8_guest 76 = .ok (.aload_n 0, 1) := by decide +kernel
theorem dX8_guest_77 : decode cX8_guest 77 = .ok (.getfield 10, 3) := by decide +kernel
theorem dX8_guest_80 : decode cX8_guest 80 = .ok (.getfield 107, 3) := by decide +kernel
theorem dX8_guest_83 : decode cX8_guest 83 = .ok (.invokestatic 110, 3) := by decide +kernel
theorem dX8_guest_86 : decode cX8_guest 86 = .ok (.ireturn, 1) := by decide +kernel
theorem dX8_leave_0 : decode cX8_leave 0 = .ok (.aload_n 0, 1) := by decide +kernel
theorem dX8_leave_1 : decode cX8_leave 1 = .ok (.getfield 10, 3) := by decide +kernel
theorem dX8_leave_4 : decode cX8_leave 4 = .ok (.iload_n 1, 1) := by decide +kernel
theorem dX8_leave_5 : decode cX8_leave 5 = .ok (.invokevirtual 116, 3) := by decide +kernel
theorem dX8_leave_8 : decode cX8_leave 8 = .ok (.ifCond .ne 5, 3) := by decide +kernel
theorem dX8_leave_11 : decode cX8_leave 11 = .ok (.iconst (-1), 1) := by decide +kernel
theorem dX8_leave_12 : decode cX8_leave 12 = .ok (.ireturn, 1) := by decide +kernel
theorem dX8_leave_13 : decode cX8_leave 13 = .ok (.aload_n 0, 1) := by decide +kernel
theorem dX8_leave_14 : decode cX8_leave 14 = .ok (.getfield 10, 3) := by decide +kernel
theorem dX8_leave_17 : decode cX8_leave 17 = .ok (.dup, 1) := by decide +kernel
theorem dX8_leave_18 : decode cX8_leave 18 = .ok (.getfield 107, 3) := by decide +kernel
theorem dX8_leave_21 : decode cX8_leave 21 = .ok (.iconst 1, 1) := by decide +kernel
theorem dX8_leave_22 : decode cX8_leave 22 = .ok (.iload_n 1, 1) := by decide +kernel
theorem dX8_leave_23 : decode cX8_leave 23 = .ok (.ishl, 1) := by decide +kernel
theorem dX8_leave_24 : decode cX8_leave 24 = .ok (.iconst (-1), 1) := by decide +kernel
theorem dX8_leave_25 : decode cX8_leave 25 = .ok (.ixor, 1) := by decide +kernel
theorem dX8_leave_26 : decode cX8_leave 26 = .ok (.iand, 1) := by decide +kernel
theorem dX8_leave_27 : decode cX8_leave 27 = .ok (.putfield 107, 3) := by decide +kernel
theorem dX8_leave_30 : decode cX8_leave 30 = .ok (.aload_n 0, 1) := by decide +kernel
theorem dX8_leave_31 : decode cX8_leave 31 = .ok (.getfield 10, 3) := by decide +kernel
theorem dX8_leave_34 : decode cX8_leave 34 = .ok (.getfield 107, 3) := by decide +kernel
theorem dX8_leave_37 : decode cX8_leave 37 = .ok (.invokestatic 110, 3) := by decide +kernel
theorem dX8_leave_40 : decode cX8_leave 40 = .ok (.ireturn, 1) := by decide +kernel
theorem dX8_say_0 : decode cX8_say 0 = .ok (.iload_n 1, 1) := by decide +kernel
theorem dX8_say_1 : decode cX8_say 1 = .ok (.bipush 33, 2) := by decide +kernel
theorem dX8_say_3 : decode cX8_say 3 = .ok (.if_icmp .lt 9, 3) := by decide +kernel
theorem dX8_say_6 : decode cX8_say 6 = .ok (.iload_n 1, 1) := by decide +kernel
theorem dX8_say_7 : decode cX8_say 7 = .ok (.bipush 126, 2) := by decide +kernel
theorem dX8_say_9 : decode cX8_say 9 = .ok (.if_icmp .le 6, 3) := by decide +kernel
theorem dX8_say_12 : decode cX8_say 12 = .ok (.bipush (-2), 2) := by decide +kernel
theorem dX8_say_14 : decode cX8_say 14 = .ok (.ireturn, 1) := by decide +kernel
theorem dX8_say_15 : decode cX8_say 15 = .ok (.aload_n 0, 1) := by decide +kernel
theorem dX8_say_16 : decode cX8_say 16 = .ok (.getfield 27, 3) := by decide +kernel
theorem dX8_say_19 : decode cX8_say 19 = .ok (.iload_n 1, 1) := by decide +kernel
theorem dX8_say_20 : decode cX8_say 20 = .ok (.invokevirtual 119, 3) := by decide +kernel
theorem dX8_say_23 : decode cX8_say 23 = .ok (.ireturn, 1) := by decide +kernel
theorem dX8_wipe_0 : decode cX8_wipe 0 = .ok (.aload_n 0, 1) := by decide +kernel
theorem dX8_wipe_1 : decode cX8_wipe 1 = .ok (.getfield 27, 3) := by decide +kernel
theorem dX8_wipe_4 : decode cX8_wipe 4 = .ok (.getfield 122, 3) := by decide +kernel
theorem dX8_wipe_7 : decode cX8_wipe 7 = .ok (.istore_n 1, 1) := by decide +kernel
theorem dX8_wipe_8 : decode cX8_wipe 8 = .ok (.aload_n 0, 1) := by decide +kernel
theorem dX8_wipe_9 : decode cX8_wipe 9 = .ok (.getfield 27, 3) := by decide +kernel
theorem dX8_wipe_12 : decode cX8_wipe 12 = .ok (.iconst 0, 1) := by decide +kernel
theorem dX8_wipe_13 : decode cX8_wipe 13 = .ok (.putfield 122, 3) := by decide +kernel
theorem dX8_wipe_16 : decode cX8_wipe 16 = .ok (.iload_n 1, 1) := by decide +kernel
theorem dX8_wipe_17 : decode cX8_wipe 17 = .ok (.ireturn, 1) := by decide +kernel
theorem dX8_fault_0 : decode cX8_fault 0 = .ok (.aload_n 0, 1) := by decide +kernel
theorem dX8_fault_1 : decode cX8_fault 1 = .ok (.getfield 27, 3) := by decide +kernel
theorem dX8_fault_4 : decode cX8_fault 4 = .ok (.aload_n 0, 1) := by decide +kernel
theorem dX8_fault_5 : decode cX8_fault 5 = .ok (.getfield 10, 3) := by decide +kernel
theorem dX8_fault_8 : decode cX8_fault 8 = .ok (.getfield 79, 3) := by decide +kernel
theorem dX8_fault_11 : decode cX8_fault 11 = .ok (.invokevirtual 125, 3) := by decide +kernel
theorem dX8_fault_14 : decode cX8_fault 14 = .ok (.ireturn, 1) := by decide +kernel
theorem dX8_judge_0 : decode cX8_judge 0 = .ok (.iload_n 1, 1) := by decide +kernel
theorem dX8_judge_1 : decode cX8_judge 1 = .ok (.ifCond .lt 8, 3) := by decide +kernel
theorem dX8_judge_4 : decode cX8_judge 4 = .ok (.iload_n 1, 1) := by decide +kernel
theorem dX8_judge_5 : decode cX8_judge 5 = .ok (.iconst 3, 1) := by decide +kernel
theorem dX8_judge_6 : decode cX8_judge 6 = .ok (.if_icmp .le 6, 3) := by decide +kernel
theorem dX8_judge_9 : decode cX8_judge 9 = .ok (.bipush (-2), 2) := by decide +kernel
theorem dX8_judge_11 : decode cX8_judge 11 = .ok (.ireturn, 1) := by decide +kernel
theorem dX8_judge_12 : decode cX8_judge 12 = .ok (.aload_n 0, 1) := by decide +kernel
theorem dX8_judge_13 : decode cX8_judge 13 = .ok (.invokevirtual 128, 3) := by decide +kernel
theorem dX8_judge_16 : decode cX8_judge 16 = .ok (.istore_n 2, 1) := by decide +kernel
theorem dX8_judge_17 : decode cX8_judge 17 = .ok (.iload_n 2, 1) := by decide +kernel
theorem dX8_judge_18 : decode cX8_judge 18 = .ok (.bipush (-5), 2) := by decide +kernel
theorem dX8_judge_20 : decode cX8_judge 20 = .ok (.if_icmp .eq 14, 3) := by decide +kernel
theorem dX8_judge_23 : decode cX8_judge 23 = .ok (.iload_n 2, 1) := by decide +kernel
theorem dX8_judge_24 : decode cX8_judge 24 = .ok (.bipush (-3), 2) := by decide +kernel
theorem dX8_judge_26 : decode cX8_judge 26 = .ok (.if_icmp .ne 10, 3) := by decide +kernel
theorem dX8_judge_29 : decode cX8_judge 29 = .ok (.iload_n 1, 1) := by decide +kernel
theorem dX8_judge_30 : decode cX8_judge 30 = .ok (.iconst 2, 1) := by decide +kernel
theorem dX8_judge_31 : decode cX8_judge 31 = .ok (.if_icmp .lt 5, 3) := by decide +kernel
theorem dX8_judge_34 : decode cX8_judge 34 = .ok (.iload_n 2, 1) := by decide +kernel
theorem dX8_judge_35 : decode cX8_judge 35 = .ok (.ireturn, 1) := by decide +kernel
theorem dX8_judge_36 : decode cX8_judge 36 = .ok (.iload_n 1, 1) := by decide +kernel
theorem dX8_judge_37 : decode cX8_judge 37 = .ok (.tableswitch 51 0 2 #[27, 35, 43], 27) := by decide +kernel
theorem dX8_judge_64 : decode cX8_judge 64 = .ok (.aload_n 0, 1) := by decide +kernel
theorem dX8_judge_65 : decode cX8_judge 65 = .ok (.getfield 45, 3) := by decide +kernel
theorem dX8_judge_68 : decode cX8_judge 68 = .ok (.getfield 132, 3) := by decide +kernel
theorem dX8_judge_71 : decode cX8_judge 71 = .ok (.ireturn, 1) := by decide +kernel
theorem dX8_judge_72 : decode cX8_judge 72 = .ok (.aload_n 0, 1) := by decide +kernel
theorem dX8_judge_73 : decode cX8_judge 73 = .ok (.getfield 45, 3) := by decide +kernel
theorem dX8_judge_76 : decode cX8_judge 76 = .ok (.getfield 135, 3) := by decide +kernel
theorem dX8_judge_79 : decode cX8_judge 79 = .ok (.ireturn, 1) := by decide +kernel
theorem dX8_judge_80 : decode cX8_judge 80 = .ok (.aload_n 0, 1) := by decide +kernel
theorem dX8_judge_81 : decode cX8_judge 81 = .ok (.getfield 45, 3) := by decide +kernel
theorem dX8_judge_84 : decode cX8_judge 84 = .ok (.getfield 138, 3) := by decide +kernel
theorem dX8_judge_87 : decode cX8_judge 87 = .ok (.ireturn, 1) := by decide +kernel
theorem dX8_judge_88 : decode cX8_judge 88 = .ok (.aload_n 0, 1) := by decide +kernel
theorem dX8_judge_89 : decode cX8_judge 89 = .ok (.getfield 45, 3) := by decide +kernel
theorem dX8_judge_92 : decode cX8_judge 92 = .ok (.getfield 141, 3) := by decide +kernel
theorem dX8_judge_95 : decode cX8_judge 95 = .ok (.ireturn, 1) := by decide +kernel
theorem dX8_used_0 : decode cX8_used 0 = .ok (.aload_n 0, 1) := by decide +kernel
theorem dX8_used_1 : decode cX8_used 1 = .ok (.invokevirtual 128, 3) := by decide +kernel
theorem dX8_used_4 : decode cX8_used 4 = .ok (.istore_n 2, 1) := by decide +kernel
theorem dX8_used_5 : decode cX8_used 5 = .ok (.iload_n 2, 1) := by decide +kernel
theorem dX8_used_6 : decode cX8_used 6 = .ok (.ifCond .eq 5, 3) := by decide +kernel
theorem dX8_used_9 : decode cX8_used 9 = .ok (.iload_n 2, 1) := by decide +kernel
theorem dX8_used_10 : decode cX8_used 10 = .ok (.ireturn, 1) := by decide +kernel
theorem dX8_used_11 : decode cX8_used 11 = .ok (.iload_n 1, 1) := by decide +kernel
theorem dX8_used_12 : decode cX8_used 12 = .ok (.ifCond .lt 14, 3) := by decide +kernel
theorem dX8_used_15 : decode cX8_used 15 = .ok (.iload_n 1, 1) := by decide +kernel
theorem dX8_used_16 : decode cX8_used 16 = .ok (.aload_n 0, 1) := by decide +kernel
theorem dX8_used_17 : decode cX8_used 17 = .ok (.getfield 27, 3) := by decide +kernel
theorem dX8_used_20 : decode cX8_used 20 = .ok (.getfield 122, 3) := by decide +kernel
theorem dX8_used_23 : decode cX8_used 23 = .ok (.if_icmp .lt 6, 3) := by decide +kernel
theorem dX8_used_26 : decode cX8_used 26 = .ok (.bipush (-2), 2) := by decide +kernel
theorem dX8_used_28 : decode cX8_used 28 = .ok (.ireturn, 1) := by decide +kernel
theorem dX8_used_29 : decode cX8_used 29 = .ok (.aload_n 0, 1) := by decide +kernel
theorem dX8_used_30 : decode cX8_used 30 = .ok (.getfield 45, 3) := by decide +kernel
theorem dX8_used_33 : decode cX8_used 33 = .ok (.getfield 144, 3) := by decide +kernel
theorem dX8_used_36 : decode cX8_used 36 = .ok (.iload_n 1, 1) := by decide +kernel
theorem dX8_used_37 : decode cX8_used 37 = .ok (.iaload, 1) := by decide +kernel
theorem dX8_used_38 : decode cX8_used 38 = .ok (.ireturn, 1) := by decide +kernel
theorem dX8_behind_0 : decode cX8_behind 0 = .ok (.aload_n 0, 1) := by decide +kernel
theorem dX8_behind_1 : decode cX8_behind 1 = .ok (.getfield 10, 3) := by decide +kernel
theorem dX8_behind_4 : decode cX8_behind 4 = .ok (.iload_n 1, 1) := by decide +kernel
theorem dX8_behind_5 : decode cX8_behind 5 = .ok (.invokevirtual 87, 3) := by decide +kernel
theorem dX8_behind_8 : decode cX8_behind 8 = .ok (.ifCond .ne 5, 3) := by decide +kernel
theorem dX8_behind_11 : decode cX8_behind 11 = .ok (.iconst (-1), 1) := by decide +kernel
theorem dX8_behind_12 : decode cX8_behind 12 = .ok (.ireturn, 1) := by decide +kernel
theorem dX8_behind_13 : decode cX8_behind 13 = .ok (.iload_n 2, 1) := by decide +kernel
theorem dX8_behind_14 : decode cX8_behind 14 = .ok (.ifCond .lt 8, 3) := by decide +kernel
theorem dX8_behind_17 : decode cX8_behind 17 = .ok (.iload_n 2, 1) := by decide +kernel
theorem dX8_behind_18 : decode cX8_behind 18 = .ok (.iconst 3, 1) := by decide +kernel
theorem dX8_behind_19 : decode cX8_behind 19 = .ok (.if_icmp .le 6, 3) := by decide +kernel
theorem dX8_behind_22 : decode cX8_behind 22 = .ok (.bipush (-2), 2) := by decide +kernel
theorem dX8_behind_24 : decode cX8_behind 24 = .ok (.ireturn, 1) := by decide +kernel
theorem dX8_behind_25 : decode cX8_behind 25 = .ok (.aload_n 0, 1) := by decide +kernel
theorem dX8_behind_26 : decode cX8_behind 26 = .ok (.invokevirtual 128, 3) := by decide +kernel
theorem dX8_behind_29 : decode cX8_behind 29 = .ok (.istore_n 3, 1) := by decide +kernel
theorem dX8_behind_30 : decode cX8_behind 30 = .ok (.iload_n 3, 1) := by decide +kernel
theorem dX8_behind_31 : decode cX8_behind 31 = .ok (.ifCond .eq 5, 3) := by decide +kernel
theorem dX8_behind_34 : decode cX8_behind 34 = .ok (.iload_n 3, 1) := by decide +kernel
theorem dX8_behind_35 : decode cX8_behind 35 = .ok (.ireturn, 1) := by decide +kernel
theorem dX8_behind_36 : decode cX8_behind 36 = .ok (.iload_n 2, 1) := by decide +kernel
theorem dX8_behind_37 : decode cX8_behind 37 = .ok (.tableswitch 57 0 2 #[27, 37, 47], 27) := by decide +kernel
theorem dX8_behind_64 : decode cX8_behind 64 = .ok (.aload_n 0, 1) := by decide +kernel
theorem dX8_behind_65 : decode cX8_behind 65 = .ok (.getfield 36, 3) := by decide +kernel
theorem dX8_behind_68 : decode cX8_behind 68 = .ok (.getfield 147, 3) := by decide +kernel
theorem dX8_behind_71 : decode cX8_behind 71 = .ok (.iload_n 1, 1) := by decide +kernel
theorem dX8_behind_72 : decode cX8_behind 72 = .ok (.iaload, 1) := by decide +kernel
theorem dX8_behind_73 : decode cX8_behind 73 = .ok (.ireturn, 1) := by decide +kernel
theorem dX8_behind_74 : decode cX8_behind 74 = .ok (.aload_n 0, 1) := by decide +kernel
theorem dX8_behind_75 : decode cX8_behind 75 = .ok (.getfield 45, 3) := by decide +kernel
theorem dX8_behind_78 : decode cX8_behind 78 = .ok (.getfield 150, 3) := by decide +kernel
theorem dX8_behind_81 : decode cX8_behind 81 = .ok (.iload_n 1, 1) := by decide +kernel
theorem dX8_behind_82 : decode cX8_behind 82 = .ok (.iaload, 1) := by decide +kernel
theorem dX8_behind_83 : decode cX8_behind 83 = .ok (.ireturn, 1) := by decide +kernel
theorem dX8_behind_84 : decode cX8_behind 84 = .ok (.aload_n 0, 1) := by decide +kernel
theorem dX8_behind_85 : decode cX8_behind 85 = .ok (.getfield 45, 3) := by decide +kernel
theorem dX8_behind_88 : decode cX8_behind 88 = .ok (.getfield 153, 3) := by decide +kernel
theorem dX8_behind_91 : decode cX8_behind 91 = .ok (.iload_n 1, 1) := by decide +kernel
theorem dX8_behind_92 : decode cX8_behind 92 = .ok (.iaload, 1) := by decide +kernel
theorem dX8_behind_93 : decode cX8_behind 93 = .ok (.ireturn, 1) := by decide +kernel
theorem dX8_behind_94 : decode cX8_behind 94 = .ok (.aload_n 0, 1) := by decide +kernel
theorem dX8_behind_95 : decode cX8_behind 95 = .ok (.getfield 45, 3) := by decide +kernel
theorem dX8_behind_98 : decode cX8_behind 98 = .ok (.getfield 156, 3) := by decide +kernel
theorem dX8_behind_101 : decode cX8_behind 101 = .ok (.iload_n 1, 1) := by decide +kernel
theorem dX8_behind_102 : decode cX8_behind 102 = .ok (.iaload, 1) := by decide +kernel
theorem dX8_behind_103 : decode cX8_behind 103 = .ok (.ireturn, 1) := by decide +kernel
theorem dX8_done_0 : decode cX8_done 0 = .ok (.aload_n 0, 1) := by decide +kernel
theorem dX8_done_1 : decode cX8_done 1 = .ok (.invokevirtual 128, 3) := by decide +kernel
theorem dX8_done_4 : decode cX8_done 4 = .ok (.istore_n 1, 1) := by decide +kernel
theorem dX8_done_5 : decode cX8_done 5 = .ok (.iload_n 1, 1) := by decide +kernel
theorem dX8_done_6 : decode cX8_done 6 = .ok (.ifCond .eq 5, 3) := by decide +kernel
theorem dX8_done_9 : decode cX8_done 9 = .ok (.iload_n 1, 1) := by decide +kernel
theorem dX8_done_10 : decode cX8_done 10 = .ok (.ireturn, 1) := by decide +kernel
theorem dX8_done_11 : decode cX8_done 11 = .ok (.aload_n 0, 1) := by decide +kernel
theorem dX8_done_12 : decode cX8_done 12 = .ok (.getfield 36, 3) := by decide +kernel
theorem dX8_done_15 : decode cX8_done 15 = .ok (.getfield 147, 3) := by decide +kernel
theorem dX8_done_18 : decode cX8_done 18 = .ok (.iconst 0, 1) := by decide +kernel
theorem dX8_done_19 : decode cX8_done 19 = .ok (.aload_n 0, 1) := by decide +kernel
theorem dX8_done_20 : decode cX8_done 20 = .ok (.getfield 10, 3) := by decide +kernel
theorem dX8_done_23 : decode cX8_done 23 = .ok (.getfield 159, 3) := by decide +kernel
theorem dX8_done_26 : decode cX8_done 26 = .ok (.iconst 0, 1) := by decide +kernel
theorem dX8_done_27 : decode cX8_done 27 = .ok (.bipush 7, 2) := by decide +kernel
theorem dX8_done_29 : decode cX8_done 29 = .ok (.invokestatic 160, 3) := by decide +kernel
theorem dX8_done_32 : decode cX8_done 32 = .ok (.aload_n 0, 1) := by decide +kernel
theorem dX8_done_33 : decode cX8_done 33 = .ok (.getfield 45, 3) := by decide +kernel
theorem dX8_done_36 : decode cX8_done 36 = .ok (.getfield 150, 3) := by decide +kernel
theorem dX8_done_39 : decode cX8_done 39 = .ok (.iconst 0, 1) := by decide +kernel
theorem dX8_done_40 : decode cX8_done 40 = .ok (.aload_n 0, 1) := by decide +kernel
theorem dX8_done_41 : decode cX8_done 41 = .ok (.getfield 10, 3) := by decide +kernel
theorem dX8_done_44 : decode cX8_done 44 = .ok (.getfield 166, 3) := by decide +kernel
theorem dX8_done_47 : decode cX8_done 47 = .ok (.iconst 0, 1) := by decide +kernel
theorem dX8_done_48 : decode cX8_done 48 = .ok (.bipush 7, 2) := by decide +kernel
theorem dX8_done_50 : decode cX8_done 50 = .ok (.invokestatic 160, 3) := by decide +kernel
theorem dX8_done_53 : decode cX8_done 53 = .ok (.aload_n 0, 1) := by decide +kernel
theorem dX8_done_54 : decode cX8_done 54 = .ok (.getfield 27, 3) := by decide +kernel
theorem dX8_done_57 : decode cX8_done 57 = .ok (.getfield 122, 3) := by decide +kernel
theorem dX8_done_60 : decode cX8_done 60 = .ok (.istore_n 2, 1) := by decide +kernel
theorem dX8_done_61 : decode cX8_done 61 = .ok (.aload_n 0, 1) := by decide +kernel
theorem dX8_done_62 : decode cX8_done 62 = .ok (.getfield 27, 3) := by decide +kernel
theorem dX8_done_65 : decode cX8_done 65 = .ok (.iconst 0, 1) := by decide +kernel
theorem dX8_done_66 : decode cX8_done 66 = .ok (.putfield 122, 3) := by decide +kernel
theorem dX8_done_69 : decode cX8_done 69 = .ok (.iload_n 2, 1) := by decide +kernel
theorem dX8_done_70 : decode cX8_done 70 = .ok (.ireturn, 1) := by decide +kernel
theorem dX8_state_0 : decode cX8_state 0 = .ok (.aload_n 0, 1) := by decide +kernel
theorem dX8_state_1 : decode cX8_state 1 = .ok (.getfield 10, 3) := by decide +kernel
theorem dX8_state_4 : decode cX8_state 4 = .ok (.iload_n 1, 1) := by decide +kernel
theorem dX8_state_5 : decode cX8_state 5 = .ok (.invokevirtual 87, 3) := by decide +kernel
theorem dX8_state_8 : decode cX8_state 8 = .ok (.ifCond .ne 5, 3) := by decide +kernel
theorem dX8_state_11 : decode cX8_state 11 = .ok (.iconst (-1), 1) := by decide +kernel
theorem dX8_state_12 : decode cX8_state 12 = .ok (.ireturn, 1) := by decide +kernel
theorem dX8_state_13 : decode cX8_state 13 = .ok (.iload_n 2, 1) := by decide +kernel
theorem dX8_state_14 : decode cX8_state 14 = .ok (.ifCond .lt 8, 3) := by decide +kernel
theorem dX8_state_17 : decode cX8_state 17 = .ok (.iload_n 2, 1) := by decide +kernel
theorem dX8_state_18 : decode cX8_state 18 = .ok (.iconst 1, 1) := by decide +kernel
theorem dX8_state_19 : decode cX8_state 19 = .ok (.if_icmp .le 6, 3) := by decide +kernel
theorem dX8_state_22 : decode cX8_state 22 = .ok (.bipush (-2), 2) := by decide +kernel
theorem dX8_state_24 : decode cX8_state 24 = .ok (.ireturn, 1) := by decide +kernel
theorem dX8_state_25 : decode cX8_state 25 = .ok (.aload_n 0, 1) := by decide +kernel
theorem dX8_state_26 : decode cX8_state 26 = .ok (.getfield 10, 3) := by decide +kernel
theorem dX8_state_29 : decode cX8_state 29 = .ok (.iload_n 1, 1) := by decide +kernel
theorem dX8_state_30 : decode cX8_state 30 = .ok (.iload_n 2, 1) := by decide +kernel
theorem dX8_state_31 : decode cX8_state 31 = .ok (.ifCond .ne 7, 3) := by decide +kernel
theorem dX8_state_34 : decode cX8_state 34 = .ok (.iconst 3, 1) := by decide +kernel
theorem dX8_state_35 : decode cX8_state 35 = .ok (.goto 4, 3) := by decide +kernel
theorem dX8_state_38 : decode cX8_state 38 = .ok (.iconst 4, 1) := by decide +kernel
theorem dX8_state_39 : decode cX8_state 39 = .ok (.invokevirtual 95, 3) := by decide +kernel
theorem dX8_state_42 : decode cX8_state 42 = .ok (.ireturn, 1) := by decide +kernel
theorem dX8_eats_0 : decode cX8_eats 0 = .ok (.aload_n 0, 1) := by decide +kernel
theorem dX8_eats_1 : decode cX8_eats 1 = .ok (.getfield 10, 3) := by decide +kernel
theorem dX8_eats_4 : decode cX8_eats 4 = .ok (.iload_n 1, 1) := by decide +kernel
theorem dX8_eats_5 : decode cX8_eats 5 = .ok (.invokevirtual 116, 3) := by decide +kernel
theorem dX8_eats_8 : decode cX8_eats 8 = .ok (.ifCond .ne 5, 3) := by decide +kernel
theorem dX8_eats_11 : decode cX8_eats 11 = .ok (.iconst (-1), 1) := by decide +kernel
theorem dX8_eats_12 : decode cX8_eats 12 = .ok (.ireturn, 1) := by decide +kernel
theorem dX8_eats_13 : decode cX8_eats 13 = .ok (.aload_n 0, 1) := by decide +kernel
theorem dX8_eats_14 : decode cX8_eats 14 = .ok (.getfield 36, 3) := by decide +kernel
theorem dX8_eats_17 : decode cX8_eats 17 = .ok (.invokevirtual 167, 3) := by decide +kernel
theorem dX8_eats_20 : decode cX8_eats 20 = .ok (.aload_n 0, 1) := by decide +kernel
theorem dX8_eats_21 : decode cX8_eats 21 = .ok (.getfield 36, 3) := by decide +kernel
theorem dX8_eats_24 : decode cX8_eats 24 = .ok (.iload_n 1, 1) := by decide +kernel
theorem dX8_eats_25 : decode cX8_eats 25 = .ok (.invokevirtual 170, 3) := by decide +kernel
theorem dX8_eats_28 : decode cX8_eats 28 = .ok (.ireturn, 1) := by decide +kernel
theorem dX8_seen_0 : decode cX8_seen 0 = .ok (.aload_n 0, 1) := by decide +kernel
theorem dX8_seen_1 : decode cX8_seen 1 = .ok (.getfield 10, 3) := by decide +kernel
theorem dX8_seen_4 : decode cX8_seen 4 = .ok (.iload_n 1, 1) := by decide +kernel
theorem dX8_seen_5 : decode cX8_seen 5 = .ok (.invokevirtual 87, 3) := by decide +kernel
theorem dX8_seen_8 : decode cX8_seen 8 = .ok (.ifCond .ne 5, 3) := by decide +kernel
theorem dX8_seen_11 : decode cX8_seen 11 = .ok (.iconst (-1), 1) := by decide +kernel
theorem dX8_seen_12 : decode cX8_seen 12 = .ok (.ireturn, 1) := by decide +kernel
theorem dX8_seen_13 : decode cX8_seen 13 = .ok (.iload_n 2, 1) := by decide +kernel
theorem dX8_seen_14 : decode cX8_seen 14 = .ok (.ifCond .lt 9, 3) := by decide +kernel
theorem dX8_seen_17 : decode cX8_seen 17 = .ok (.iload_n 2, 1) := by decide +kernel
theorem dX8_seen_18 : decode cX8_seen 18 = .ok (.bipush 9, 2) := by decide +kernel
theorem dX8_seen_20 : decode cX8_seen 20 = .ok (.if_icmp .le 6, 3) := by decide +kernel
theorem dX8_seen_23 : decode cX8_seen 23 = .ok (.bipush (-2), 2) := by decide +kernel
theorem dX8_seen_25 : decode cX8_seen 25 = .ok (.ireturn, 1) := by decide +kernel
theorem dX8_seen_26 : decode cX8_seen 26 = .ok (.aload_n 0, 1) := by decide +kernel
theorem dX8_seen_27 : decode cX8_seen 27 = .ok (.getfield 10, 3) := by decide +kernel
theorem dX8_seen_30 : decode cX8_seen 30 = .ok (.getfield 173, 3) := by decide +kernel
theorem dX8_seen_33 : decode cX8_seen 33 = .ok (.iload_n 1, 1) := by decide +kernel
theorem dX8_seen_34 : decode cX8_seen 34 = .ok (.iload_n 2, 1) := by decide +kernel
theorem dX8_seen_35 : decode cX8_seen 35 = .ok (.iastore, 1) := by decide +kernel
theorem dX8_seen_36 : decode cX8_seen 36 = .ok (.aload_n 0, 1) := by decide +kernel
theorem dX8_seen_37 : decode cX8_seen 37 = .ok (.getfield 10, 3) := by decide +kernel
theorem dX8_seen_40 : decode cX8_seen 40 = .ok (.invokevirtual 176, 3) := by decide +kernel
theorem dX8_seen_43 : decode cX8_seen 43 = .ok (.invokestatic 110, 3) := by decide +kernel
theorem dX8_seen_46 : decode cX8_seen 46 = .ok (.ireturn, 1) := by decide +kernel
theorem dX8_forget_0 : decode cX8_forget 0 = .ok (.aload_n 0, 1) := by decide +kernel
theorem dX8_forget_1 : decode cX8_forget 1 = .ok (.getfield 10, 3) := by decide +kernel
theorem dX8_forget_4 : decode cX8_forget 4 = .ok (.invokevirtual 176, 3) := by decide +kernel
theorem dX8_forget_7 : decode cX8_forget 7 = .ok (.invokestatic 110, 3) := by decide +kernel
theorem dX8_forget_10 : decode cX8_forget 10 = .ok (.istore_n 1, 1) := by decide +kernel
theorem dX8_forget_11 : decode cX8_forget 11 = .ok (.aload_n 0, 1) := by decide +kernel
theorem dX8_forget_12 : decode cX8_forget 12 = .ok (.getfield 10, 3) := by decide +kernel
theorem dX8_forget_15 : decode cX8_forget 15 = .ok (.getfield 173, 3) := by decide +kernel
theorem dX8_forget_18 : decode cX8_forget 18 = .ok (.bipush (-6), 2) := by decide +kernel
theorem dX8_forget_20 : decode cX8_forget 20 = .ok (.invokestatic 179, 3) := by decide +kernel
theorem dX8_forget_23 : decode cX8_forget 23 = .ok (.iload_n 1, 1) := by decide +kernel
theorem dX8_forget_24 : decode cX8_forget 24 = .ok (.ireturn, 1) := by decide +kernel
theorem dX8_rows_0 : decode cX8_rows 0 = .ok (.iload_n 1, 1) := by decide +kernel
theorem dX8_rows_1 : decode cX8_rows 1 = .ok (.invokestatic 185, 3) := by decide +kernel
theorem dX8_rows_4 : decode cX8_rows 4 = .ok (.ifCond .eq 13, 3) := by decide +kernel
theorem dX8_rows_7 : decode cX8_rows 7 = .ok (.iload_n 2, 1) := by decide +kernel
theorem dX8_rows_8 : decode cX8_rows 8 = .ok (.ifCond .lt 9, 3) := by decide +kernel
theorem dX8_rows_11 : decode cX8_rows 11 = .ok (.iload_n 2, 1) := by decide +kernel
theorem dX8_rows_12 : decode cX8_rows 12 = .ok (.bipush 9, 2) := by decide +kernel
theorem dX8_rows_14 : decode cX8_rows 14 = .ok (.if_icmp .le 6, 3) := by decide +kernel
theorem dX8_rows_17 : decode cX8_rows 17 = .ok (.bipush (-2), 2) := by decide +kernel
theorem dX8_rows_19 : decode cX8_rows 19 = .ok (.ireturn, 1) := by decide +kernel
theorem dX8_rows_20 : decode cX8_rows 20 = .ok (.aload_n 0, 1) := by decide +kernel
theorem dX8_rows_21 : decode cX8_rows 21 = .ok (.getfield 52, 3) := by decide +kernel
theorem dX8_rows_24 : decode cX8_rows 24 = .ok (.aload_n 0, 1) := by decide +kernel
theorem dX8_rows_25 : decode cX8_rows 25 = .ok (.getfield 10, 3) := by decide +kernel
theorem dX8_rows_28 : decode cX8_rows 28 = .ok (.getfield 173, 3) := by decide +kernel
theorem dX8_rows_31 : decode cX8_rows 31 = .ok (.iload_n 1, 1) := by decide +kernel
theorem dX8_rows_32 : decode cX8_rows 32 = .ok (.invokevirtual 188, 3) := by decide +kernel
theorem dX8_rows_35 : decode cX8_rows 35 = .ok (.iload_n 2, 1) := by decide +kernel
theorem dX8_rows_36 : decode cX8_rows 36 = .ok (.tableswitch 64 0 3 #[32, 40, 48, 56], 32) := by decide +kernel
theorem dX8_rows_68 : decode cX8_rows 68 = .ok (.aload_n 0, 1) := by decide +kernel
theorem dX8_rows_69 : decode cX8_rows 69 = .ok (.getfield 52, 3) := by decide +kernel
theorem dX8_rows_72 : decode cX8_rows 72 = .ok (.getfield 191, 3) := by decide +kernel
theorem dX8_rows_75 : decode cX8_rows 75 = .ok (.ireturn, 1) := by decide +kernel
theorem dX8_rows_76 : decode cX8_rows 76 = .ok (.aload_n 0, 1) := by decide +kernel
theorem dX8_rows_77 : decode cX8_rows 77 = .ok (.getfield 52, 3) := by decide +kernel
theorem dX8_rows_80 : decode cX8_rows 80 = .ok (.getfield 192, 3) := by decide +kernel
theorem dX8_rows_83 : decode cX8_rows 83 = .ok (.ireturn, 1) := by decide +kernel
theorem dX8_rows_84 : decode cX8_rows 84 = .ok (.aload_n 0, 1) := by decide +kernel
theorem dX8_rows_85 : decode cX8_rows 85 = .ok (.getfield 52, 3) := by decide +kernel
theorem dX8_rows_88 : decode cX8_rows 88 = .ok (.getfield 195, 3) := by decide +kernel
theorem dX8_rows_91 : decode cX8_rows 91 = .ok (.ireturn, 1) := by decide +kernel
theorem dX8_rows_92 : decode cX8_rows 92 = .ok (.aload_n 0, 1) := by decide +kernel
theorem dX8_rows_93 : decode cX8_rows 93 = .ok (.getfield 52, 3) := by decide +kernel
theorem dX8_rows_96 : decode cX8_rows 96 = .ok (.getfield 198, 3) := by decide +kernel
theorem dX8_rows_99 : decode cX8_rows 99 = .ok (.ireturn, 1) := by decide +kernel
theorem dX8_rows_100 : decode cX8_rows 100 = .ok (.aload_n 0, 1) := by decide +kernel
theorem dX8_rows_101 : decode cX8_rows 101 = .ok (.getfield 52, 3) := by decide +kernel
theorem dX8_rows_104 : decode cX8_rows 104 = .ok (.iload_n 2, 1) := by decide +kernel
theorem dX8_rows_105 : decode cX8_rows 105 = .ok (.iconst 4, 1) := by decide +kernel
theorem dX8_rows_106 : decode cX8_rows 106 = .ok (.isub, 1) := by decide +kernel
theorem dX8_rows_107 : decode cX8_rows 107 = .ok (.invokevirtual 201, 3) := by decide +kernel
theorem dX8_rows_110 : decode cX8_rows 110 = .ok (.ireturn, 1) := by decide +kernel
theorem dX8_cup_0 : decode cX8_cup 0 = .ok (.aload_n 0, 1) := by decide +kernel
theorem dX8_cup_1 : decode cX8_cup 1 = .ok (.getfield 10, 3) := by decide +kernel
theorem dX8_cup_4 : decode cX8_cup 4 = .ok (.iload_n 1, 1) := by decide +kernel
theorem dX8_cup_5 : decode cX8_cup 5 = .ok (.invokevirtual 87, 3) := by decide +kernel
theorem dX8_cup_8 : decode cX8_cup 8 = .ok (.ifCond .ne 5, 3) := by decide +kernel
theorem dX8_cup_11 : decode cX8_cup 11 = .ok (.iconst (-1), 1) := by decide +kernel
theorem dX8_cup_12 : decode cX8_cup 12 = .ok (.ireturn, 1) := by decide +kernel
theorem dX8_cup_13 : decode cX8_cup 13 = .ok (.iload_n 2, 1) := by decide +kernel
theorem dX8_cup_14 : decode cX8_cup 14 = .ok (.invokestatic 185, 3) := by decide +kernel
theorem dX8_cup_17 : decode cX8_cup 17 = .ok (.ifCond .ne 6, 3) := by decide +kernel
theorem dX8_cup_20 : decode cX8_cup 20 = .ok (.bipush (-2), 2) := by decide +kernel
theorem dX8_cup_22 : decode cX8_cup 22 = .ok (.ireturn, 1) := by decide +kernel
theorem dX8_cup_23 : decode cX8_cup 23 = .ok (.aload_n 0, 1) := by decide +kernel
theorem dX8_cup_24 : decode cX8_cup 24 = .ok (.getfield 52, 3) := by decide +kernel
theorem dX8_cup_27 : decode cX8_cup 27 = .ok (.aload_n 0, 1) := by decide +kernel
theorem dX8_cup_28 : decode cX8_cup 28 = .ok (.getfield 10, 3) := by decide +kernel
theorem dX8_cup_31 : decode cX8_cup 31 = .ok (.getfield 173, 3) := by decide +kernel
theorem dX8_cup_34 : decode cX8_cup 34 = .ok (.iload_n 2, 1) := by decide +kernel
theorem dX8_cup_35 : decode cX8_cup 35 = .ok (.invokevirtual 188, 3) := by decide +kernel
theorem dX8_cup_38 : decode cX8_cup 38 = .ok (.aload_n 0, 1) := by decide +kernel
theorem dX8_cup_39 : decode cX8_cup 39 = .ok (.getfield 52, 3) := by decide +kernel
theorem dX8_cup_42 : decode cX8_cup 42 = .ok (.getfield 204, 3) := by decide +kernel
theorem dX8_cup_45 : decode cX8_cup 45 = .ok (.iload_n 1, 1) := by decide +kernel
theorem dX8_cup_46 : decode cX8_cup 46 = .ok (.iaload, 1) := by decide +kernel
theorem dX8_cup_47 : decode cX8_cup 47 = .ok (.ireturn, 1) := by decide +kernel
theorem dX8_look_0 : decode cX8_look 0 = .ok (.iload_n 1, 1) := by decide +kernel
theorem dX8_look_1 : decode cX8_look 1 = .ok (.invokestatic 185, 3) := by decide +kernel
theorem dX8_look_4 : decode cX8_look 4 = .ok (.ifCond .eq 12, 3) := by decide +kernel
theorem dX8_look_7 : decode cX8_look 7 = .ok (.iload_n 2, 1) := by decide +kernel
theorem dX8_look_8 : decode cX8_look 8 = .ok (.ifCond .lt 8, 3) := by decide +kernel
theorem dX8_look_11 : decode cX8_look 11 = .ok (.iload_n 2, 1) := by decide +kernel
theorem dX8_look_12 : decode cX8_look 12 = .ok (.iconst 1, 1) := by decide +kernel
theorem dX8_look_13 : decode cX8_look 13 = .ok (.if_icmp .le 6, 3) := by decide +kernel
theorem dX8_look_16 : decode cX8_look 16 = .ok (.bipush (-2), 2) := by decide +kernel
theorem dX8_look_18 : decode cX8_look 18 = .ok (.ireturn, 1) := by decide +kernel
theorem dX8_look_19 : decode cX8_look 19 = .ok (.aload_n 0, 1) := by decide +kernel
theorem dX8_look_20 : decode cX8_look 20 = .ok (.getfield 52, 3) := by decide +kernel
theorem dX8_look_23 : decode cX8_look 23 = .ok (.aload_n 0, 1) := by decide +kernel
theorem dX8_look_24 : decode cX8_look 24 = .ok (.getfield 10, 3) := by decide +kernel
theorem dX8_look_27 : decode cX8_look 27 = .ok (.getfield 173, 3) := by decide +kernel
theorem dX8_look_30 : decode cX8_look 30 = .ok (.iload_n 1, 1) := by decide +kernel
theorem dX8_look_31 : decode cX8_look 31 = .ok (.invokevirtual 188, 3) := by decide +kernel
theorem dX8_look_34 : decode cX8_look 34 = .ok (.aload_n 0, 1) := by decide +kernel
theorem dX8_look_35 : decode cX8_look 35 = .ok (.getfield 52, 3) := by decide +kernel
theorem dX8_look_38 : decode cX8_look 38 = .ok (.invokevirtual 207, 3) := by decide +kernel
theorem dX8_look_41 : decode cX8_look 41 = .ok (.istore_n 3, 1) := by decide +kernel
theorem dX8_look_42 : decode cX8_look 42 = .ok (.iload_n 3, 1) := by decide +kernel
theorem dX8_look_43 : decode cX8_look 43 = .ok (.bipush (-6), 2) := by decide +kernel
theorem dX8_look_45 : decode cX8_look 45 = .ok (.if_icmp .eq 7, 3) := by decide +kernel
theorem dX8_look_48 : decode cX8_look 48 = .ok (.iload_n 2, 1) := by decide +kernel
theorem dX8_look_49 : decode cX8_look 49 = .ok (.ifCond .ne 5, 3) := by decide +kernel
theorem dX8_look_52 : decode cX8_look 52 = .ok (.iload_n 3, 1) := by decide +kernel
theorem dX8_look_53 : decode cX8_look 53 = .ok (.ireturn, 1) := by decide +kernel
theorem dX8_look_54 : decode cX8_look 54 = .ok (.aload_n 0, 1) := by decide +kernel
theorem dX8_look_55 : decode cX8_look 55 = .ok (.getfield 52, 3) := by decide +kernel
theorem dX8_look_58 : decode cX8_look 58 = .ok (.iload_n 3, 1) := by decide +kernel
theorem dX8_look_59 : decode cX8_look 59 = .ok (.invokevirtual 210, 3) := by decide +kernel
theorem dX8_look_62 : decode cX8_look 62 = .ok (.ireturn, 1) := by decide +kernel
theorem dX8_belief_0 : decode cX8_belief 0 = .ok (.iload_n 2, 1) := by decide +kernel
theorem dX8_belief_1 : decode cX8_belief 1 = .ok (.iconst (-1), 1) := by decide +kernel
theorem dX8_belief_2 : decode cX8_belief 2 = .ok (.if_icmp .eq 18, 3) := by decide +kernel
theorem dX8_belief_5 : decode cX8_belief 5 = .ok (.aload_n 0, 1) := by decide +kernel
theorem dX8_belief_6 : decode cX8_belief 6 = .ok (.getfield 10, 3) := by decide +kernel
theorem dX8_belief_9 : decode cX8_belief 9 = .ok (.iload_n 2, 1) := by decide +kernel
theorem dX8_belief_10 : decode cX8_belief 10 = .ok (.invokevirtual 116, 3) := by decide +kernel
theorem dX8_belief_13 : decode cX8_belief 13 = .ok (.ifCond .ne 7, 3) := by decide +kernel
theorem dX8_belief_16 : decode cX8_belief 16 = .ok (.ldc2_w 213, 3) := by decide +kernel
theorem dX8_belief_19 : decode cX8_belief 19 = .ok (.lreturn, 1) := by decide +kernel
theorem dX8_belief_20 : decode cX8_belief 20 = .ok (.iload_n 1, 1) := by decide +kernel
theorem dX8_belief_21 : decode cX8_belief 21 = .ok (.invokestatic 185, 3) := by decide +kernel
theorem dX8_belief_24 : decode cX8_belief 24 = .ok (.ifCond .eq 12, 3) := by decide +kernel
theorem dX8_belief_27 : decode cX8_belief 27 = .ok (.iload_n 3, 1) := by decide +kernel
theorem dX8_belief_28 : decode cX8_belief 28 = .ok (.ifCond .lt 8, 3) := by decide +kernel
theorem dX8_belief_31 : decode cX8_belief 31 = .ok (.iload_n 3, 1) := by decide +kernel
theorem dX8_belief_32 : decode cX8_belief 32 = .ok (.iconst 1, 1) := by decide +kernel
theorem dX8_belief_33 : decode cX8_belief 33 = .ok (.if_icmp .le 7, 3) := by decide +kernel
theorem dX8_belief_36 : decode cX8_belief 36 = .ok (.ldc2_w 215, 3) := by decide +kernel
theorem dX8_belief_39 : decode cX8_belief 39 = .ok (.lreturn, 1) := by decide +kernel
theorem dX8_belief_40 : decode cX8_belief 40 = .ok (.aload_n 0, 1) := by decide +kernel
theorem dX8_belief_41 : decode cX8_belief 41 = .ok (.getfield 10, 3) := by decide +kernel
theorem dX8_belief_44 : decode cX8_belief 44 = .ok (.getfield 107, 3) := by decide +kernel
theorem dX8_belief_47 : decode cX8_belief 47 = .ok (.ifCond .ne 7, 3) := by decide +kernel
theorem dX8_belief_50 : decode cX8_belief 50 = .ok (.ldc2_w 217, 3) := by decide +kernel
theorem dX8_belief_53 : decode cX8_belief 53 = .ok (.lreturn, 1) := by decide +kernel
theorem dX8_belief_54 : decode cX8_belief 54 = .ok (.aload_n 0, 1) := by decide +kernel
theorem dX8_belief_55 : decode cX8_belief 55 = .ok (.getfield 59, 3) := by decide +kernel
theorem dX8_belief_58 : decode cX8_belief 58 = .ok (.iload_n 1, 1) := by decide +kernel
theorem dX8_belief_59 : decode cX8_belief 59 = .ok (.iload_n 2, 1) := by decide +kernel
theorem dX8_belief_60 : decode cX8_belief 60 = .ok (.invokevirtual 219, 3) := by decide +kernel
theorem dX8_belief_63 : decode cX8_belief 63 = .ok (.iload_n 3, 1) := by decide +kernel
theorem dX8_belief_64 : decode cX8_belief 64 = .ok (.ifCond .ne 13, 3) := by decide +kernel
theorem dX8_belief_67 : decode cX8_belief 67 = .ok (.aload_n 0, 1) := by decide +kernel
theorem dX8_belief_68 : decode cX8_belief 68 = .ok (.getfield 59, 3) := by decide +kernel
theorem dX8_belief_71 : decode cX8_belief 71 = .ok (.getfield 223, 3) := by decide +kernel
theorem dX8_belief_74 : decode cX8_belief 74 = .ok (.goto 10, 3) := by decide +kernel
theorem dX8_belief_77 : decode cX8_belief 77 = .ok (.aload_n 0, 1) := by decide +kernel
theorem dX8_belief_78 : decode cX8_belief 78 = .ok (.getfield 59, 3) := by decide +kernel
theorem dX8_belief_81 : decode cX8_belief 81 = .ok (.getfield 227, 3) := by decide +kernel
theorem dX8_belief_84 : decode cX8_belief 84 = .ok (.lreturn, 1) := by decide +kernel
theorem dX8_alike_0 : decode cX8_alike 0 = .ok (.aload_n 0, 1) := by decide +kernel
theorem dX8_alike_1 : decode cX8_alike 1 = .ok (.getfield 36, 3) := by decide +kernel
theorem dX8_alike_4 : decode cX8_alike 4 = .ok (.invokevirtual 167, 3) := by decide +kernel
theorem dX8_alike_7 : decode cX8_alike 7 = .ok (.iload_n 1, 1) := by decide +kernel
theorem dX8_alike_8 : decode cX8_alike 8 = .ok (.iconst (-1), 1) := by decide +kernel
theorem dX8_alike_9 : decode cX8_alike 9 = .ok (.if_icmp .ne 13, 3) := by decide +kernel
theorem dX8_alike_12 : decode cX8_alike 12 = .ok (.aload_n 0, 1) := by decide +kernel
theorem dX8_alike_13 : decode cX8_alike 13 = .ok (.getfield 75, 3) := by decide +kernel
theorem dX8_alike_16 : decode cX8_alike 16 = .ok (.invokevirtual 230, 3) := by decide +kernel
theorem dX8_alike_19 : decode cX8_alike 19 = .ok (.goto 11, 3) := by decide +kernel
theorem dX8_alike_22 : decode cX8_alike 22 = .ok (.aload_n 0, 1) := by decide +kernel
theorem dX8_alike_23 : decode cX8_alike 23 = .ok (.getfield 75, 3) := by decide +kernel
theorem dX8_alike_26 : decode cX8_alike 26 = .ok (.iload_n 1, 1) := by decide +kernel
theorem dX8_alike_27 : decode cX8_alike 27 = .ok (.invokevirtual 233, 3) := by decide +kernel
theorem dX8_alike_30 : decode cX8_alike 30 = .ok (.ireturn, 1) := by decide +kernel
theorem dX8_lay_0 : decode cX8_lay 0 = .ok (.iload_n 1, 1) := by decide +kernel
theorem dX8_lay_1 : decode cX8_lay 1 = .ok (.ifCond .lt 8, 3) := by decide +kernel
theorem dX8_lay_4 : decode cX8_lay 4 = .ok (.iload_n 1, 1) := by decide +kernel
theorem dX8_lay_5 : decode cX8_lay 5 = .ok (.iconst 1, 1) := by decide +kernel
theorem dX8_lay_6 : decode cX8_lay 6 = .ok (.if_icmp .le 6, 3) := by decide +kernel
theorem dX8_lay_9 : decode cX8_lay 9 = .ok (.bipush (-2), 2) := by decide +kernel
theorem dX8_lay_11 : decode cX8_lay 11 = .ok (.ireturn, 1) := by decide +kernel
theorem dX8_lay_12 : decode cX8_lay 12 = .ok (.aload_n 0, 1) := by decide +kernel
theorem dX8_lay_13 : decode cX8_lay 13 = .ok (.getfield 36, 3) := by decide +kernel
theorem dX8_lay_16 : decode cX8_lay 16 = .ok (.invokevirtual 167, 3) := by decide +kernel
theorem dX8_lay_19 : decode cX8_lay 19 = .ok (.aload_n 0, 1) := by decide +kernel
theorem dX8_lay_20 : decode cX8_lay 20 = .ok (.getfield 75, 3) := by decide +kernel
theorem dX8_lay_23 : decode cX8_lay 23 = .ok (.invokevirtual 234, 3) := by decide +kernel
theorem dX8_lay_26 : decode cX8_lay 26 = .ok (.istore_n 2, 1) := by decide +kernel
theorem dX8_lay_27 : decode cX8_lay 27 = .ok (.iload_n 2, 1) := by decide +kernel
theorem dX8_lay_28 : decode cX8_lay 28 = .ok (.bipush (-6), 2) := by decide +kernel
theorem dX8_lay_30 : decode cX8_lay 30 = .ok (.if_icmp .eq 8, 3) := by decide +kernel
theorem dX8_lay_33 : decode cX8_lay 33 = .ok (.iload_n 1, 1) := by decide +kernel
theorem dX8_lay_34 : decode cX8_lay 34 = .ok (.iconst 1, 1) := by decide +kernel
theorem dX8_lay_35 : decode cX8_lay 35 = .ok (.if_icmp .ne 5, 3) := by decide +kernel
theorem dX8_lay_38 : decode cX8_lay 38 = .ok (.iload_n 2, 1) := by decide +kernel
theorem dX8_lay_39 : decode cX8_lay 39 = .ok (.ireturn, 1) := by decide +kernel
theorem dX8_lay_40 : decode cX8_lay 40 = .ok (.iload_n 2, 1) := by decide +kernel
theorem dX8_lay_41 : decode cX8_lay 41 = .ok (.invokestatic 110, 3) := by decide +kernel
theorem dX8_lay_44 : decode cX8_lay 44 = .ok (.ireturn, 1) := by decide +kernel
theorem dX8_hide_0 : decode cX8_hide 0 = .ok (.aload_n 0, 1) := by decide +kernel
theorem dX8_hide_1 : decode cX8_hide 1 = .ok (.invokevirtual 128, 3) := by decide +kernel
theorem dX8_hide_4 : decode cX8_hide 4 = .ok (.istore_n 1, 1) := by decide +kernel
theorem dX8_hide_5 : decode cX8_hide 5 = .ok (.iload_n 1, 1) := by decide +kernel
theorem dX8_hide_6 : decode cX8_hide 6 = .ok (.ifCond .eq 5, 3) := by decide +kernel
theorem dX8_hide_9 : decode cX8_hide 9 = .ok (.iload_n 1, 1) := by decide +kernel
theorem dX8_hide_10 : decode cX8_hide 10 = .ok (.ireturn, 1) := by decide +kernel
theorem dX8_hide_11 : decode cX8_hide 11 = .ok (.iconst 0, 1) := by decide +kernel
theorem dX8_hide_12 : decode cX8_hide 12 = .ok (.istore_n 2, 1) := by decide +kernel
theorem dX8_hide_13 : decode cX8_hide 13 = .ok (.iconst 0, 1) := by decide +kernel
theorem dX8_hide_14 : decode cX8_hide 14 = .ok (.istore_n 3, 1) := by decide +kernel
theorem dX8_hide_15 : decode cX8_hide 15 = .ok (.iload_n 3, 1) := by decide +kernel
theorem dX8_hide_16 : decode cX8_hide 16 = .ok (.aload_n 0, 1) := by decide +kernel
theorem dX8_hide_17 : decode cX8_hide 17 = .ok (.getfield 10, 3) := by decide +kernel
theorem dX8_hide_20 : decode cX8_hide 20 = .ok (.getfield 79, 3) := by decide +kernel
theorem dX8_hide_23 : decode cX8_hide 23 = .ok (.if_icmp .ge 36, 3) := by decide +kernel
theorem dX8_hide_26 : decode cX8_hide 26 = .ok (.aload_n 0, 1) := by decide +kernel
theorem dX8_hide_27 : decode cX8_hide 27 = .ok (.getfield 36, 3) := by decide +kernel
theorem dX8_hide_30 : decode cX8_hide 30 = .ok (.getfield 147, 3) := by decide +kernel
theorem dX8_hide_33 : decode cX8_hide 33 = .ok (.iload_n 3, 1) := by decide +kernel
theorem dX8_hide_34 : decode cX8_hide 34 = .ok (.iaload, 1) := by decide +kernel
theorem dX8_hide_35 : decode cX8_hide 35 = .ok (.aload_n 0, 1) := by decide +kernel
theorem dX8_hide_36 : decode cX8_hide 36 = .ok (.getfield 10, 3) := by decide +kernel
theorem dX8_hide_39 : decode cX8_hide 39 = .ok (.getfield 159, 3) := by decide +kernel
theorem dX8_hide_42 : decode cX8_hide 42 = .ok (.iload_n 3, 1) := by decide +kernel
theorem dX8_hide_43 : decode cX8_hide 43 = .ok (.iaload, 1) := by decide +kernel
theorem dX8_hide_44 : decode cX8_hide 44 = .ok (.if_icmp .eq 9, 3) := by decide +kernel
theorem dX8_hide_47 : decode cX8_hide 47 = .ok (.iload_n 2, 1) := by decide +kernel
theorem dX8_hide_48 : decode cX8_hide 48 = .ok (.iconst 1, 1) := by decide +kernel
theorem dX8_hide_49 : decode cX8_hide 49 = .ok (.iload_n 3, 1) := by decide +kernel
theorem dX8_hide_50 : decode cX8_hide 50 = .ok (.ishl, 1) := by decide +kernel
theorem dX8_hide_51 : decode cX8_hide 51 = .ok (.ior, 1) := by decide +kernel
theorem dX8_hide_52 : decode cX8_hide 52 = .ok (.istore_n 2, 1) := by decide +kernel
theorem dX8_hide_53 : decode cX8_hide 53 = .ok (.iinc 3 1, 3) := by decide +kernel
theorem dX8_hide_56 : decode cX8_hide 56 = .ok (.goto (-41), 3) := by decide +kernel
theorem dX8_hide_59 : decode cX8_hide 59 = .ok (.iload_n 2, 1) := by decide +kernel
theorem dX8_hide_60 : decode cX8_hide 60 = .ok (.ireturn, 1) := by decide +kernel
theorem dX8_trace_0 : decode cX8_trace 0 = .ok (.aload_n 0, 1) := by decide +kernel
theorem dX8_trace_1 : decode cX8_trace 1 = .ok (.invokevirtual 128, 3) := by decide +kernel
theorem dX8_trace_4 : decode cX8_trace 4 = .ok (.istore_n 1, 1) := by decide +kernel
theorem dX8_trace_5 : decode cX8_trace 5 = .ok (.iload_n 1, 1) := by decide +kernel
theorem dX8_trace_6 : decode cX8_trace 6 = .ok (.ifCond .eq 5, 3) := by decide +kernel
theorem dX8_trace_9 : decode cX8_trace 9 = .ok (.iload_n 1, 1) := by decide +kernel
theorem dX8_trace_10 : decode cX8_trace 10 = .ok (.ireturn, 1) := by decide +kernel
theorem dX8_trace_11 : decode cX8_trace 11 = .ok (.aload_n 0, 1) := by decide +kernel
theorem dX8_trace_12 : decode cX8_trace 12 = .ok (.getfield 45, 3) := by decide +kernel
theorem dX8_trace_15 : decode cX8_trace 15 = .ok (.getfield 237, 3) := by decide +kernel
theorem dX8_trace_18 : decode cX8_trace 18 = .ok (.bipush (-6), 2) := by decide +kernel
theorem dX8_trace_20 : decode cX8_trace 20 = .ok (.invokestatic 179, 3) := by decide +kernel
theorem dX8_trace_23 : decode cX8_trace 23 = .ok (.aload_n 0, 1) := by decide +kernel
theorem dX8_trace_24 : decode cX8_trace 24 = .ok (.getfield 36, 3) := by decide +kernel
theorem dX8_trace_27 : decode cX8_trace 27 = .ok (.getfield 147, 3) := by decide +kernel
theorem dX8_trace_30 : decode cX8_trace 30 = .ok (.iconst 0, 1) := by decide +kernel
theorem dX8_trace_31 : decode cX8_trace 31 = .ok (.aload_n 0, 1) := by decide +kernel
theorem dX8_trace_32 : decode cX8_trace 32 = .ok (.getfield 45, 3) := by decide +kernel
theorem dX8_trace_35 : decode cX8_trace 35 = .ok (.getfield 237, 3) := by decide +kernel
theorem dX8_trace_38 : decode cX8_trace 38 = .ok (.iconst 0, 1) := by decide +kernel
theorem dX8_trace_39 : decode cX8_trace 39 = .ok (.aload_n 0, 1) := by decide +kernel
theorem dX8_trace_40 : decode cX8_trace 40 = .ok (.getfield 10, 3) := by decide +kernel
theorem dX8_trace_43 : decode cX8_trace 43 = .ok (.getfield 79, 3) := by decide +kernel
theorem dX8_trace_46 : decode cX8_trace 46 = .ok (.invokestatic 160, 3) := by decide +kernel
theorem dX8_trace_49 : decode cX8_trace 49 = .ok (.aload_n 0, 1) := by decide +kernel
theorem dX8_trace_50 : decode cX8_trace 50 = .ok (.getfield 52, 3) := by decide +kernel
theorem dX8_trace_53 : decode cX8_trace 53 = .ok (.aload_n 0, 1) := by decide +kernel
theorem dX8_trace_54 : decode cX8_trace 54 = .ok (.getfield 45, 3) := by decide +kernel
theorem dX8_trace_57 : decode cX8_trace 57 = .ok (.getfield 237, 3) := by decide +kernel
theorem dX8_trace_60 : decode cX8_trace 60 = .ok (.bipush 6, 2) := by decide +kernel
theorem dX8_trace_62 : decode cX8_trace 62 = .ok (.invokevirtual 188, 3) := by decide +kernel
theorem dX8_trace_65 : decode cX8_trace 65 = .ok (.aload_n 0, 1) := by decide +kernel
theorem dX8_trace_66 : decode cX8_trace 66 = .ok (.getfield 52, 3) := by decide +kernel
theorem dX8_trace_69 : decode cX8_trace 69 = .ok (.getfield 192, 3) := by decide +kernel
theorem dX8_trace_72 : decode cX8_trace 72 = .ok (.ireturn, 1) := by decide +kernel
theorem dX8_lock_0 : decode cX8_lock 0 = .ok (.iload_n 1, 1) := by decide +kernel
theorem dX8_lock_1 : decode cX8_lock 1 = .ok (.iconst (-1), 1) := by decide +kernel
theorem dX8_lock_2 : decode cX8_lock 2 = .ok (.if_icmp .eq 16, 3) := by decide +kernel
theorem dX8_lock_5 : decode cX8_lock 5 = .ok (.aload_n 0, 1) := by decide +kernel
theorem dX8_lock_6 : decode cX8_lock 6 = .ok (.getfield 10, 3) := by decide +kernel
theorem dX8_lock_9 : decode cX8_lock 9 = .ok (.iload_n 1, 1) := by decide +kernel
theorem dX8_lock_10 : decode cX8_lock 10 = .ok (.invokevirtual 87, 3) := by decide +kernel
theorem dX8_lock_13 : decode cX8_lock 13 = .ok (.ifCond .ne 5, 3) := by decide +kernel
theorem dX8_lock_16 : decode cX8_lock 16 = .ok (.iconst (-1), 1) := by decide +kernel
theorem dX8_lock_17 : decode cX8_lock 17 = .ok (.ireturn, 1) := by decide +kernel
theorem dX8_lock_18 : decode cX8_lock 18 = .ok (.iload_n 2, 1) := by decide +kernel
theorem dX8_lock_19 : decode cX8_lock 19 = .ok (.ifCond .lt 8, 3) := by decide +kernel
theorem dX8_lock_22 : decode cX8_lock 22 = .ok (.iload_n 2, 1) := by decide +kernel
theorem dX8_lock_23 : decode cX8_lock 23 = .ok (.iconst 5, 1) := by decide +kernel
theorem dX8_lock_24 : decode cX8_lock 24 = .ok (.if_icmp .le 6, 3) := by decide +kernel
theorem dX8_lock_27 : decode cX8_lock 27 = .ok (.bipush (-2), 2) := by decide +kernel
theorem dX8_lock_29 : decode cX8_lock 29 = .ok (.ireturn, 1) := by decide +kernel
theorem dX8_lock_30 : decode cX8_lock 30 = .ok (.aload_n 0, 1) := by decide +kernel
theorem dX8_lock_31 : decode cX8_lock 31 = .ok (.getfield 36, 3) := by decide +kernel
theorem dX8_lock_34 : decode cX8_lock 34 = .ok (.invokevirtual 167, 3) := by decide +kernel
theorem dX8_lock_37 : decode cX8_lock 37 = .ok (.iload_n 1, 1) := by decide +kernel
theorem dX8_lock_38 : decode cX8_lock 38 = .ok (.ifCond .lt 18, 3) := by decide +kernel
theorem dX8_lock_41 : decode cX8_lock 41 = .ok (.aload_n 0, 1) := by decide +kernel
theorem dX8_lock_42 : decode cX8_lock 42 = .ok (.getfield 36, 3) := by decide +kernel
theorem dX8_lock_45 : decode cX8_lock 45 = .ok (.dup, 1) := by decide +kernel
theorem dX8_lock_46 : decode cX8_lock 46 = .ok (.getfield 240, 3) := by decide +kernel
theorem dX8_lock_49 : decode cX8_lock 49 = .ok (.iconst 1, 1) := by decide +kernel
theorem dX8_lock_50 : decode cX8_lock 50 = .ok (.iload_n 1, 1) := by decide +kernel
theorem dX8_lock_51 : decode cX8_lock 51 = .ok (.ishl, 1) := by decide +kernel
theorem dX8_lock_52 : decode cX8_lock 52 = .ok (.ior, 1) := by decide +kernel
theorem dX8_lock_53 : decode cX8_lock 53 = .ok (.putfield 240, 3) := by decide +kernel
theorem dX8_lock_56 : decode cX8_lock 56 = .ok (.aload_n 0, 1) := by decide +kernel
theorem dX8_lock_57 : decode cX8_lock 57 = .ok (.getfield 68, 3) := by decide +kernel
theorem dX8_lock_60 : decode cX8_lock 60 = .ok (.iload_n 2, 1) := by decide +kernel
theorem dX8_lock_61 : decode cX8_lock 61 = .ok (.invokevirtual 243, 3) := by decide +kernel
theorem dX8_lock_64 : decode cX8_lock 64 = .ok (.ireturn, 1) := by decide +kernel
theorem dX8_year_0 : decode cX8_year 0 = .ok (.iload_n 1, 1) := by decide +kernel
theorem dX8_year_1 : decode cX8_year 1 = .ok (.ifCond .lt 21, 3) := by decide +kernel
theorem dX8_year_4 : decode cX8_year 4 = .ok (.iload_n 1, 1) := by decide +kernel
theorem dX8_year_5 : decode cX8_year 5 = .ok (.sipush 9999, 3) := by decide +kernel
theorem dX8_year_8 : decode cX8_year 8 = .ok (.if_icmp .gt 14, 3) := by decide +kernel
theorem dX8_year_11 : decode cX8_year 11 = .ok (.iload_n 2, 1) := by decide +kernel
theorem dX8_year_12 : decode cX8_year 12 = .ok (.iconst 1, 1) := by decide +kernel
theorem dX8_year_13 : decode cX8_year 13 = .ok (.if_icmp .lt 9, 3) := by decide +kernel
theorem dX8_year_16 : decode cX8_year 16 = .ok (.iload_n 2, 1) := by decide +kernel
theorem dX8_year_17 : decode cX8_year 17 = .ok (.bipush 60, 2) := by decide +kernel
theorem dX8_year_19 : decode cX8_year 19 = .ok (.if_icmp .le 6, 3) := by decide +kernel
theorem dX8_year_22 : decode cX8_year 22 = .ok (.bipush (-2), 2) := by decide +kernel
theorem dX8_year_24 : decode cX8_year 24 = .ok (.ireturn, 1) := by decide +kernel
theorem dX8_year_25 : decode cX8_year 25 = .ok (.iload_n 3, 1) := by decide +kernel
theorem dX8_year_26 : decode cX8_year 26 = .ok (.ifCond .lt 8, 3) := by decide +kernel
theorem dX8_year_29 : decode cX8_year 29 = .ok (.iload_n 3, 1) := by decide +kernel
theorem dX8_year_30 : decode cX8_year 30 = .ok (.iconst 2, 1) := by decide +kernel
theorem dX8_year_31 : decode cX8_year 31 = .ok (.if_icmp .le 6, 3) := by decide +kernel
theorem dX8_year_34 : decode cX8_year 34 = .ok (.bipush (-2), 2) := by decide +kernel
theorem dX8_year_36 : decode cX8_year 36 = .ok (.ireturn, 1) := by decide +kernel
theorem dX8_year_37 : decode cX8_year 37 = .ok (.iload_n 1, 1) := by decide +kernel
theorem dX8_year_38 : decode cX8_year 38 = .ok (.istore 4, 2) := by decide +kernel
theorem dX8_year_40 : decode cX8_year 40 = .ok (.iconst 0, 1) := by decide +kernel
theorem dX8_year_41 : decode cX8_year 41 = .ok (.istore 5, 2) := by decide +kernel
theorem dX8_year_43 : decode cX8_year 43 = .ok (.iconst 0, 1) := by decide +kernel
theorem dX8_year_44 : decode cX8_year 44 = .ok (.istore 6, 2) := by decide +kernel
theorem dX8_year_46 : decode cX8_year 46 = .ok (.iconst 0, 1) := by decide +kernel
theorem dX8_year_47 : decode cX8_year 47 = .ok (.istore 7, 2) := by decide +kernel
theorem dX8_year_49 : decode cX8_year 49 = .ok (.iconst 0, 1) := by decide +kernel
theorem dX8_year_50 : decode cX8_year 50 = .ok (.istore 8, 2) := by decide +kernel
theorem dX8_year_52 : decode cX8_year 52 = .ok (.iload 8, 2) := by decide +kernel
theorem dX8_year_54 : decode cX8_year 54 = .ok (.iload_n 2, 1) := by decide +kernel
theorem dX8_year_55 : decode cX8_year 55 = .ok (.if_icmp .ge 96, 3) := by decide +kernel
theorem dX8_year_58 : decode cX8_year 58 = .ok (.aload_n 0, 1) := by decide +kernel
theorem dX8_year_59 : decode cX8_year 59 = .ok (.getfield 36, 3) := by decide +kernel
theorem dX8_year_62 : decode cX8_year 62 = .ok (.invokevirtual 167, 3) := by decide +kernel
theorem dX8_year_65 : decode cX8_year 65 = .ok (.iload 5, 2) := by decide +kernel
theorem dX8_year_67 : decode cX8_year 67 = .ok (.istore 9, 2) := by decide +kernel
theorem dX8_year_69 : decode cX8_year 69 = .ok (.iconst 0, 1) := by decide +kernel
theorem dX8_year_70 : decode cX8_year 70 = .ok (.istore 10, 2) := by decide +kernel
theorem dX8_year_72 : decode cX8_year 72 = .ok (.iload 10, 2) := by decide +kernel
theorem dX8_year_74 : decode cX8_year 74 = .ok (.iconst 3, 1) := by decide +kernel
theorem dX8_year_75 : decode cX8_year 75 = .ok (.if_icmp .ge 60, 3) := by decide +kernel
theorem dX8_year_78 : decode cX8_year 78 = .ok (.bipush 75, 2) := by decide +kernel
theorem dX8_year_80 : decode cX8_year 80 = .ok (.iload 4, 2) := by decide +kernel
theorem dX8_year_82 : decode cX8_year 82 = .ok (.imul, 1) := by decide +kernel
theorem dX8_year_83 : decode cX8_year 83 = .ok (.bipush 74, 2) := by decide +kernel
theorem dX8_year_85 : decode cX8_year 85 = .ok (.iadd, 1) := by decide +kernel
theorem dX8_year_86 : decode cX8_year 86 = .ok (.ldc 245, 2) := by decide +kernel
theorem dX8_year_88 : decode cX8_year 88 = .ok (.irem, 1) := by decide +kernel
theorem dX8_year_89 : decode cX8_year 89 = .ok (.istore 4, 2) := by decide +kernel
theorem dX8_year_91 : decode cX8_year 91 = .ok (.aload_n 0, 1) := by decide +kernel
theorem dX8_year_92 : decode cX8_year 92 = .ok (.getfield 36, 3) := by decide +kernel
theorem dX8_year_95 : decode cX8_year 95 = .ok (.iload 4, 2) := by decide +kernel
theorem dX8_year_97 : decode cX8_year 97 = .ok (.iconst 4, 1) := by decide +kernel
theorem dX8_year_98 : decode cX8_year 98 = .ok (.irem, 1) := by decide +kernel
theorem dX8_year_99 : decode cX8_year 99 = .ok (.invokevirtual 246, 3) := by decide +kernel
theorem dX8_year_102 : decode cX8_year 102 = .ok (.istore 11, 2) := by decide +kernel
theorem dX8_year_104 : decode cX8_year 104 = .ok (.iload 5, 2) := by decide +kernel
theorem dX8_year_106 : decode cX8_year 106 = .ok (.iload 11, 2) := by decide +kernel
theorem dX8_year_108 : decode cX8_year 108 = .ok (.iadd, 1) := by decide +kernel
theorem dX8_year_109 : decode cX8_year 109 = .ok (.istore 5, 2) := by decide +kernel
theorem dX8_year_111 : decode cX8_year 111 = .ok (.iload 11, 2) := by decide +kernel
theorem dX8_year_113 : decode cX8_year 113 = .ok (.ifCond .le 16, 3) := by decide +kernel
theorem dX8_year_116 : decode cX8_year 116 = .ok (.aload_n 0, 1) := by decide +kernel
theorem dX8_year_117 : decode cX8_year 117 = .ok (.getfield 36, 3) := by decide +kernel
theorem dX8_year_120 : decode cX8_year 120 = .ok (.getfield 249, 3) := by decide +kernel
theorem dX8_year_123 : decode cX8_year 123 = .ok (.ifCond .ne 6, 3) := by decide +kernel
theorem dX8_year_126 : decode cX8_year 126 = .ok (.iinc 6 1, 3) := by decide +kernel
theorem dX8_year_129 : decode cX8_year 129 = .ok (.iinc 10 1, 3) := by decide +kernel
theorem dX8_year_132 : decode cX8_year 132 = .ok (.goto (-60), 3) := by decide +kernel
theorem dX8_year_135 : decode cX8_year 135 = .ok (.iload 5, 2) := by decide +kernel
theorem dX8_year_137 : decode cX8_year 137 = .ok (.iload 9, 2) := by decide +kernel
theorem dX8_year_139 : decode cX8_year 139 = .ok (.if_icmp .ne 6, 3) := by decide +kernel
theorem dX8_year_142 : decode cX8_year 142 = .ok (.iinc 7 1, 3) := by decide +kernel
theorem dX8_year_145 : decode cX8_year 145 = .ok (.iinc 8 1, 3) := by decide +kernel
theorem dX8_year_148 : decode cX8_year 148 = .ok (.goto (-96), 3) := by decide +kernel
theorem dX8_year_151 : decode cX8_year 151 = .ok (.iload_n 3, 1) := by decide +kernel
theorem dX8_year_152 : decode cX8_year 152 = .ok (.ifCond .ne 8, 3) := by decide +kernel
theorem dX8_year_155 : decode cX8_year 155 = .ok (.iload 5, 2) := by decide +kernel
theorem dX8_year_157 : decode cX8_year 157 = .ok (.goto 15, 3) := by decide +kernel
theorem dX8_year_160 : decode cX8_year 160 = .ok (.iload_n 3, 1) := by decide +kernel
theorem dX8_year_161 : decode cX8_year 161 = .ok (.iconst 1, 1) := by decide +kernel
theorem dX8_year_162 : decode cX8_year 162 = .ok (.if_icmp .ne 8, 3) := by decide +kernel
theorem dX8_year_165 : decode cX8_year 165 = .ok (.iload 6, 2) := by decide +kernel
theorem dX8_year_167 : decode cX8_year 167 = .ok (.goto 5, 3) := by decide +kernel
theorem dX8_year_170 : decode cX8_year 170 = .ok (.iload 7, 2) := by decide +kernel
theorem dX8_year_172 : decode cX8_year 172 = .ok (.ireturn, 1) := by decide +kernel
theorem dX8_image_0 : decode cX8_image 0 = .ok (.iload_n 1, 1) := by decide +kernel
theorem dX8_image_1 : decode cX8_image 1 = .ok (.ifCond .lt 8, 3) := by decide +kernel
theorem dX8_image_4 : decode cX8_image 4 = .ok (.iload_n 1, 1) := by decide +kernel
theorem dX8_image_5 : decode cX8_image 5 = .ok (.iconst 2, 1) := by decide +kernel
theorem dX8_image_6 : decode cX8_image 6 = .ok (.if_icmp .lt 6, 3) := by decide +kernel
theorem dX8_image_9 : decode cX8_image 9 = .ok (.bipush (-2), 2) := by decide +kernel
theorem dX8_image_11 : decode cX8_image 11 = .ok (.ireturn, 1) := by decide +kernel
theorem dX8_image_12 : decode cX8_image 12 = .ok (.aload_n 0, 1) := by decide +kernel
theorem dX8_image_13 : decode cX8_image 13 = .ok (.getfield 16, 3) := by decide +kernel
theorem dX8_image_16 : decode cX8_image 16 = .ok (.iload_n 1, 1) := by decide +kernel
theorem dX8_image_17 : decode cX8_image 17 = .ok (.aaload, 1) := by decide +kernel
theorem dX8_image_18 : decode cX8_image 18 = .ok (.aload_n 0, 1) := by decide +kernel
theorem dX8_image_19 : decode cX8_image 19 = .ok (.getfield 10, 3) := by decide +kernel
theorem dX8_image_22 : decode cX8_image 22 = .ok (.invokevirtual 251, 3) := by decide +kernel
theorem dX8_image_25 : decode cX8_image 25 = .ok (.aload_n 0, 1) := by decide +kernel
theorem dX8_image_26 : decode cX8_image 26 = .ok (.getfield 20, 3) := by decide +kernel
theorem dX8_image_29 : decode cX8_image 29 = .ok (.iload_n 1, 1) := by decide +kernel
theorem dX8_image_30 : decode cX8_image 30 = .ok (.iconst 1, 1) := by decide +kernel
theorem dX8_image_31 : decode cX8_image 31 = .ok (.bastore, 1) := by decide +kernel
theorem dX8_image_32 : decode cX8_image 32 = .ok (.iconst 1, 1) := by decide +kernel
theorem dX8_image_33 : decode cX8_image 33 = .ok (.ireturn, 1) := by decide +kernel
theorem dX8_restore_0 : decode cX8_restore 0 = .ok (.iload_n 1, 1) := by decide +kernel
theorem dX8_restore_1 : decode cX8_restore 1 = .ok (.ifCond .lt 8, 3) := by decide +kernel
theorem dX8_restore_4 : decode cX8_restore 4 = .ok (.iload_n 1, 1) := by decide +kernel
theorem dX8_restore_5 : decode cX8_restore 5 = .ok (.iconst 2, 1) := by decide +kernel
theorem dX8_restore_6 : decode cX8_restore 6 = .ok (.if_icmp .lt 6, 3) := by decide +kernel
theorem dX8_restore_9 : decode cX8_restore 9 = .ok (.bipush (-2), 2) := by decide +kernel
theorem dX8_restore_11 : decode cX8_restore 11 = .ok (.ireturn, 1) := by decide +kernel
theorem dX8_restore_12 : decode cX8_restore 12 = .ok (.aload_n 0, 1) := by decide +kernel
theorem dX8_restore_13 : decode cX8_restore 13 = .ok (.getfield 20, 3) := by decide +kernel
theorem dX8_restore_16 : decode cX8_restore 16 = .ok (.iload_n 1, 1) := by decide +kernel
theorem dX8_restore_17 : decode cX8_restore 17 = .ok (.baload, 1) := by decide +kernel
theorem dX8_restore_18 : decode cX8_restore 18 = .ok (.ifCond .ne 6, 3) := by decide +kernel
theorem dX8_restore_21 : decode cX8_restore 21 = .ok (.bipush (-3), 2) := by decide +kernel
theorem dX8_restore_23 : decode cX8_restore 23 = .ok (.ireturn, 1) := by decide +kernel
theorem dX8_restore_24 : decode cX8_restore 24 = .ok (.aload_n 0, 1) := by decide +kernel
theorem dX8_restore_25 : decode cX8_restore 25 = .ok (.getfield 10, 3) := by decide +kernel
theorem dX8_restore_28 : decode cX8_restore 28 = .ok (.aload_n 0, 1) := by decide +kernel
theorem dX8_restore_29 : decode cX8_restore 29 = .ok (.getfield 16, 3) := by decide +kernel
theorem dX8_restore_32 : decode cX8_restore 32 = .ok (.iload_n 1, 1) := by decide +kernel
theorem dX8_restore_33 : decode cX8_restore 33 = .ok (.aaload, 1) := by decide +kernel
theorem dX8_restore_34 : decode cX8_restore 34 = .ok (.invokevirtual 251, 3) := by decide +kernel
theorem dX8_restore_37 : decode cX8_restore 37 = .ok (.iconst 1, 1) := by decide +kernel
theorem dX8_restore_38 : decode cX8_restore 38 = .ok (.ireturn, 1) := by decide +kernel
theorem dX8_told_0 : decode cX8_told 0 = .ok (.iload_n 1, 1) := by decide +kernel
theorem dX8_told_1 : decode cX8_told 1 = .ok (.tableswitch 63 0 3 #[31, 39, 47, 55], 31) := by decide +kernel
theorem dX8_told_32 : decode cX8_told 32 = .ok (.aload_n 0, 1) := by decide +kernel
theorem dX8_told_33 : decode cX8_told 33 = .ok (.getfield 27, 3) := by decide +kernel
theorem dX8_told_36 : decode cX8_told 36 = .ok (.getfield 122, 3) := by decide +kernel
theorem dX8_told_39 : decode cX8_told 39 = .ok (.ireturn, 1) := by decide +kernel
theorem dX8_told_40 : decode cX8_told 40 = .ok (.aload_n 0, 1) := by decide +kernel
theorem dX8_told_41 : decode cX8_told 41 = .ok (.getfield 10, 3) := by decide +kernel
theorem dX8_told_44 : decode cX8_told 44 = .ok (.getfield 79, 3) := by decide +kernel
theorem dX8_told_47 : decode cX8_told 47 = .ok (.ireturn, 1) := by decide +kernel
theorem dX8_told_48 : decode cX8_told 48 = .ok (.aload_n 0, 1) := by decide +kernel
theorem dX8_told_49 : decode cX8_told 49 = .ok (.getfield 10, 3) := by decide +kernel
theorem dX8_told_52 : decode cX8_told 52 = .ok (.getfield 107, 3) := by decide +kernel
theorem dX8_told_55 : decode cX8_told 55 = .ok (.ireturn, 1) := by decide +kernel
theorem dX8_told_56 : decode cX8_told 56 = .ok (.aload_n 0, 1) := by decide +kernel
theorem dX8_told_57 : decode cX8_told 57 = .ok (.getfield 10, 3) := by decide +kernel
theorem dX8_told_60 : decode cX8_told 60 = .ok (.invokevirtual 176, 3) := by decide +kernel
theorem dX8_told_63 : decode cX8_told 63 = .ok (.ireturn, 1) := by decide +kernel
theorem dX8_told_64 : decode cX8_told 64 = .ok (.iload_n 1, 1) := by decide +kernel
theorem dX8_told_65 : decode cX8_told 65 = .ok (.bipush 100, 2) := by decide +kernel
theorem dX8_told_67 : decode cX8_told 67 = .ok (.if_icmp .lt 18, 3) := by decide +kernel
theorem dX8_told_70 : decode cX8_told 70 = .ok (.aload_n 0, 1) := by decide +kernel
theorem dX8_told_71 : decode cX8_told 71 = .ok (.iload_n 1, 1) := by decide +kernel
theorem dX8_told_72 : decode cX8_told 72 = .ok (.bipush 100, 2) := by decide +kernel
theorem dX8_told_74 : decode cX8_told 74 = .ok (.idiv, 1) := by decide +kernel
theorem dX8_told_75 : decode cX8_told 75 = .ok (.iconst 1, 1) := by decide +kernel
theorem dX8_told_76 : decode cX8_told 76 = .ok (.isub, 1) := by decide +kernel
theorem dX8_told_77 : decode cX8_told 77 = .ok (.iload_n 1, 1) := by decide +kernel
theorem dX8_told_78 : decode cX8_told 78 = .ok (.bipush 100, 2) := by decide +kernel
theorem dX8_told_80 : decode cX8_told 80 = .ok (.irem, 1) := by decide +kernel
theorem dX8_told_81 : decode cX8_told 81 = .ok (.invokevirtual 254, 3) := by decide +kernel
theorem dX8_told_84 : decode cX8_told 84 = .ok (.ireturn, 1) := by decide +kernel
theorem dX8_told_85 : decode cX8_told 85 = .ok (.iload_n 1, 1) := by decide +kernel
theorem dX8_told_86 : decode cX8_told 86 = .ok (.bipush 10, 2) := by decide +kernel
theorem dX8_told_88 : decode cX8_told 88 = .ok (.if_icmp .lt 18, 3) := by decide +kernel
theorem dX8_told_91 : decode cX8_told 91 = .ok (.aload_n 0, 1) := by decide +kernel
theorem dX8_told_92 : decode cX8_told 92 = .ok (.iload_n 1, 1) := by decide +kernel
theorem dX8_told_93 : decode cX8_told 93 = .ok (.bipush 10, 2) := by decide +kernel
theorem dX8_told_95 : decode cX8_told 95 = .ok (.idiv, 1) := by decide +kernel
theorem dX8_told_96 : decode cX8_told 96 = .ok (.iconst 1, 1) := by decide +kernel
theorem dX8_told_97 : decode cX8_told 97 = .ok (.isub, 1) := by decide +kernel
theorem dX8_told_98 : decode cX8_told 98 = .ok (.iload_n 1, 1) := by decide +kernel
theorem dX8_told_99 : decode cX8_told 99 = .ok (.bipush 10, 2) := by decide +kernel
theorem dX8_told_101 : decode cX8_told 101 = .ok (.irem, 1) := by decide +kernel
theorem dX8_told_102 : decode cX8_told 102 = .ok (.invokevirtual 257, 3) := by decide +kernel
theorem dX8_told_105 : decode cX8_told 105 = .ok (.ireturn, 1) := by decide +kernel
theorem dX8_told_106 : decode cX8_told 106 = .ok (.bipush (-2), 2) := by decide +kernel
theorem dX8_told_108 : decode cX8_told 108 = .ok (.ireturn, 1) := by decide +kernel
theorem dX8_toldOfThing_0 : decode cX8_toldOfThing 0 = .ok (.aload_n 0, 1) := by decide +kernel
theorem dX8_toldOfThing_1 : decode cX8_toldOfThing 1 = .ok (.getfield 10, 3) := by decide +kernel
theorem dX8_toldOfThing_4 : decode cX8_toldOfThing 4 = .ok (.iload_n 1, 1) := by decide +kernel
theorem dX8_toldOfThing_5 : decode cX8_toldOfThing 5 = .ok (.invokevirtual 87, 3) := by decide +kernel
theorem dX8_toldOfThing_8 : decode cX8_toldOfThing 8 = .ok (.ifCond .eq 20, 3) := by decide +kernel
theorem dX8_toldOfThing_11 : decode cX8_toldOfThing 11 = .ok (.iload_n 2, 1) := by decide +kernel
theorem dX8_toldOfThing_12 : decode cX8_toldOfThing 12 = .ok (.iconst 5, 1) := by decide +kernel
theorem dX8_toldOfThing_13 : decode cX8_toldOfThing 13 = .ok (.if_icmp .gt 15, 3) := by decide +kernel
theorem dX8_toldOfThing_16 : decode cX8_toldOfThing 16 = .ok (.aload_n 0, 1) := by decide +kernel
theorem dX8_toldOfThing_17 : decode cX8_toldOfThing 17 = .ok (.getfield 10, 3) := by decide +kernel
theorem dX8_toldOfThing_20 : decode cX8_toldOfThing 20 = .ok (.iload_n 1, 1) := by decide +kernel
theorem dX8_toldOfThing_21 : decode cX8_toldOfThing 21 = .ok (.iload_n 2, 1) := by decide +kernel
theorem dX8_toldOfThing_22 : decode cX8_toldOfThing 22 = .ok (.invokevirtual 95, 3) := by decide +kernel
theorem dX8_toldOfThing_25 : decode cX8_toldOfThing 25 = .ok (.goto 5, 3) := by decide +kernel
theorem dX8_toldOfThing_28 : decode cX8_toldOfThing 28 = .ok (.bipush (-2), 2) := by decide +kernel
theorem dX8_toldOfThing_30 : decode cX8_toldOfThing 30 = .ok (.ireturn, 1) := by decide +kernel
theorem dX8_toldOfGuest_0 : decode cX8_toldOfGuest 0 = .ok (.aload_n 0, 1) := by decide +kernel
theorem dX8_toldOfGuest_1 : decode cX8_toldOfGuest 1 = .ok (.getfield 10, 3) := by decide +kernel
theorem dX8_toldOfGuest_4 : decode cX8_toldOfGuest 4 = .ok (.iload_n 1, 1) := by decide +kernel
theorem dX8_toldOfGuest_5 : decode cX8_toldOfGuest 5 = .ok (.invokevirtual 116, 3) := by decide +kernel
theorem dX8_toldOfGuest_8 : decode cX8_toldOfGuest 8 = .ok (.ifCond .eq 20, 3) := by decide +kernel
theorem dX8_toldOfGuest_11 : decode cX8_toldOfGuest 11 = .ok (.iload_n 2, 1) := by decide +kernel
theorem dX8_toldOfGuest_12 : decode cX8_toldOfGuest 12 = .ok (.iconst 3, 1) := by decide +kernel
theorem dX8_toldOfGuest_13 : decode cX8_toldOfGuest 13 = .ok (.if_icmp .gt 15, 3) := by decide +kernel
theorem dX8_toldOfGuest_16 : decode cX8_toldOfGuest 16 = .ok (.aload_n 0, 1) := by decide +kernel
theorem dX8_toldOfGuest_17 : decode cX8_toldOfGuest 17 = .ok (.getfield 10, 3) := by decide +kernel
theorem dX8_toldOfGuest_20 : decode cX8_toldOfGuest 20 = .ok (.iload_n 1, 1) := by decide +kernel
theorem dX8_toldOfGuest_21 : decode cX8_toldOfGuest 21 = .ok (.iload_n 2, 1) := by decide +kernel
theorem dX8_toldOfGuest_22 : decode cX8_toldOfGuest 22 = .ok (.invokevirtual 260, 3) := by decide +kernel
theorem dX8_toldOfGuest_25 : decode cX8_toldOfGuest 25 = .ok (.goto 5, 3) := by decide +kernel
theorem dX8_toldOfGuest_28 : decode cX8_toldOfGuest 28 = .ok (.bipush (-2), 2) := by decide +kernel
theorem dX8_toldOfGuest_30 : decode cX8_toldOfGuest 30 = .ok (.ireturn, 1) := by decide +kernel
theorem dX8_isRowLength_0 : decode cX8_isRowLength 0 = .ok (.iload_n 0, 1) := by decide +kernel
theorem dX8_isRowLength_1 : decode cX8_isRowLength 1 = .ok (.ifCond .lt 13, 3) := by decide +kernel
theorem dX8_isRowLength_4 : decode cX8_isRowLength 4 = .ok (.iload_n 0, 1) := by decide +kernel
theorem dX8_isRowLength_5 : decode cX8_isRowLength 5 = .ok (.bipush 6, 2) := by decide +kernel
theorem dX8_isRowLength_7 : decode cX8_isRowLength 7 = .ok (.if_icmp .gt 7, 3) := by decide +kernel
theorem dX8_isRowLength_10 : decode cX8_isRowLength 10 = .ok (.iconst 1, 1) := by decide +kernel
theorem dX8_isRowLength_11 : decode cX8_isRowLength 11 = .ok (.goto 4, 3) := by decide +kernel
theorem dX8_isRowLength_14 : decode cX8_isRowLength 14 = .ok (.iconst 0, 1) := by decide +kernel
theorem dX8_isRowLength_15 : decode cX8_isRowLength 15 = .ok (.ireturn, 1) := by decide +kernel
theorem dX8_runEvening_0 : decode cX8_runEvening 0 = .ok (.aload_n 0, 1) := by decide +kernel
theorem dX8_runEvening_1 : decode cX8_runEvening 1 = .ok (.getfield 27, 3) := by decide +kernel
theorem dX8_runEvening_4 : decode cX8_runEvening 4 = .ok (.aload_n 0, 1) := by decide +kernel
theorem dX8_runEvening_5 : decode cX8_runEvening 5 = .ok (.getfield 10, 3) := by decide +kernel
theorem dX8_runEvening_8 : decode cX8_runEvening 8 = .ok (.getfield 79, 3) := by decide +kernel
theorem dX8_runEvening_11 : decode cX8_runEvening 11 = .ok (.invokevirtual 125, 3) := by decide +kernel
theorem dX8_runEvening_14 : decode cX8_runEvening 14 = .ok (.bipush (-6), 2) := by decide +kernel
theorem dX8_runEvening_16 : decode cX8_runEvening 16 = .ok (.if_icmp .eq 6, 3) := by decide +kernel
theorem dX8_runEvening_19 : decode cX8_runEvening 19 = .ok (.bipush (-5), 2) := by decide +kernel
theorem dX8_runEvening_21 : decode cX8_runEvening 21 = .ok (.ireturn, 1) := by decide +kernel
theorem dX8_runEvening_22 : decode cX8_runEvening 22 = .ok (.aload_n 0, 1) := by decide +kernel
theorem dX8_runEvening_23 : decode cX8_runEvening 23 = .ok (.getfield 45, 3) := by decide +kernel
theorem dX8_runEvening_26 : decode cX8_runEvening 26 = .ok (.aload_n 0, 1) := by decide +kernel
theorem dX8_runEvening_27 : decode cX8_runEvening 27 = .ok (.getfield 27, 3) := by decide +kernel
theorem dX8_runEvening_30 : decode cX8_runEvening 30 = .ok (.invokevirtual 263, 3) := by decide +kernel
theorem dX8_runEvening_33 : decode cX8_runEvening 33 = .ok (.aload_n 0, 1) := by decide +kernel
theorem dX8_runEvening_34 : decode cX8_runEvening 34 = .ok (.getfield 45, 3) := by decide +kernel
theorem dX8_runEvening_37 : decode cX8_runEvening 37 = .ok (.getfield 132, 3) := by decide +kernel
theorem dX8_runEvening_40 : decode cX8_runEvening 40 = .ok (.bipush (-6), 2) := by decide +kernel
theorem dX8_runEvening_42 : decode cX8_runEvening 42 = .ok (.if_icmp .ne 7, 3) := by decide +kernel
theorem dX8_runEvening_45 : decode cX8_runEvening 45 = .ok (.iconst 0, 1) := by decide +kernel
theorem dX8_runEvening_46 : decode cX8_runEvening 46 = .ok (.goto 5, 3) := by decide +kernel
theorem dX8_runEvening_49 : decode cX8_runEvening 49 = .ok (.bipush (-3), 2) := by decide +kernel
theorem dX8_runEvening_51 : decode cX8_runEvening 51 = .ok (.ireturn, 1) := by decide +kernel
